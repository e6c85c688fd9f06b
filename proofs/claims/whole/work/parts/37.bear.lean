/-! ===== who bears, bases, what a COUNTRY pays (written by wip/gen/gen_bear.py) ===== -/
theorem wi_m_2 (M : Nat → Nat → Int32) (p i : Nat) (a b : Int32) : wi_m (wi_m M p i a) p i b = wi_m M p i b := by
  funext q j
  simp only [wi_m_eq]
  grind
theorem wi_m_i (M : Nat → Nat → Int32) (p i : Nat) (a : Int32) : wi_m M p i a p i = a := by
  rw [wi_m_eq, if_pos rfl, if_pos rfl]
theorem wi_m_id (M : Nat → Nat → Int32) (p i : Nat) : wi_m M p i (M p i) = M := by
  funext q j
  rw [wi_m_eq]
  grind
def jm_br (ow : Nat → Int32) (le : Int32) : Nat → Int32
  | 0 => -1
  | k + 1 => if ow k < (if 1 < le then le else 1) then jm_br ow le k else if jm_br ow le k = -1 then nI k else if ow k ≤ ow (jm_br ow le k).toNatClampNeg then jm_br ow le k else nI k
theorem jm_br_ok (ow : Nat → Int32) (le : Int32) : ∀ k, jm_br ow le k = -1 ∨ ∃ c, c < k ∧ jm_br ow le k = nI c
  | 0 => Or.inl rfl
  | k + 1 => by
    have ih : jm_br ow le k = -1 ∨ ∃ c, c < k + 1 ∧ jm_br ow le k = nI c := by
      rcases jm_br_ok ow le k with h | ⟨c, hc, h⟩
      · exact Or.inl h
      · exact Or.inr ⟨c, by omega, h⟩
    have i2 : nI k = -1 ∨ ∃ c, c < k + 1 ∧ nI k = nI c := Or.inr ⟨k, by omega, rfl⟩
    unfold jm_br
    by_cases h1 : ow k < (if 1 < le then le else 1)
    · rw [if_pos h1]
      exact ih
    rw [if_neg h1]
    by_cases h2 : jm_br ow le k = -1
    · rw [if_pos h2]
      exact i2
    rw [if_neg h2]
    by_cases h3 : ow k ≤ ow (jm_br ow le k).toNatClampNeg
    · rw [if_pos h3]
      exact ih
    · rw [if_neg h3]
      exact i2
def jm_le (ow : Nat → Int32) (le br : Int32) : Nat → Int32
  | 0 => 0
  | c + 1 => jm_le ow le br c + (if le ≤ ow c then 0 else if br = -1 then 0 else ow c)
def jm_ba (ow : Nat → Int32) (le br lent : Int32) (c : Nat) : Int32 := if br = nI c then (if le ≤ ow c then ow c else 0) + lent else if le ≤ ow c then ow c else 0
def jm_I9 (M : Nat → Nat → Int32) (p : Nat) (ow : Nat → Int32) (le br : Int32) (k : Nat) (M' : Nat → Nat → Int32) : Prop := (∀ q, q ≠ p → q ≠ p + 12 → M' q = M q) ∧ (∀ i, i ≠ 11 → M' p i = M p i) ∧ M' p 11 = jm_le ow le br k ∧ ∀ c, c < k → M' (p + 12) c = if le ≤ ow c then ow c else 0
def jm_Lb (M : Nat → Nat → Int32) (p : Nat) (ow : Nat → Int32) (le br : Int32) (M' : Nat → Nat → Int32) : Prop := (∀ q, q ≠ p → q ≠ p + 12 → M' q = M q) ∧ (∀ i, i ≠ 11 → M' p i = M p i) ∧ M' p 11 = jm_le ow le br 5 ∧ ∀ c, c < 5 → M' (p + 12) c = jm_ba ow le br (jm_le ow le br 5) c
def jm_su (lw : Nat → Int32) (c : Nat) (n g : Int32) : Int32 := n * lw (4 * c + 1) + ((n * lw (4 * c + 2)) * g) / 10000
def jm_na (lw : Nat → Int32) (c : Nat) (own g : Int32) : Int32 := if own < lw (4 * c) then 0 else if own ≤ 0 then 0 else jm_su lw c own g
def jm_th (lw : Nat → Int32) (c : Nat) (J W b : Int32) : Int32 := if J < lw (4 * c) then 0 else if b = 0 then 0 else jm_su lw c J W
theorem rp_X0_findBearer_15_7s {X : Nat × (Nat → Int32)} {M : Nat → Nat → Int32} {L : Nat → Nat → Int64} {G : Nat → Nat → Option Nat} {Q : am_Q} {x1 : Int32} {k : Nat} (hk : k < 5) (h : (((M 24 k) < (if 1 < x1 then x1 else 1) → (am_T X 4 7 [some (.ref 15), some (.int x1), some (.int (nI (k + 1))), none] [] (jm_s M L G) (0, 0) Q)) ∧ (¬ (M 24 k) < (if 1 < x1 then x1 else 1) → (((M 15 10) = (-1) → (am_T X 4 7 [some (.ref 15), some (.int x1), some (.int (nI (k + 1))), none] [] (jm_s (wi_m M 15 10 (nI k)) L G) (0, 0) Q)) ∧ (¬ (M 15 10) = (-1) → (vp_in (M 15 10) 5 ∧ (((M 24 k) ≤ (M 24 (M 15 10).toNatClampNeg) → (am_T X 4 7 [some (.ref 15), some (.int x1), some (.int (nI (k + 1))), none] [] (jm_s M L G) (0, 0) Q)) ∧ (¬ (M 24 k) ≤ (M 24 (M 15 10).toNatClampNeg) → (am_T X 4 7 [some (.ref 15), some (.int x1), some (.int (nI (k + 1))), none] [] (jm_s (wi_m M 15 10 (nI k)) L G) (0, 0) Q))))))))) : am_T X 4 7 [some (.ref 15), some (.int x1), some (.int (nI k)), none] [] (jm_s M L G) (0, 0) Q := rg_X0_findBearer_15_7 (by
  rw [nI_clamp (show k < 2147483648 by omega), nI_1 k]
  exact ⟨fun e => absurd e (nI_ge hk (by decide)), fun _ => ⟨(vp_in_nI hk (by decide)), ⟨fun e1 => ⟨fun _ => (h.1 e1), fun e => absurd rfl e⟩, fun e1 => ⟨fun e => absurd e (by decide), fun _ => ⟨fun e2 => ((h.2 e1).1 e2), fun e2 => ⟨(vp_in_nI hk (by decide)), ⟨((h.2 e1).2 e2).1, ⟨fun e4 => (((h.2 e1).2 e2).2.1 e4), fun e4 => (((h.2 e1).2 e2).2.2 e4)⟩⟩⟩⟩⟩⟩⟩⟩)
theorem rp_X0_findBearer_15_7e {X : Nat × (Nat → Int32)} {M : Nat → Nat → Int32} {L : Nat → Nat → Int64} {G : Nat → Nat → Option Nat} {Q : am_Q} {x1 : Int32}  (h : Q (some none) (jm_s M L G)) : am_T X 4 7 [some (.ref 15), some (.int x1), some (.int (nI 5)), none] [] (jm_s M L G) (0, 0) Q := rg_X0_findBearer_15_7 (by
  rw [nI_clamp (show 5 < 2147483648 by omega), nI_1 5]
  exact ⟨fun _ => h, fun e => absurd (nI_le (Nat.le_refl 5) (by decide)) e⟩)
theorem rp_X0_layBases_15_7s {X : Nat × (Nat → Int32)} {M : Nat → Nat → Int32} {L : Nat → Nat → Int64} {G : Nat → Nat → Option Nat} {Q : am_Q} {x1 : Int32} {k : Nat} (hk : k < 5) (h : ((x1 ≤ (M 24 k) → (am_T X 5 7 [some (.ref 15), some (.int x1), some (.int (nI (k + 1))), none] [] (jm_s (wi_m (wi_m M 27 k (M 24 k)) 15 11 ((M 15 11) + 0)) L G) (0, 0) Q)) ∧ (¬ x1 ≤ (M 24 k) → (((M 15 10) = (-1) → (am_T X 5 7 [some (.ref 15), some (.int x1), some (.int (nI (k + 1))), none] [] (jm_s (wi_m (wi_m M 27 k 0) 15 11 ((M 15 11) + 0)) L G) (0, 0) Q)) ∧ (¬ (M 15 10) = (-1) → (am_T X 5 7 [some (.ref 15), some (.int x1), some (.int (nI (k + 1))), none] [] (jm_s (wi_m (wi_m M 27 k 0) 15 11 ((M 15 11) + (M 24 k))) L G) (0, 0) Q)))))) : am_T X 5 7 [some (.ref 15), some (.int x1), some (.int (nI k)), none] [] (jm_s M L G) (0, 0) Q := rg_X0_layBases_15_7 (by
  rw [nI_clamp (show k < 2147483648 by omega), nI_1 k]
  exact ⟨fun e => absurd e (nI_ge hk (by decide)), fun _ => ⟨(vp_in_nI hk (by decide)), ⟨fun e1 => ⟨fun _ => ⟨(vp_in_nI hk (by decide)), ⟨(vp_in_nI hk (by decide)), ⟨fun _ => (h.1 e1), fun e => absurd rfl e⟩⟩⟩, fun e => absurd rfl e⟩, fun e1 => ⟨fun e => absurd e (by decide), fun _ => ⟨(vp_in_nI hk (by decide)), ⟨fun e => absurd e (by decide), fun _ => ⟨fun e2 => ((h.2 e1).1 e2), fun e2 => ⟨(vp_in_nI hk (by decide)), ((h.2 e1).2 e2)⟩⟩⟩⟩⟩⟩⟩⟩)
theorem rp_X0_layBases_15_7e {X : Nat × (Nat → Int32)} {M : Nat → Nat → Int32} {L : Nat → Nat → Int64} {G : Nat → Nat → Option Nat} {Q : am_Q} {x1 : Int32}  (h : (((M 15 10) = (-1) → (Q (some none) (jm_s M L G))) ∧ (¬ (M 15 10) = (-1) → (vp_in (M 15 10) 5 ∧ (Q (some none) (jm_s (wi_m M 27 (M 15 10).toNatClampNeg ((M 27 (M 15 10).toNatClampNeg) + (M 15 11))) L G)))))) : am_T X 5 7 [some (.ref 15), some (.int x1), some (.int (nI 5)), none] [] (jm_s M L G) (0, 0) Q := rg_X0_layBases_15_7 (by
  rw [nI_clamp (show 5 < 2147483648 by omega), nI_1 5]
  exact ⟨fun _ => ⟨fun e0 => (h.1 e0), fun e0 => ⟨(h.2 e0).1, ⟨(h.2 e0).1, (h.2 e0).2⟩⟩⟩, fun e => absurd (nI_le (Nat.le_refl 5) (by decide)) e⟩)
theorem rp_X0_reckonCountry_15_5_6 {X : Nat × (Nat → Int32)} {M : Nat → Nat → Int32} {L : Nat → Nat → Int64} {G : Nat → Nat → Option Nat} {Q : am_Q} {s0 : Int32} {c : Nat} (hc : c < 5) (h : (((M 24 c) < s0 → (((M 15 8) < s0 → (∃ K : Int32 → am_S → Prop, am_T X 3 0 [some (.int (((wi_m (wi_m M 28 c 0) 29 c 0) 29 c) * (M 27 c))), some (.int (M 15 8))] [] (jm_s (wi_m (wi_m M 28 c 0) 29 c 0) L G) (0, 0) (am_qi K) ∧ ∀ v σ', K v σ' → am_T X 6 142 [none, none, none, none, none, none] [(.int v), (.int (nI c)), (.ref 30)] σ' (0, 0) Q)) ∧ (¬ (M 15 8) < s0 → (((M 27 c) = 0 → (∃ K : Int32 → am_S → Prop, am_T X 3 0 [some (.int (((wi_m (wi_m M 28 c 0) 29 c 0) 29 c) * (M 27 c))), some (.int (M 15 8))] [] (jm_s (wi_m (wi_m M 28 c 0) 29 c 0) L G) (0, 0) (am_qi K) ∧ ∀ v σ', K v σ' → am_T X 6 142 [none, none, none, none, none, none] [(.int v), (.int (nI c)), (.ref 30)] σ' (0, 0) Q)) ∧ (¬ (M 27 c) = 0 → (∃ K : Int32 → am_S → Prop, am_T X 7 0 [some (.ref 5), some (.int (nI c)), some (.int (M 15 8)), some (.int (M 15 9)), none] [] (jm_s (wi_m M 28 c 0) L G) (0, 0) (am_qi K) ∧ ∀ v σ', K v σ' → am_T X 6 112 [some (.ref 15), none, some (.int (nI c)), none, none, none] [(.int v), (.int (nI c)), (.ref 29)] σ' (0, 0) Q)))))) ∧ (¬ (M 24 c) < s0 → (((M 24 c) ≤ 0 → (((M 15 8) < s0 → (∃ K : Int32 → am_S → Prop, am_T X 3 0 [some (.int (((wi_m (wi_m M 28 c 0) 29 c 0) 29 c) * (M 27 c))), some (.int (M 15 8))] [] (jm_s (wi_m (wi_m M 28 c 0) 29 c 0) L G) (0, 0) (am_qi K) ∧ ∀ v σ', K v σ' → am_T X 6 142 [none, none, none, none, none, none] [(.int v), (.int (nI c)), (.ref 30)] σ' (0, 0) Q)) ∧ (¬ (M 15 8) < s0 → (((M 27 c) = 0 → (∃ K : Int32 → am_S → Prop, am_T X 3 0 [some (.int (((wi_m (wi_m M 28 c 0) 29 c 0) 29 c) * (M 27 c))), some (.int (M 15 8))] [] (jm_s (wi_m (wi_m M 28 c 0) 29 c 0) L G) (0, 0) (am_qi K) ∧ ∀ v σ', K v σ' → am_T X 6 142 [none, none, none, none, none, none] [(.int v), (.int (nI c)), (.ref 30)] σ' (0, 0) Q)) ∧ (¬ (M 27 c) = 0 → (∃ K : Int32 → am_S → Prop, am_T X 7 0 [some (.ref 5), some (.int (nI c)), some (.int (M 15 8)), some (.int (M 15 9)), none] [] (jm_s (wi_m M 28 c 0) L G) (0, 0) (am_qi K) ∧ ∀ v σ', K v σ' → am_T X 6 112 [some (.ref 15), none, some (.int (nI c)), none, none, none] [(.int v), (.int (nI c)), (.ref 29)] σ' (0, 0) Q)))))) ∧ (¬ (M 24 c) ≤ 0 → (∃ K : Int32 → am_S → Prop, am_T X 7 0 [some (.ref 5), some (.int (nI c)), some (.int (M 24 c)), some (.int (M 26 c)), none] [] (jm_s M L G) (0, 0) (am_qi K) ∧ ∀ v σ', K v σ' → am_T X 6 60 [some (.ref 15), some (.ref 5), some (.int (nI c)), some (.int s0), none, none] [(.int v), (.int (nI c)), (.ref 28)] σ' (0, 0) Q)))))) : am_T X 6 6 [some (.ref 15), some (.ref 5), some (.int (nI c)), none, none, none] [(.int s0)] (jm_s M L G) (0, 0) Q := rg_X0_reckonCountry_15_5_6 (by
  rw [nI_clamp (show c < 2147483648 by omega)]
  exact ⟨(vp_in_nI hc (by decide)), ⟨fun e1 => ⟨fun _ => ⟨(vp_in_nI hc (by decide)), ⟨fun e2 => ⟨fun _ => ⟨(vp_in_nI hc (by decide)), ⟨(vp_in_nI hc (by decide)), ⟨(vp_in_nI hc (by decide)), ((h.1 e1).1 e2)⟩⟩⟩, fun e => absurd rfl e⟩, fun e2 => ⟨(vp_in_nI hc (by decide)), ⟨fun e3 => ⟨fun _ => ⟨(vp_in_nI hc (by decide)), ⟨(vp_in_nI hc (by decide)), ⟨(vp_in_nI hc (by decide)), (((h.1 e1).2 e2).1 e3)⟩⟩⟩, fun e => absurd rfl e⟩, fun e3 => ⟨fun e => absurd e (by decide), fun _ => (((h.1 e1).2 e2).2 e3)⟩⟩⟩⟩⟩, fun e => absurd rfl e⟩, fun e1 => ⟨(vp_in_nI hc (by decide)), ⟨fun e2 => ⟨fun _ => ⟨(vp_in_nI hc (by decide)), ⟨fun e3 => ⟨fun _ => ⟨(vp_in_nI hc (by decide)), ⟨(vp_in_nI hc (by decide)), ⟨(vp_in_nI hc (by decide)), (((h.2 e1).1 e2).1 e3)⟩⟩⟩, fun e => absurd rfl e⟩, fun e3 => ⟨(vp_in_nI hc (by decide)), ⟨fun e4 => ⟨fun _ => ⟨(vp_in_nI hc (by decide)), ⟨(vp_in_nI hc (by decide)), ⟨(vp_in_nI hc (by decide)), ((((h.2 e1).1 e2).2 e3).1 e4)⟩⟩⟩, fun e => absurd rfl e⟩, fun e4 => ⟨fun e => absurd e (by decide), fun _ => ((((h.2 e1).1 e2).2 e3).2 e4)⟩⟩⟩⟩⟩, fun e => absurd rfl e⟩, fun e2 => ⟨fun e => absurd e (by decide), fun _ => ⟨(vp_in_nI hc (by decide)), ⟨(vp_in_nI hc (by decide)), ((h.2 e1).2 e2)⟩⟩⟩⟩⟩⟩⟩)
theorem rp_X0_reckonCountry_15_5_60 {X : Nat × (Nat → Int32)} {M : Nat → Nat → Int32} {L : Nat → Nat → Int64} {G : Nat → Nat → Option Nat} {Q : am_Q} {x3 : Int32} {s2 : Int32} {c d : Nat} (hc : c < 5) (hd : d < 5) (h : (((M 15 8) < x3 → (∃ K : Int32 → am_S → Prop, am_T X 3 0 [some (.int (((wi_m (wi_m M 28 d s2) 29 c 0) 29 c) * (M 27 c))), some (.int (M 15 8))] [] (jm_s (wi_m (wi_m M 28 d s2) 29 c 0) L G) (0, 0) (am_qi K) ∧ ∀ v σ', K v σ' → am_T X 6 142 [none, none, none, none, none, none] [(.int v), (.int (nI c)), (.ref 30)] σ' (0, 0) Q)) ∧ (¬ (M 15 8) < x3 → (((M 27 c) = 0 → (∃ K : Int32 → am_S → Prop, am_T X 3 0 [some (.int (((wi_m (wi_m M 28 d s2) 29 c 0) 29 c) * (M 27 c))), some (.int (M 15 8))] [] (jm_s (wi_m (wi_m M 28 d s2) 29 c 0) L G) (0, 0) (am_qi K) ∧ ∀ v σ', K v σ' → am_T X 6 142 [none, none, none, none, none, none] [(.int v), (.int (nI c)), (.ref 30)] σ' (0, 0) Q)) ∧ (¬ (M 27 c) = 0 → (∃ K : Int32 → am_S → Prop, am_T X 7 0 [some (.ref 5), some (.int (nI c)), some (.int (M 15 8)), some (.int (M 15 9)), none] [] (jm_s (wi_m M 28 d s2) L G) (0, 0) (am_qi K) ∧ ∀ v σ', K v σ' → am_T X 6 112 [some (.ref 15), none, some (.int (nI c)), none, none, none] [(.int v), (.int (nI c)), (.ref 29)] σ' (0, 0) Q)))))) : am_T X 6 60 [some (.ref 15), some (.ref 5), some (.int (nI c)), some (.int x3), none, none] [(.int s2), (.int (nI d)), (.ref 28)] (jm_s M L G) (0, 0) Q := rg_X0_reckonCountry_15_5_60 (by
  rw [nI_clamp (show c < 2147483648 by omega), nI_clamp (show d < 2147483648 by omega)]
  exact ⟨(vp_in_nI hd (by decide)), ⟨fun e1 => ⟨fun _ => ⟨(vp_in_nI hc (by decide)), ⟨(vp_in_nI hc (by decide)), ⟨(vp_in_nI hc (by decide)), (h.1 e1)⟩⟩⟩, fun e => absurd rfl e⟩, fun e1 => ⟨(vp_in_nI hc (by decide)), ⟨fun e3 => ⟨fun _ => ⟨(vp_in_nI hc (by decide)), ⟨(vp_in_nI hc (by decide)), ⟨(vp_in_nI hc (by decide)), ((h.2 e1).1 e3)⟩⟩⟩, fun e => absurd rfl e⟩, fun e3 => ⟨fun e => absurd e (by decide), fun _ => ((h.2 e1).2 e3)⟩⟩⟩⟩⟩)
section Bear15
variable {X : Nat × (Nat → Int32)} {M : Nat → Nat → Int32} {L : Nat → Nat → Int64} {G : Nat → Nat → Option Nat} {Q : am_Q}
theorem ct_findBearer_15 {le : Int32} (hQ : Q (some none) (jm_s (wi_m M 15 10 (jm_br (M 24) le 5)) L G)) : am_T X 4 0 [some (.ref 15), some (.int le), none, none] [] (jm_s M L G) (0, 0) Q := by
  refine rg_X0_findBearer_15_0 ?_
  refine lp_dn (P := fun k => am_T X 4 7 [some (.ref 15), some (.int le), some (.int (nI k)), none] [] (jm_s (wi_m M 15 10 (jm_br (M 24) le k)) L G) (0, 0) Q) 5 ?_ ?_ 0 (by decide)
  · exact rp_X0_findBearer_15_7e hQ
  · intro k hk ih
    refine rp_X0_findBearer_15_7s hk ?_
    rw [wi_m_i, wi_m_p _ _ (show 24 ≠ 15 by decide), wi_m_2]
    unfold jm_br at ih
    refine ⟨fun h => ?_, fun h => ⟨fun h2 => ?_, fun h2 => ⟨?_, fun h3 => ?_, fun h3 => ?_⟩⟩⟩
    · rw [if_pos h] at ih
      exact ih
    · rw [if_neg h, if_pos h2] at ih
      exact ih
    · rcases jm_br_ok (M 24) le k with e | ⟨c, hc, e⟩
      · exact absurd e h2
      · rw [e]
        exact vp_in_nI (by omega) (by decide)
    · rw [if_neg h, if_neg h2, if_pos h3] at ih
      exact ih
    · rw [if_neg h, if_neg h2, if_neg h3] at ih
      exact ih
theorem ct_layBases_15 {le : Int32} (hb : M 15 10 = -1 ∨ ∃ c, c < 5 ∧ M 15 10 = nI c) (hQ : ∀ M', jm_Lb M 15 (M 24) le (M 15 10) M' → Q (some none) (jm_s M' L G)) : am_T X 5 0 [some (.ref 15), some (.int le), none, none] [] (jm_s M L G) (0, 0) Q := by
  refine rg_X0_layBases_15_0 ?_
  refine lp_dn (P := fun k => ∀ M1, jm_I9 M 15 (M 24) le (M 15 10) k M1 → am_T X 5 7 [some (.ref 15), some (.int le), some (.int (nI k)), none] [] (jm_s M1 L G) (0, 0) Q) 5 ?_ ?_ 0 (by decide) _ ⟨fun q h1 h2 => wi_m_p _ _ h1, fun i h => ?_, ?_, fun c hc => absurd hc (Nat.not_lt_zero c)⟩
  · intro M1 ⟨h1, h2, h3, h4⟩
    have e10 : M1 15 10 = M 15 10 := h2 10 (by decide)
    refine rp_X0_layBases_15_7e ?_
    rw [e10]
    refine ⟨fun h => hQ _ ⟨h1, h2, h3, fun c hc => ?_⟩, fun h => ?_⟩
    · rw [h4 c hc, h]
      unfold jm_ba
      have hn : ¬ ((-1 : Int32) = nI c) := fun e => jm_ne1 (by omega) e.symm
      rw [if_neg hn]
    · rcases hb with e | ⟨c, hc, e⟩
      · exact absurd e h
      rw [e, nI_clamp (by omega)]
      rw [e] at h3
      refine ⟨vp_in_nI hc (by decide), hQ _ ⟨?_, ?_, ?_, fun d hd => ?_⟩⟩
      · grind [wi_m_p]
      · simp only [wi_m_eq]
        grind
      · simp only [wi_m_eq]
        grind
      · have f1 := h4 c hc
        have f2 := h4 d hd
        simp only [wi_m_eq]
        unfold jm_ba
        rw [e]
        by_cases hcd : d = c
        · subst hcd
          grind
        · have hn : ¬ (nI c = nI d) := jm_ne (by omega) (by omega) (fun e => hcd e.symm)
          grind
  · intro k hk ih M1 ⟨h1, h2, h3, h4⟩
    have e10 : M1 15 10 = M 15 10 := h2 10 (by decide)
    have e24 : M1 24 = M 24 := h1 24 (by decide) (by decide)
    refine rp_X0_layBases_15_7s hk ?_
    rw [e10, e24, h3]
    refine ⟨fun h => ih _ ?_, fun h => ⟨fun h2 => ih _ ?_, fun h2 => ih _ ?_⟩⟩
    all_goals refine ⟨?_, ?_, ?_, ?_⟩
    all_goals try simp only [jm_le]
    all_goals grind [wi_m_p, wi_m_eq]
  · rw [wi_m_eq, if_pos rfl, if_neg h]
  · rw [wi_m_i]
    rfl
theorem ct_reckonCountry_15_5 {c : Nat} (hc : c < 5) (hQ : Q (some none) (jm_s (wi_m (wi_m (wi_m M 28 c (jm_na (M 6) c (M 24 c) (M 26 c))) 29 c (jm_th (M 6) c (M 15 8) (M 15 9) (M 27 c))) 30 c (jm_bm (jm_th (M 6) c (M 15 8) (M 15 9) (M 27 c) * M 27 c) (M 15 8))) L G)) : am_T X 6 0 [some (.ref 15), some (.ref 5), some (.int (nI c)), none, none, none] [] (jm_s M L G) (0, 0) Q := by
  have hv : vp_in (nI c) 5 := vp_in_nI hc (by decide)
  have hcl : (nI c).toNatClampNeg = c := nI_clamp (by omega)
  -- behind the nation
  have t142 : ∀ M1 v, Q (some none) (jm_s (wi_m M1 30 c v) L G) → am_T X 6 142 [none, none, none, none, none, none] [(.int v), (.int (nI c)), (.ref 30)] (jm_s M1 L G) (0, 0) Q := by
    intro M1 v h
    refine rg_X0_reckonCountry_15_5_142 ⟨hv, ?_⟩
    rw [hcl]
    exact h
  have t112 : ∀ M1 v, Q (some none) (jm_s (wi_m (wi_m M1 29 c v) 30 c (jm_bm (v * M1 27 c) (M1 15 8))) L G) → am_T X 6 112 [some (.ref 15), none, some (.int (nI c)), none, none, none] [(.int v), (.int (nI c)), (.ref 29)] (jm_s M1 L G) (0, 0) Q := by
    intro M1 v h
    refine rg_X0_reckonCountry_15_5_112 ⟨hv, hv, hv, ?_⟩
    rw [hcl, wi_m_i]
    exact cl_i (fun _ h => ct_byMonths h) (t142 _ _ h)
  have e28 : ∀ v, (wi_m M 28 c v) 15 = M 15 := fun v => wi_m_p _ _ (by decide)
  have e27 : ∀ v, (wi_m M 28 c v) 27 = M 27 := fun v => wi_m_p _ _ (by decide)
  have e06 : ∀ v, (wi_m M 28 c v) 6 = M 6 := fun v => wi_m_p _ _ (by decide)
  have zc : M 6 (4 * c + 0) = M 6 (4 * c) := rfl
  refine rg_X0_reckonCountry_15_5_0 (cl_i (fun _ h => ct_lawOf_5 (w := 0) (by omega) h) (rp_X0_reckonCountry_15_5_6 hc ?_))
  rw [zc]
  unfold jm_na jm_th at hQ
  simp only [wi_m_i]
  refine ⟨fun h => ?_, fun h => ⟨fun h2 => ?_, fun h2 => ?_⟩⟩
  · rw [if_pos h] at hQ
    refine ⟨fun h3 => ?_, fun h3 => ⟨fun h4 => ?_, fun h4 => ?_⟩⟩
    · rw [if_pos h3] at hQ
      exact cl_i (fun _ h => ct_byMonths h) (t142 _ _ hQ)
    · rw [if_neg h3, if_pos h4] at hQ
      exact cl_i (fun _ h => ct_byMonths h) (t142 _ _ hQ)
    · rw [if_neg h3, if_neg h4] at hQ
      refine cl_i (fun _ h => ct_sum_5 hc h) (t112 _ _ ?_)
      rw [e28, e27, e06]
      exact hQ
  · rw [if_neg h, if_pos h2] at hQ
    refine ⟨fun h3 => ?_, fun h3 => ⟨fun h4 => ?_, fun h4 => ?_⟩⟩
    · rw [if_pos h3] at hQ
      exact cl_i (fun _ h => ct_byMonths h) (t142 _ _ hQ)
    · rw [if_neg h3, if_pos h4] at hQ
      exact cl_i (fun _ h => ct_byMonths h) (t142 _ _ hQ)
    · rw [if_neg h3, if_neg h4] at hQ
      refine cl_i (fun _ h => ct_sum_5 hc h) (t112 _ _ ?_)
      rw [e28, e27, e06]
      exact hQ
  · rw [if_neg h, if_neg h2] at hQ
    refine cl_i (fun _ h => ct_sum_5 hc h) (rp_X0_reckonCountry_15_5_60 hc hc ?_)
    simp only [wi_m_i, e28, e27, e06]
    refine ⟨fun h3 => ?_, fun h3 => ⟨fun h4 => ?_, fun h4 => ?_⟩⟩
    · rw [if_pos h3] at hQ
      exact cl_i (fun _ h => ct_byMonths h) (t142 _ _ hQ)
    · rw [if_neg h3, if_pos h4] at hQ
      exact cl_i (fun _ h => ct_byMonths h) (t142 _ _ hQ)
    · rw [if_neg h3, if_neg h4] at hQ
      refine cl_i (fun _ h => ct_sum_5 hc h) (t112 _ _ ?_)
      rw [e28, e27, e06]
      exact hQ
end Bear15
theorem rp_X0_findBearer_31_7s {X : Nat × (Nat → Int32)} {M : Nat → Nat → Int32} {L : Nat → Nat → Int64} {G : Nat → Nat → Option Nat} {Q : am_Q} {x1 : Int32} {k : Nat} (hk : k < 5) (h : (((M 40 k) < (if 1 < x1 then x1 else 1) → (am_T X 4 7 [some (.ref 31), some (.int x1), some (.int (nI (k + 1))), none] [] (jm_s M L G) (0, 0) Q)) ∧ (¬ (M 40 k) < (if 1 < x1 then x1 else 1) → (((M 31 10) = (-1) → (am_T X 4 7 [some (.ref 31), some (.int x1), some (.int (nI (k + 1))), none] [] (jm_s (wi_m M 31 10 (nI k)) L G) (0, 0) Q)) ∧ (¬ (M 31 10) = (-1) → (vp_in (M 31 10) 5 ∧ (((M 40 k) ≤ (M 40 (M 31 10).toNatClampNeg) → (am_T X 4 7 [some (.ref 31), some (.int x1), some (.int (nI (k + 1))), none] [] (jm_s M L G) (0, 0) Q)) ∧ (¬ (M 40 k) ≤ (M 40 (M 31 10).toNatClampNeg) → (am_T X 4 7 [some (.ref 31), some (.int x1), some (.int (nI (k + 1))), none] [] (jm_s (wi_m M 31 10 (nI k)) L G) (0, 0) Q))))))))) : am_T X 4 7 [some (.ref 31), some (.int x1), some (.int (nI k)), none] [] (jm_s M L G) (0, 0) Q := rg_X0_findBearer_31_7 (by
  rw [nI_clamp (show k < 2147483648 by omega), nI_1 k]
  exact ⟨fun e => absurd e (nI_ge hk (by decide)), fun _ => ⟨(vp_in_nI hk (by decide)), ⟨fun e1 => ⟨fun _ => (h.1 e1), fun e => absurd rfl e⟩, fun e1 => ⟨fun e => absurd e (by decide), fun _ => ⟨fun e2 => ((h.2 e1).1 e2), fun e2 => ⟨(vp_in_nI hk (by decide)), ⟨((h.2 e1).2 e2).1, ⟨fun e4 => (((h.2 e1).2 e2).2.1 e4), fun e4 => (((h.2 e1).2 e2).2.2 e4)⟩⟩⟩⟩⟩⟩⟩⟩)
theorem rp_X0_findBearer_31_7e {X : Nat × (Nat → Int32)} {M : Nat → Nat → Int32} {L : Nat → Nat → Int64} {G : Nat → Nat → Option Nat} {Q : am_Q} {x1 : Int32}  (h : Q (some none) (jm_s M L G)) : am_T X 4 7 [some (.ref 31), some (.int x1), some (.int (nI 5)), none] [] (jm_s M L G) (0, 0) Q := rg_X0_findBearer_31_7 (by
  rw [nI_clamp (show 5 < 2147483648 by omega), nI_1 5]
  exact ⟨fun _ => h, fun e => absurd (nI_le (Nat.le_refl 5) (by decide)) e⟩)
theorem rp_X0_layBases_31_7s {X : Nat × (Nat → Int32)} {M : Nat → Nat → Int32} {L : Nat → Nat → Int64} {G : Nat → Nat → Option Nat} {Q : am_Q} {x1 : Int32} {k : Nat} (hk : k < 5) (h : ((x1 ≤ (M 40 k) → (am_T X 5 7 [some (.ref 31), some (.int x1), some (.int (nI (k + 1))), none] [] (jm_s (wi_m (wi_m M 43 k (M 40 k)) 31 11 ((M 31 11) + 0)) L G) (0, 0) Q)) ∧ (¬ x1 ≤ (M 40 k) → (((M 31 10) = (-1) → (am_T X 5 7 [some (.ref 31), some (.int x1), some (.int (nI (k + 1))), none] [] (jm_s (wi_m (wi_m M 43 k 0) 31 11 ((M 31 11) + 0)) L G) (0, 0) Q)) ∧ (¬ (M 31 10) = (-1) → (am_T X 5 7 [some (.ref 31), some (.int x1), some (.int (nI (k + 1))), none] [] (jm_s (wi_m (wi_m M 43 k 0) 31 11 ((M 31 11) + (M 40 k))) L G) (0, 0) Q)))))) : am_T X 5 7 [some (.ref 31), some (.int x1), some (.int (nI k)), none] [] (jm_s M L G) (0, 0) Q := rg_X0_layBases_31_7 (by
  rw [nI_clamp (show k < 2147483648 by omega), nI_1 k]
  exact ⟨fun e => absurd e (nI_ge hk (by decide)), fun _ => ⟨(vp_in_nI hk (by decide)), ⟨fun e1 => ⟨fun _ => ⟨(vp_in_nI hk (by decide)), ⟨(vp_in_nI hk (by decide)), ⟨fun _ => (h.1 e1), fun e => absurd rfl e⟩⟩⟩, fun e => absurd rfl e⟩, fun e1 => ⟨fun e => absurd e (by decide), fun _ => ⟨(vp_in_nI hk (by decide)), ⟨fun e => absurd e (by decide), fun _ => ⟨fun e2 => ((h.2 e1).1 e2), fun e2 => ⟨(vp_in_nI hk (by decide)), ((h.2 e1).2 e2)⟩⟩⟩⟩⟩⟩⟩⟩)
theorem rp_X0_layBases_31_7e {X : Nat × (Nat → Int32)} {M : Nat → Nat → Int32} {L : Nat → Nat → Int64} {G : Nat → Nat → Option Nat} {Q : am_Q} {x1 : Int32}  (h : (((M 31 10) = (-1) → (Q (some none) (jm_s M L G))) ∧ (¬ (M 31 10) = (-1) → (vp_in (M 31 10) 5 ∧ (Q (some none) (jm_s (wi_m M 43 (M 31 10).toNatClampNeg ((M 43 (M 31 10).toNatClampNeg) + (M 31 11))) L G)))))) : am_T X 5 7 [some (.ref 31), some (.int x1), some (.int (nI 5)), none] [] (jm_s M L G) (0, 0) Q := rg_X0_layBases_31_7 (by
  rw [nI_clamp (show 5 < 2147483648 by omega), nI_1 5]
  exact ⟨fun _ => ⟨fun e0 => (h.1 e0), fun e0 => ⟨(h.2 e0).1, ⟨(h.2 e0).1, (h.2 e0).2⟩⟩⟩, fun e => absurd (nI_le (Nat.le_refl 5) (by decide)) e⟩)
theorem rp_X0_reckonCountry_31_10_6 {X : Nat × (Nat → Int32)} {M : Nat → Nat → Int32} {L : Nat → Nat → Int64} {G : Nat → Nat → Option Nat} {Q : am_Q} {s0 : Int32} {c : Nat} (hc : c < 5) (h : (((M 40 c) < s0 → (((M 31 8) < s0 → (∃ K : Int32 → am_S → Prop, am_T X 3 0 [some (.int (((wi_m (wi_m M 44 c 0) 45 c 0) 45 c) * (M 43 c))), some (.int (M 31 8))] [] (jm_s (wi_m (wi_m M 44 c 0) 45 c 0) L G) (0, 0) (am_qi K) ∧ ∀ v σ', K v σ' → am_T X 6 142 [none, none, none, none, none, none] [(.int v), (.int (nI c)), (.ref 46)] σ' (0, 0) Q)) ∧ (¬ (M 31 8) < s0 → (((M 43 c) = 0 → (∃ K : Int32 → am_S → Prop, am_T X 3 0 [some (.int (((wi_m (wi_m M 44 c 0) 45 c 0) 45 c) * (M 43 c))), some (.int (M 31 8))] [] (jm_s (wi_m (wi_m M 44 c 0) 45 c 0) L G) (0, 0) (am_qi K) ∧ ∀ v σ', K v σ' → am_T X 6 142 [none, none, none, none, none, none] [(.int v), (.int (nI c)), (.ref 46)] σ' (0, 0) Q)) ∧ (¬ (M 43 c) = 0 → (∃ K : Int32 → am_S → Prop, am_T X 7 0 [some (.ref 10), some (.int (nI c)), some (.int (M 31 8)), some (.int (M 31 9)), none] [] (jm_s (wi_m M 44 c 0) L G) (0, 0) (am_qi K) ∧ ∀ v σ', K v σ' → am_T X 6 112 [some (.ref 31), none, some (.int (nI c)), none, none, none] [(.int v), (.int (nI c)), (.ref 45)] σ' (0, 0) Q)))))) ∧ (¬ (M 40 c) < s0 → (((M 40 c) ≤ 0 → (((M 31 8) < s0 → (∃ K : Int32 → am_S → Prop, am_T X 3 0 [some (.int (((wi_m (wi_m M 44 c 0) 45 c 0) 45 c) * (M 43 c))), some (.int (M 31 8))] [] (jm_s (wi_m (wi_m M 44 c 0) 45 c 0) L G) (0, 0) (am_qi K) ∧ ∀ v σ', K v σ' → am_T X 6 142 [none, none, none, none, none, none] [(.int v), (.int (nI c)), (.ref 46)] σ' (0, 0) Q)) ∧ (¬ (M 31 8) < s0 → (((M 43 c) = 0 → (∃ K : Int32 → am_S → Prop, am_T X 3 0 [some (.int (((wi_m (wi_m M 44 c 0) 45 c 0) 45 c) * (M 43 c))), some (.int (M 31 8))] [] (jm_s (wi_m (wi_m M 44 c 0) 45 c 0) L G) (0, 0) (am_qi K) ∧ ∀ v σ', K v σ' → am_T X 6 142 [none, none, none, none, none, none] [(.int v), (.int (nI c)), (.ref 46)] σ' (0, 0) Q)) ∧ (¬ (M 43 c) = 0 → (∃ K : Int32 → am_S → Prop, am_T X 7 0 [some (.ref 10), some (.int (nI c)), some (.int (M 31 8)), some (.int (M 31 9)), none] [] (jm_s (wi_m M 44 c 0) L G) (0, 0) (am_qi K) ∧ ∀ v σ', K v σ' → am_T X 6 112 [some (.ref 31), none, some (.int (nI c)), none, none, none] [(.int v), (.int (nI c)), (.ref 45)] σ' (0, 0) Q)))))) ∧ (¬ (M 40 c) ≤ 0 → (∃ K : Int32 → am_S → Prop, am_T X 7 0 [some (.ref 10), some (.int (nI c)), some (.int (M 40 c)), some (.int (M 42 c)), none] [] (jm_s M L G) (0, 0) (am_qi K) ∧ ∀ v σ', K v σ' → am_T X 6 60 [some (.ref 31), some (.ref 10), some (.int (nI c)), some (.int s0), none, none] [(.int v), (.int (nI c)), (.ref 44)] σ' (0, 0) Q)))))) : am_T X 6 6 [some (.ref 31), some (.ref 10), some (.int (nI c)), none, none, none] [(.int s0)] (jm_s M L G) (0, 0) Q := rg_X0_reckonCountry_31_10_6 (by
  rw [nI_clamp (show c < 2147483648 by omega)]
  exact ⟨(vp_in_nI hc (by decide)), ⟨fun e1 => ⟨fun _ => ⟨(vp_in_nI hc (by decide)), ⟨fun e2 => ⟨fun _ => ⟨(vp_in_nI hc (by decide)), ⟨(vp_in_nI hc (by decide)), ⟨(vp_in_nI hc (by decide)), ((h.1 e1).1 e2)⟩⟩⟩, fun e => absurd rfl e⟩, fun e2 => ⟨(vp_in_nI hc (by decide)), ⟨fun e3 => ⟨fun _ => ⟨(vp_in_nI hc (by decide)), ⟨(vp_in_nI hc (by decide)), ⟨(vp_in_nI hc (by decide)), (((h.1 e1).2 e2).1 e3)⟩⟩⟩, fun e => absurd rfl e⟩, fun e3 => ⟨fun e => absurd e (by decide), fun _ => (((h.1 e1).2 e2).2 e3)⟩⟩⟩⟩⟩, fun e => absurd rfl e⟩, fun e1 => ⟨(vp_in_nI hc (by decide)), ⟨fun e2 => ⟨fun _ => ⟨(vp_in_nI hc (by decide)), ⟨fun e3 => ⟨fun _ => ⟨(vp_in_nI hc (by decide)), ⟨(vp_in_nI hc (by decide)), ⟨(vp_in_nI hc (by decide)), (((h.2 e1).1 e2).1 e3)⟩⟩⟩, fun e => absurd rfl e⟩, fun e3 => ⟨(vp_in_nI hc (by decide)), ⟨fun e4 => ⟨fun _ => ⟨(vp_in_nI hc (by decide)), ⟨(vp_in_nI hc (by decide)), ⟨(vp_in_nI hc (by decide)), ((((h.2 e1).1 e2).2 e3).1 e4)⟩⟩⟩, fun e => absurd rfl e⟩, fun e4 => ⟨fun e => absurd e (by decide), fun _ => ((((h.2 e1).1 e2).2 e3).2 e4)⟩⟩⟩⟩⟩, fun e => absurd rfl e⟩, fun e2 => ⟨fun e => absurd e (by decide), fun _ => ⟨(vp_in_nI hc (by decide)), ⟨(vp_in_nI hc (by decide)), ((h.2 e1).2 e2)⟩⟩⟩⟩⟩⟩⟩)
theorem rp_X0_reckonCountry_31_10_60 {X : Nat × (Nat → Int32)} {M : Nat → Nat → Int32} {L : Nat → Nat → Int64} {G : Nat → Nat → Option Nat} {Q : am_Q} {x3 : Int32} {s2 : Int32} {c d : Nat} (hc : c < 5) (hd : d < 5) (h : (((M 31 8) < x3 → (∃ K : Int32 → am_S → Prop, am_T X 3 0 [some (.int (((wi_m (wi_m M 44 d s2) 45 c 0) 45 c) * (M 43 c))), some (.int (M 31 8))] [] (jm_s (wi_m (wi_m M 44 d s2) 45 c 0) L G) (0, 0) (am_qi K) ∧ ∀ v σ', K v σ' → am_T X 6 142 [none, none, none, none, none, none] [(.int v), (.int (nI c)), (.ref 46)] σ' (0, 0) Q)) ∧ (¬ (M 31 8) < x3 → (((M 43 c) = 0 → (∃ K : Int32 → am_S → Prop, am_T X 3 0 [some (.int (((wi_m (wi_m M 44 d s2) 45 c 0) 45 c) * (M 43 c))), some (.int (M 31 8))] [] (jm_s (wi_m (wi_m M 44 d s2) 45 c 0) L G) (0, 0) (am_qi K) ∧ ∀ v σ', K v σ' → am_T X 6 142 [none, none, none, none, none, none] [(.int v), (.int (nI c)), (.ref 46)] σ' (0, 0) Q)) ∧ (¬ (M 43 c) = 0 → (∃ K : Int32 → am_S → Prop, am_T X 7 0 [some (.ref 10), some (.int (nI c)), some (.int (M 31 8)), some (.int (M 31 9)), none] [] (jm_s (wi_m M 44 d s2) L G) (0, 0) (am_qi K) ∧ ∀ v σ', K v σ' → am_T X 6 112 [some (.ref 31), none, some (.int (nI c)), none, none, none] [(.int v), (.int (nI c)), (.ref 45)] σ' (0, 0) Q)))))) : am_T X 6 60 [some (.ref 31), some (.ref 10), some (.int (nI c)), some (.int x3), none, none] [(.int s2), (.int (nI d)), (.ref 44)] (jm_s M L G) (0, 0) Q := rg_X0_reckonCountry_31_10_60 (by
  rw [nI_clamp (show c < 2147483648 by omega), nI_clamp (show d < 2147483648 by omega)]
  exact ⟨(vp_in_nI hd (by decide)), ⟨fun e1 => ⟨fun _ => ⟨(vp_in_nI hc (by decide)), ⟨(vp_in_nI hc (by decide)), ⟨(vp_in_nI hc (by decide)), (h.1 e1)⟩⟩⟩, fun e => absurd rfl e⟩, fun e1 => ⟨(vp_in_nI hc (by decide)), ⟨fun e3 => ⟨fun _ => ⟨(vp_in_nI hc (by decide)), ⟨(vp_in_nI hc (by decide)), ⟨(vp_in_nI hc (by decide)), ((h.2 e1).1 e3)⟩⟩⟩, fun e => absurd rfl e⟩, fun e3 => ⟨fun e => absurd e (by decide), fun _ => ((h.2 e1).2 e3)⟩⟩⟩⟩⟩)
section Bear31
variable {X : Nat × (Nat → Int32)} {M : Nat → Nat → Int32} {L : Nat → Nat → Int64} {G : Nat → Nat → Option Nat} {Q : am_Q}
theorem ct_findBearer_31 {le : Int32} (hQ : Q (some none) (jm_s (wi_m M 31 10 (jm_br (M 40) le 5)) L G)) : am_T X 4 0 [some (.ref 31), some (.int le), none, none] [] (jm_s M L G) (0, 0) Q := by
  refine rg_X0_findBearer_31_0 ?_
  refine lp_dn (P := fun k => am_T X 4 7 [some (.ref 31), some (.int le), some (.int (nI k)), none] [] (jm_s (wi_m M 31 10 (jm_br (M 40) le k)) L G) (0, 0) Q) 5 ?_ ?_ 0 (by decide)
  · exact rp_X0_findBearer_31_7e hQ
  · intro k hk ih
    refine rp_X0_findBearer_31_7s hk ?_
    rw [wi_m_i, wi_m_p _ _ (show 40 ≠ 31 by decide), wi_m_2]
    unfold jm_br at ih
    refine ⟨fun h => ?_, fun h => ⟨fun h2 => ?_, fun h2 => ⟨?_, fun h3 => ?_, fun h3 => ?_⟩⟩⟩
    · rw [if_pos h] at ih
      exact ih
    · rw [if_neg h, if_pos h2] at ih
      exact ih
    · rcases jm_br_ok (M 40) le k with e | ⟨c, hc, e⟩
      · exact absurd e h2
      · rw [e]
        exact vp_in_nI (by omega) (by decide)
    · rw [if_neg h, if_neg h2, if_pos h3] at ih
      exact ih
    · rw [if_neg h, if_neg h2, if_neg h3] at ih
      exact ih
theorem ct_layBases_31 {le : Int32} (hb : M 31 10 = -1 ∨ ∃ c, c < 5 ∧ M 31 10 = nI c) (hQ : ∀ M', jm_Lb M 31 (M 40) le (M 31 10) M' → Q (some none) (jm_s M' L G)) : am_T X 5 0 [some (.ref 31), some (.int le), none, none] [] (jm_s M L G) (0, 0) Q := by
  refine rg_X0_layBases_31_0 ?_
  refine lp_dn (P := fun k => ∀ M1, jm_I9 M 31 (M 40) le (M 31 10) k M1 → am_T X 5 7 [some (.ref 31), some (.int le), some (.int (nI k)), none] [] (jm_s M1 L G) (0, 0) Q) 5 ?_ ?_ 0 (by decide) _ ⟨fun q h1 h2 => wi_m_p _ _ h1, fun i h => ?_, ?_, fun c hc => absurd hc (Nat.not_lt_zero c)⟩
  · intro M1 ⟨h1, h2, h3, h4⟩
    have e10 : M1 31 10 = M 31 10 := h2 10 (by decide)
    refine rp_X0_layBases_31_7e ?_
    rw [e10]
    refine ⟨fun h => hQ _ ⟨h1, h2, h3, fun c hc => ?_⟩, fun h => ?_⟩
    · rw [h4 c hc, h]
      unfold jm_ba
      have hn : ¬ ((-1 : Int32) = nI c) := fun e => jm_ne1 (by omega) e.symm
      rw [if_neg hn]
    · rcases hb with e | ⟨c, hc, e⟩
      · exact absurd e h
      rw [e, nI_clamp (by omega)]
      rw [e] at h3
      refine ⟨vp_in_nI hc (by decide), hQ _ ⟨?_, ?_, ?_, fun d hd => ?_⟩⟩
      · grind [wi_m_p]
      · simp only [wi_m_eq]
        grind
      · simp only [wi_m_eq]
        grind
      · have f1 := h4 c hc
        have f2 := h4 d hd
        simp only [wi_m_eq]
        unfold jm_ba
        rw [e]
        by_cases hcd : d = c
        · subst hcd
          grind
        · have hn : ¬ (nI c = nI d) := jm_ne (by omega) (by omega) (fun e => hcd e.symm)
          grind
  · intro k hk ih M1 ⟨h1, h2, h3, h4⟩
    have e10 : M1 31 10 = M 31 10 := h2 10 (by decide)
    have e24 : M1 40 = M 40 := h1 40 (by decide) (by decide)
    refine rp_X0_layBases_31_7s hk ?_
    rw [e10, e24, h3]
    refine ⟨fun h => ih _ ?_, fun h => ⟨fun h2 => ih _ ?_, fun h2 => ih _ ?_⟩⟩
    all_goals refine ⟨?_, ?_, ?_, ?_⟩
    all_goals try simp only [jm_le]
    all_goals grind [wi_m_p, wi_m_eq]
  · rw [wi_m_eq, if_pos rfl, if_neg h]
  · rw [wi_m_i]
    rfl
theorem ct_reckonCountry_31_10 {c : Nat} (hc : c < 5) (hQ : Q (some none) (jm_s (wi_m (wi_m (wi_m M 44 c (jm_na (M 11) c (M 40 c) (M 42 c))) 45 c (jm_th (M 11) c (M 31 8) (M 31 9) (M 43 c))) 46 c (jm_bm (jm_th (M 11) c (M 31 8) (M 31 9) (M 43 c) * M 43 c) (M 31 8))) L G)) : am_T X 6 0 [some (.ref 31), some (.ref 10), some (.int (nI c)), none, none, none] [] (jm_s M L G) (0, 0) Q := by
  have hv : vp_in (nI c) 5 := vp_in_nI hc (by decide)
  have hcl : (nI c).toNatClampNeg = c := nI_clamp (by omega)
  -- behind the nation
  have t142 : ∀ M1 v, Q (some none) (jm_s (wi_m M1 46 c v) L G) → am_T X 6 142 [none, none, none, none, none, none] [(.int v), (.int (nI c)), (.ref 46)] (jm_s M1 L G) (0, 0) Q := by
    intro M1 v h
    refine rg_X0_reckonCountry_31_10_142 ⟨hv, ?_⟩
    rw [hcl]
    exact h
  have t112 : ∀ M1 v, Q (some none) (jm_s (wi_m (wi_m M1 45 c v) 46 c (jm_bm (v * M1 43 c) (M1 31 8))) L G) → am_T X 6 112 [some (.ref 31), none, some (.int (nI c)), none, none, none] [(.int v), (.int (nI c)), (.ref 45)] (jm_s M1 L G) (0, 0) Q := by
    intro M1 v h
    refine rg_X0_reckonCountry_31_10_112 ⟨hv, hv, hv, ?_⟩
    rw [hcl, wi_m_i]
    exact cl_i (fun _ h => ct_byMonths h) (t142 _ _ h)
  have e28 : ∀ v, (wi_m M 44 c v) 31 = M 31 := fun v => wi_m_p _ _ (by decide)
  have e27 : ∀ v, (wi_m M 44 c v) 43 = M 43 := fun v => wi_m_p _ _ (by decide)
  have e06 : ∀ v, (wi_m M 44 c v) 11 = M 11 := fun v => wi_m_p _ _ (by decide)
  have zc : M 11 (4 * c + 0) = M 11 (4 * c) := rfl
  refine rg_X0_reckonCountry_31_10_0 (cl_i (fun _ h => ct_lawOf_10 (w := 0) (by omega) h) (rp_X0_reckonCountry_31_10_6 hc ?_))
  rw [zc]
  unfold jm_na jm_th at hQ
  simp only [wi_m_i]
  refine ⟨fun h => ?_, fun h => ⟨fun h2 => ?_, fun h2 => ?_⟩⟩
  · rw [if_pos h] at hQ
    refine ⟨fun h3 => ?_, fun h3 => ⟨fun h4 => ?_, fun h4 => ?_⟩⟩
    · rw [if_pos h3] at hQ
      exact cl_i (fun _ h => ct_byMonths h) (t142 _ _ hQ)
    · rw [if_neg h3, if_pos h4] at hQ
      exact cl_i (fun _ h => ct_byMonths h) (t142 _ _ hQ)
    · rw [if_neg h3, if_neg h4] at hQ
      refine cl_i (fun _ h => ct_sum_10 hc h) (t112 _ _ ?_)
      rw [e28, e27, e06]
      exact hQ
  · rw [if_neg h, if_pos h2] at hQ
    refine ⟨fun h3 => ?_, fun h3 => ⟨fun h4 => ?_, fun h4 => ?_⟩⟩
    · rw [if_pos h3] at hQ
      exact cl_i (fun _ h => ct_byMonths h) (t142 _ _ hQ)
    · rw [if_neg h3, if_pos h4] at hQ
      exact cl_i (fun _ h => ct_byMonths h) (t142 _ _ hQ)
    · rw [if_neg h3, if_neg h4] at hQ
      refine cl_i (fun _ h => ct_sum_10 hc h) (t112 _ _ ?_)
      rw [e28, e27, e06]
      exact hQ
  · rw [if_neg h, if_neg h2] at hQ
    refine cl_i (fun _ h => ct_sum_10 hc h) (rp_X0_reckonCountry_31_10_60 hc hc ?_)
    simp only [wi_m_i, e28, e27, e06]
    refine ⟨fun h3 => ?_, fun h3 => ⟨fun h4 => ?_, fun h4 => ?_⟩⟩
    · rw [if_pos h3] at hQ
      exact cl_i (fun _ h => ct_byMonths h) (t142 _ _ hQ)
    · rw [if_neg h3, if_pos h4] at hQ
      exact cl_i (fun _ h => ct_byMonths h) (t142 _ _ hQ)
    · rw [if_neg h3, if_neg h4] at hQ
      refine cl_i (fun _ h => ct_sum_10 hc h) (t112 _ _ ?_)
      rw [e28, e27, e06]
      exact hQ
end Bear31
