/-! ===== pairs: year, part, gaps, doubles, both (written by wip/gen/gen_pp3.py) ===== -/
def jm_yl (f : Nat → Int64) : Nat → List Int64
  | 0 => []
  | k + 1 => jm_yl f k ++ [f k]
theorem jm_yl_len (f : Nat → Int64) : ∀ k, (jm_yl f k).length = k
  | 0 => rfl
  | k + 1 => by
    show (jm_yl f k ++ [f k]).length = k + 1
    rw [List.length_append, jm_yl_len f k]
    rfl
def jm_gl (cr : Int32) (gf gl : Nat → Int32) : Nat → List Int64
  | 0 => []
  | g + 1 => ((jm_gl cr gf gl g ++ [(gf g).toInt64]) ++ [(gl g).toInt64]) ++ [if cr < gl g then Int32.toInt64 0 else Int32.toInt64 1]
theorem jm_gl_len (cr : Int32) (gf gl : Nat → Int32) : ∀ g, (jm_gl cr gf gl g).length = 3 * g
  | 0 => rfl
  | g + 1 => by
    show (((jm_gl cr gf gl g ++ [(gf g).toInt64]) ++ [(gl g).toInt64]) ++ [if cr < gl g then Int32.toInt64 0 else Int32.toInt64 1]).length = 3 * (g + 1)
    rw [List.length_append, List.length_append, List.length_append, jm_gl_len cr gf gl g]
    show 3 * g + 1 + 1 + 1 = 3 * (g + 1)
    omega
theorem jc_gp_20 {s : jS} (h : jw s 20) : (jc_gp s).2.1 ≤ 20 := by
  have h1 := jm_gaps_ct (od := jod s) h.2.1 (show jn s ≤ 64 by have := h.1; omega) 360 (Nat.le_refl _)
  have h2 := jm_ct_le (fun k => decide (jm_fr (jsp s) k < 360)) (jn s)
  have h3 := h.1
  have h4 : (jm_fg (jm_B (jsp s) (jod s) (jn s)) 360).2.1 ≤ 20 := by omega
  exact h4
theorem jc_so_gap {s : jS} {b : Nat} (h : jw s b) (hb : b ≤ 64) {g x y : Nat} (hg : g < (jc_gp s).2.1) (hp : jm_gp (jc_by s) (jc_gp s) g x y) : jc_so s (x + 1) = 2 ↔ ¬ jcr s < (jc_gp s).2.2.2 g := by
  have hp2 := hp
  obtain ⟨q1, q2, q3, q4, q5, q6⟩ := hp2
  have e1 : jc_by s (x + 1) = -1 := q4 (x + 1) (by omega) (by omega)
  have hl := (jm_cg_gap (jc_by s) (jcr s) (fun m => jm_ld (jsp s) (jm_st (jsp s) (jod s) m (jn s))) (fun m => jm_wg (jsp s) (jix s) (jm_st (jsp s) (jod s) m (jn s)) m) hg hp (m := x + 1) (by omega) (by omega) _ (Nat.le_refl _)).1
  have hl2 : jc_ld s (x + 1) = _ := hl
  have hc := jc_cov h hb (show x < 360 by omega) q3
  have hc2 : jc_ld s x = jm_ld (jsp s) (jm_st (jsp s) (jod s) x (jn s)) := (jm_cg_cov (jc_by s) (jcr s) (fun m => jm_ld (jsp s) (jm_st (jsp s) (jod s) m (jn s))) (fun m => jm_wg (jsp s) (jix s) (jm_st (jsp s) (jod s) m (jn s)) m) _ (Nat.le_refl _) x (by omega) q3).1
  have hu : jm_ld (jsp s) (jm_st (jsp s) (jod s) (x + 1) (jn s)) = -1 := by
    rcases jm_st_by (od := jod s) h.2.1 (show jn s ≤ 64 by have := h.1; omega) (x + 1) (jn s) (Nat.le_refl _) with ⟨u1, u2⟩ | ⟨b', hb', u1, u2⟩
    · unfold jm_ld
      rw [if_pos u1]
    · exact absurd (u2.symm.trans e1) (jm_ne1 (by have := h.1; omega))
  unfold jc_so
  rw [if_pos e1]
  by_cases hcr : jcr s < (jc_gp s).2.2.2 g
  · have hl3 : jc_ld s (x + 1) = -1 := by
      rw [hl2]
      exact (if_neg (fun e => e.2 hcr)).trans hu
    rw [if_pos hl3]
    exact ⟨fun e => absurd e (by decide), fun e => absurd hcr e⟩
  · have hl3 : jc_ld s (x + 1) = jc_ld s x := by
      rw [hl2, hc2]
      exact if_pos ⟨hg, hcr⟩
    rw [hl3, if_neg hc]
    exact ⟨fun _ => hcr, fun _ => rfl⟩
def jm_dm (cv : Nat → Int32) : Nat → Int32 × Int32
  | 0 => (0, -1)
  | k + 1 => if cv k ≤ (jm_dm cv k).1 then jm_dm cv k else (cv k, nI k)
def jm_cb (sp : Nat → Int32) (x y : Int32) : Nat → Nat → Bool
  | 0, _ => false
  | n + 1, k => if jm_of sp k 0 = x ∧ jm_of sp k 2 ≤ y ∧ y ≤ jm_of sp k 3 then true else jm_cb sp x y n (k + 1)
/-- Euclid's way -/
theorem jm_gcd (x y : Nat) : Nat.gcd x y = Nat.gcd y (x % y) := by
  rw [Nat.gcd_comm x y, Nat.gcd_rec y x, Nat.gcd_comm]
theorem am_rem_nI {x y : Nat} (hx : x < 2147483648) (hy : 0 < y) (hy2 : y < 2147483648) : am_rem (nI x) (nI y) = nI (x % y) := pk_rem hx hy hy2
theorem rp_X5_year_0_78 {X : Nat × (Nat → Int32)} {M : Nat → Nat → Int32} {L : Nat → Nat → Int64} {G : Nat → Nat → Option Nat} {Q : am_Q} {x3 : Int32} {y : Nat} (hy : y < 30) (h : ∃ K : am_S → Prop, am_T X 24 0 [some (.ref 3), some (.long ((M 8 y).toInt64)), none] [] (jm_s M L G) (0, 0) (am_qv K) ∧ ∀ σ', K σ' → am_T X 67 95 [none, none, none, some (.int x3), none, none] [] σ' (0, 0) Q) : am_T X 67 78 [some (.ref 0), some (.int (nI y)), none, some (.int x3), none, none] [] (jm_s M L G) (0, 0) Q := rg_X5_year_0_78 (by
  rw [nI_clamp (show y < 2147483648 by omega)]
  exact ⟨(vp_in_nI hy (by decide)), h⟩)
theorem rp_X5_doubles_0_21s {X : Nat × (Nat → Int32)} {M : Nat → Nat → Int32} {L : Nat → Nat → Int64} {G : Nat → Nat → Option Nat} {Q : am_Q} {x2 : Int32} {x3 : Int32} {x4 : Int32} {k : Nat} (hk : k < 360) (h : (((M 18 k) ≤ 1 → (((M 18 k) ≤ x3 → (am_T X 69 21 [some (.ref 0), some (.ref 18), some (.int x2), some (.int x3), some (.int x4), some (.int (nI (k + 1)))] [] (jm_s M L G) (0, 0) Q)) ∧ (¬ (M 18 k) ≤ x3 → (am_T X 69 21 [some (.ref 0), some (.ref 18), some (.int x2), some (.int (M 18 k)), some (.int (nI k)), some (.int (nI (k + 1)))] [] (jm_s M L G) (0, 0) Q)))) ∧ (¬ (M 18 k) ≤ 1 → (((M 18 k) ≤ x3 → (am_T X 69 21 [some (.ref 0), some (.ref 18), some (.int (x2 + 1)), some (.int x3), some (.int x4), some (.int (nI (k + 1)))] [] (jm_s M L G) (0, 0) Q)) ∧ (¬ (M 18 k) ≤ x3 → (am_T X 69 21 [some (.ref 0), some (.ref 18), some (.int (x2 + 1)), some (.int (M 18 k)), some (.int (nI k)), some (.int (nI (k + 1)))] [] (jm_s M L G) (0, 0) Q)))))) : am_T X 69 21 [some (.ref 0), some (.ref 18), some (.int x2), some (.int x3), some (.int x4), some (.int (nI k))] [] (jm_s M L G) (0, 0) Q := rg_X5_doubles_0_21 (by
  rw [nI_clamp (show k < 2147483648 by omega), nI_1 k]
  exact ⟨fun e => absurd e (nI_ge hk (by decide)), fun _ => ⟨(vp_in_nI hk (by decide)), ⟨fun e1 => ⟨(vp_in_nI hk (by decide)), ⟨fun e2 => ((h.1 e1).1 e2), fun e2 => ⟨(vp_in_nI hk (by decide)), ((h.1 e1).2 e2)⟩⟩⟩, fun e1 => ⟨(vp_in_nI hk (by decide)), ⟨fun e2 => ((h.2 e1).1 e2), fun e2 => ⟨(vp_in_nI hk (by decide)), ((h.2 e1).2 e2)⟩⟩⟩⟩⟩⟩)
theorem rp_X5_doubles_0_21e {X : Nat × (Nat → Int32)} {M : Nat → Nat → Int32} {L : Nat → Nat → Int64} {G : Nat → Nat → Option Nat} {Q : am_Q} {x2 : Int32} {x3 : Int32} {x4 : Int32}  (h : ∃ K : am_S → Prop, am_T X 23 0 [some (.ref 3)] [] (jm_s M L G) (0, 0) (am_qv K) ∧ ∀ σ', K σ' → am_T X 69 70 [some (.ref 0), none, some (.int x2), some (.int x3), some (.int x4), none] [] σ' (0, 0) Q) : am_T X 69 21 [some (.ref 0), some (.ref 18), some (.int x2), some (.int x3), some (.int x4), some (.int (nI 360))] [] (jm_s M L G) (0, 0) Q := rg_X5_doubles_0_21 (by
  rw [nI_clamp (show 360 < 2147483648 by omega), nI_1 360]
  exact ⟨fun _ => h, fun e => absurd (nI_le (Nat.le_refl 360) (by decide)) e⟩)
theorem rp_X6_doubles_101_18s {X : Nat × (Nat → Int32)} {M : Nat → Nat → Int32} {L : Nat → Nat → Int64} {G : Nat → Nat → Option Nat} {Q : am_Q} {x1 : Int32} {x2 : Int32} {x3 : Int32} {k : Nat} (hk : k < 360) (h : (((M 110 k) ≤ 1 → ((x2 < (M 110 k) → (am_T X 175 18 [some (.ref 101), some (.int (x1 + 0)), some (.int (M 110 k)), some (.int (nI k)), some (.int (nI (k + 1)))] [] (jm_s M L G) (0, 0) Q)) ∧ (¬ x2 < (M 110 k) → (am_T X 175 18 [some (.ref 101), some (.int (x1 + 0)), some (.int x2), some (.int x3), some (.int (nI (k + 1)))] [] (jm_s M L G) (0, 0) Q)))) ∧ (¬ (M 110 k) ≤ 1 → ((x2 < (M 110 k) → (am_T X 175 18 [some (.ref 101), some (.int (x1 + 1)), some (.int (M 110 k)), some (.int (nI k)), some (.int (nI (k + 1)))] [] (jm_s M L G) (0, 0) Q)) ∧ (¬ x2 < (M 110 k) → (am_T X 175 18 [some (.ref 101), some (.int (x1 + 1)), some (.int x2), some (.int x3), some (.int (nI (k + 1)))] [] (jm_s M L G) (0, 0) Q)))))) : am_T X 175 18 [some (.ref 101), some (.int x1), some (.int x2), some (.int x3), some (.int (nI k))] [] (jm_s M L G) (0, 0) Q := rg_X6_doubles_101_18 (by
  rw [nI_clamp (show k < 2147483648 by omega), nI_1 k]
  exact ⟨fun e => absurd e (nI_ge hk (by decide)), fun _ => ⟨(vp_in_nI hk (by decide)), ⟨fun e1 => ⟨(vp_in_nI hk (by decide)), ⟨fun e2 => ⟨(vp_in_nI hk (by decide)), ((h.1 e1).1 e2)⟩, fun e2 => ((h.1 e1).2 e2)⟩⟩, fun e1 => ⟨(vp_in_nI hk (by decide)), ⟨fun e2 => ⟨(vp_in_nI hk (by decide)), ((h.2 e1).1 e2)⟩, fun e2 => ((h.2 e1).2 e2)⟩⟩⟩⟩⟩)
theorem rp_X6_doubles_101_18e {X : Nat × (Nat → Int32)} {M : Nat → Nat → Int32} {L : Nat → Nat → Int64} {G : Nat → Nat → Option Nat} {Q : am_Q} {x1 : Int32} {x2 : Int32} {x3 : Int32}  (h : ∃ K : am_S → Prop, am_T X 126 0 [some (.ref 101), some (.long (x2.toInt64)), none] [] (jm_s (wi_m M 101 4 0) L G) (0, 0) (am_qv K) ∧ ∀ σ', K σ' → am_T X 175 87 [some (.ref 101), some (.int x1), none, some (.int x3), none] [] σ' (0, 0) Q) : am_T X 175 18 [some (.ref 101), some (.int x1), some (.int x2), some (.int x3), some (.int (nI 360))] [] (jm_s M L G) (0, 0) Q := rg_X6_doubles_101_18 (by
  rw [nI_clamp (show 360 < 2147483648 by omega), nI_1 360]
  exact ⟨fun _ => h, fun e => absurd (nI_le (Nat.le_refl 360) (by decide)) e⟩)
theorem rp_X5_gaps_0_17 {X : Nat × (Nat → Int32)} {M : Nat → Nat → Int32} {L : Nat → Nat → Int64} {G : Nat → Nat → Option Nat} {Q : am_Q} {g : Nat} (hg : g < 44) (h : (((M 16 7) ≤ (nI g) → (Q (some (some (.int (M 16 7)))) (jm_s M L G))) ∧ (¬ (M 16 7) ≤ (nI g) → (∃ K : am_S → Prop, am_T X 24 0 [some (.ref 3), some (.long ((M 22 g).toInt64)), none] [] (jm_s M L G) (0, 0) (am_qv K) ∧ ∀ σ', K σ' → am_T X 68 39 [some (.ref 0), some (.ref 16), some (.int (nI g))] [] σ' (0, 0) Q)))) : am_T X 68 17 [some (.ref 0), some (.ref 16), some (.int (nI g))] [] (jm_s M L G) (0, 0) Q := rg_X5_gaps_0_17 (by
  rw [nI_clamp (show g < 2147483648 by omega)]
  exact ⟨fun e0 => (h.1 e0), fun e0 => ⟨(vp_in_nI hg (by decide)), (h.2 e0)⟩⟩)
theorem rp_X5_gaps_0_39 {X : Nat × (Nat → Int32)} {M : Nat → Nat → Int32} {L : Nat → Nat → Int64} {G : Nat → Nat → Option Nat} {Q : am_Q} {g : Nat} (hg : g < 44) (h : ∃ K : am_S → Prop, am_T X 24 0 [some (.ref 3), some (.long ((M 23 g).toInt64)), none] [] (jm_s M L G) (0, 0) (am_qv K) ∧ ∀ σ', K σ' → am_T X 68 53 [some (.ref 0), some (.ref 16), some (.int (nI g))] [] σ' (0, 0) Q) : am_T X 68 39 [some (.ref 0), some (.ref 16), some (.int (nI g))] [] (jm_s M L G) (0, 0) Q := rg_X5_gaps_0_39 (by
  rw [nI_clamp (show g < 2147483648 by omega)]
  exact ⟨(vp_in_nI hg (by decide)), h⟩)
theorem rp_X5_gaps_0_53 {X : Nat × (Nat → Int32)} {M : Nat → Nat → Int32} {L : Nat → Nat → Int64} {G : Nat → Nat → Option Nat} {Q : am_Q} {g : Nat} (hg : g < 44) (h : (((M 5 5) < (M 23 g) → (∃ K : am_S → Prop, am_T X 24 0 [some (.ref 3), some (.long (Int32.toInt64 0)), none] [] (jm_s M L G) (0, 0) (am_qv K) ∧ ∀ σ', K σ' → am_T X 68 81 [some (.ref 0), some (.ref 16), some (.int (nI g))] [] σ' (0, 0) Q)) ∧ (¬ (M 5 5) < (M 23 g) → (∃ K : am_S → Prop, am_T X 24 0 [some (.ref 3), some (.long (Int32.toInt64 1)), none] [] (jm_s M L G) (0, 0) (am_qv K) ∧ ∀ σ', K σ' → am_T X 68 81 [some (.ref 0), some (.ref 16), some (.int (nI g))] [] σ' (0, 0) Q)))) : am_T X 68 53 [some (.ref 0), some (.ref 16), some (.int (nI g))] [] (jm_s M L G) (0, 0) Q := rg_X5_gaps_0_53 (by
  rw [nI_clamp (show g < 2147483648 by omega)]
  exact ⟨(vp_in_nI hg (by decide)), ⟨fun e1 => (h.1 e1), fun e1 => (h.2 e1)⟩⟩)
theorem rp_X6_gaps_101_16 {X : Nat × (Nat → Int32)} {M : Nat → Nat → Int32} {L : Nat → Nat → Int64} {G : Nat → Nat → Option Nat} {Q : am_Q} {g : Nat} (hg : g < 360) (h : (((M 101 15) ≤ (nI g) → (Q (some (some (.int (M 101 15)))) (jm_s M L G))) ∧ (¬ (M 101 15) ≤ (nI g) → (∃ K : am_S → Prop, am_T X 126 0 [some (.ref 101), some (.long ((M 111 g).toInt64)), none] [] (jm_s M L G) (0, 0) (am_qv K) ∧ ∀ σ', K σ' → am_T X 174 35 [some (.ref 101), some (.int (nI g))] [] σ' (0, 0) Q)))) : am_T X 174 16 [some (.ref 101), some (.int (nI g))] [] (jm_s M L G) (0, 0) Q := rg_X6_gaps_101_16 (by
  rw [nI_clamp (show g < 2147483648 by omega)]
  exact ⟨fun e0 => (h.1 e0), fun e0 => ⟨(vp_in_nI hg (by decide)), (h.2 e0)⟩⟩)
theorem rp_X6_gaps_101_35 {X : Nat × (Nat → Int32)} {M : Nat → Nat → Int32} {L : Nat → Nat → Int64} {G : Nat → Nat → Option Nat} {Q : am_Q} {g : Nat} (hg : g < 360) (h : ∃ K : am_S → Prop, am_T X 126 0 [some (.ref 101), some (.long ((M 112 g).toInt64)), none] [] (jm_s M L G) (0, 0) (am_qv K) ∧ ∀ σ', K σ' → am_T X 174 46 [some (.ref 101), some (.int (nI g))] [] σ' (0, 0) Q) : am_T X 174 35 [some (.ref 101), some (.int (nI g))] [] (jm_s M L G) (0, 0) Q := rg_X6_gaps_101_35 (by
  rw [nI_clamp (show g < 2147483648 by omega)]
  exact ⟨(vp_in_nI hg (by decide)), h⟩)
theorem rp_X6_gaps_101_46 {X : Nat × (Nat → Int32)} {M : Nat → Nat → Int32} {L : Nat → Nat → Int64} {G : Nat → Nat → Option Nat} {Q : am_Q} {g : Nat} (hg : g < 360) (h : (vp_in (M 111 g) 360 ∧ (((M 106 (M 111 g).toNatClampNeg) = 2 → (∃ K : am_S → Prop, am_T X 126 0 [some (.ref 101), some (.long (Int32.toInt64 1)), none] [] (jm_s M L G) (0, 0) (am_qv K) ∧ ∀ σ', K σ' → am_T X 174 70 [some (.ref 101), some (.int (nI g))] [] σ' (0, 0) Q)) ∧ (¬ (M 106 (M 111 g).toNatClampNeg) = 2 → (∃ K : am_S → Prop, am_T X 126 0 [some (.ref 101), some (.long (Int32.toInt64 0)), none] [] (jm_s M L G) (0, 0) (am_qv K) ∧ ∀ σ', K σ' → am_T X 174 70 [some (.ref 101), some (.int (nI g))] [] σ' (0, 0) Q))))) : am_T X 174 46 [some (.ref 101), some (.int (nI g))] [] (jm_s M L G) (0, 0) Q := rg_X6_gaps_101_46 (by
  rw [nI_clamp (show g < 2147483648 by omega)]
  exact ⟨(vp_in_nI hg (by decide)), ⟨h.1, ⟨fun e2 => (h.2.2 e2), fun e2 => (h.2.1 e2)⟩⟩⟩)
section PP3
variable {X : Nat × (Nat → Int32)} {M : Nat → Nat → Int32} {L : Nat → Nat → Int64} {G : Nat → Nat → Option Nat} {Q : am_Q} {a : jA}
theorem ct_isYear_y {c : Nat} (hc : c < 30) (hQ : Q (some (some (.int 1))) (jm_s M L G)) : am_T X 102 0 [some (.int (nI c))] [] (jm_s M L G) (0, 0) Q :=
  rn_X5_isYear_0 ⟨fun h => absurd h (nI_pos (by omega)), fun _ => ⟨fun h => absurd h (nI_ge hc (by decide)), fun _ => hQ⟩⟩
theorem ct_isYear_n {x : Int32} (hx : x < 0 ∨ nI 30 ≤ x) (hQ : Q (some (some (.int 0))) (jm_s M L G)) : am_T X 102 0 [some (.int x)] [] (jm_s M L G) (0, 0) Q :=
  rn_X5_isYear_0 ⟨fun _ => hQ, fun h => ⟨fun _ => hQ, fun h2 => absurd hx (fun h3 => h3.elim h h2)⟩⟩
theorem ri_n {x lo hi : Int32} (h : x < lo ∨ hi < x) : jb (decide (lo ≤ x ∧ x ≤ hi)) = 0 := jb_n (decide_eq_false (fun e => h.elim (fun h => Int32.not_lt.mpr e.1 h) (fun h => Int32.not_lt.mpr e.2 h)))
theorem ri_y {x lo hi : Int32} (h : lo ≤ x) (h2 : x ≤ hi) : jb (decide (lo ≤ x ∧ x ≤ hi)) = 1 := jb_y (decide_eq_true ⟨h, h2⟩)
theorem nI_lt_of {b : Nat} {x : Int32} (hb : b + 1 < 2147483648) (h : nI (b + 1) ≤ x) : nI b < x := Int32.lt_of_lt_of_le (nI_lt (Nat.lt_succ_self b) hb) h
theorem pp_year (hA : jAw a) (hC : jC M L G a) (hR : jRR M L a) (x : Int32) : jpp X (jm_s M L G) 67 [some (.ref 0), some (.int x), none, none, none, none] 171 [some (.ref 101), some (.int x), none, none, none, none, none] := by
  have hw := jw_44 hA.1
  obtain ⟨k1, ⟨k2, k3, k4, k5, k6⟩, k7⟩ := hC.1.1.2
  rcases jx_case 30 (by decide) x with h | ⟨y, hy, rfl⟩
  · refine pp_rd hA hC hR (v := -1) (fun Q hQ => rg_X5_year_0_0 (cl_i (fun _ h' => ct_isYear_n h h') (rn_X5_year_0_4 ⟨fun _ => hQ, fun e => absurd rfl e⟩))) (fun Q hQ => rg_X6_year_101_0 (cl_i (fun _ h' => ct_in h') ?_))
    have hn : jb (decide (0 ≤ x ∧ x ≤ 29)) = 0 := ri_n (h.imp id (fun h => nI_lt_of (b := 29) (by decide) h))
    rw [hn]
    exact rn_X6_year_101_12 ⟨fun _ => hQ _ (jfr_0 M 0), fun e => absurd rfl e⟩
  · have e0 : (12 : Int32) * nI y = nI (12 * y + 0) := pk_mul 12 y
    have e1 : (12 : Int32) * (nI y + 1) = nI (12 * y + 12) := by
      rw [nI_1]
      exact (pk_mul 12 (y + 1)).trans (congrArg nI (by omega))
    refine pp_ro hA hC hR (v := jm_sm (fun c => jm_sf (fun m => if jc_ld (ja_s a) m = nI c then 1 else 0) (12 * y) 12) 5) ((jm_yl (fun c => (jm_sf (fun m => if jc_ld (ja_s a) m = nI c then 1 else 0) (12 * y) 12).toInt64) 5 ++ [(jm_sf (jc_wg (ja_s a)) (12 * y) 12).toInt64]) ++ [(jix (ja_s a) y).toInt64]) (Nat.le_of_ble_eq_true rfl) (fun Q hQ => ?_) (fun M1 L1 hR1 Q hQ => ?_)
    · refine rg_X5_year_0_0 (cl_i (fun _ h => ct_isYear_y hy h) (rn_X5_year_0_4 ⟨fun e => absurd e (by decide), fun _ => cl_v (ct_clear ⟨rfl, rg_X5_year_0_24 ?_⟩)⟩))
      refine lp_dn (P := fun k => am_T X 67 29 [some (.ref 0), some (.int (nI y)), some (.ref 16), some (.int (jm_sm (fun c => jm_sf (fun m => if jc_ld (ja_s a) m = nI c then 1 else 0) (12 * y) 12) k)), some (.int (nI k)), none] [] (jm_s (wi_m M 3 1 (nI (jm_yl (fun c => (jm_sf (fun m => if jc_ld (ja_s a) m = nI c then 1 else 0) (12 * y) 12).toInt64) k).length)) (wls L 4 0 (jm_yl (fun c => (jm_sf (fun m => if jc_ld (ja_s a) m = nI c then 1 else 0) (12 * y) 12).toInt64) k)) G) (0, 0) Q) 5 ?_ ?_ 0 (by decide)
      · refine rn_X5_year_0_29 ⟨fun _ => cl_i (fun _ h => ct_payIn_16 hy h) (rg_X5_year_0_74 (cl_v (ct_tell (l := jm_yl _ 5) (Nat.le_of_ble_eq_true rfl) ⟨rfl, rp_X5_year_0_78 hy (cl_v (ct_tell (l := jm_yl _ 5 ++ [_]) (Nat.le_of_ble_eq_true rfl) ⟨rfl, rg_X5_year_0_95 ?_⟩))⟩))), fun h => absurd (nI_le (Nat.le_refl 5) (by decide)) h⟩
        have ew : jm_sf (M 21) (12 * y) 12 = jm_sf (jc_wg (ja_s a)) (12 * y) 12 := jm_sm_cong (fun k hk => (k1.1 (12 * y + k) (by omega)).2.2.2)
        have ei : M 8 y = jix (ja_s a) y := hC.1.1.1.2.2.2.2.1 y hy
        rw [← ew, ← ei] at hQ
        exact hQ
      · intro k hk ih
        refine rn_X5_year_0_29 ⟨fun h => absurd h (nI_ge hk (by decide)), fun _ => cl_i (fun _ h => ct_ofCountryIn_16 hy h) (rg_X5_year_0_42 (cl_v (ct_tell (by rw [jm_yl_len]; omega) ⟨rfl, rg_X5_year_0_54 ?_⟩)))⟩
        have ec : jm_sf (fun m => if M 20 m = nI k then 1 else 0) (12 * y) 12 = jm_sf (fun m => if jc_ld (ja_s a) m = nI k then 1 else 0) (12 * y) 12 := jm_sm_cong (fun j hj => by
          show (if M 20 (12 * y + j) = nI k then (1 : Int32) else 0) = _
          rw [show M 20 (12 * y + j) = _ from (k1.1 (12 * y + j) (by omega)).2.2.1])
        rw [nI_1]
        rw [show jm_sf (fun m => if wi_m M 3 1 (nI (jm_yl (fun c => (jm_sf (fun m => if jc_ld (ja_s a) m = nI c then 1 else 0) (12 * y) 12).toInt64) k).length) 20 m = nI k then 1 else 0) (12 * y) 12 = _ from ec]
        exact ih
    · refine rg_X6_year_101_0 (cl_i (fun _ h' => ct_in h') ?_)
      have hy1 : jb (decide (0 ≤ nI y ∧ nI y ≤ 29)) = 1 := ri_y (nI_pos' (by omega)) (nI_le (show y ≤ 29 by omega) (by decide))
      rw [hy1]
      refine rn_X6_year_101_12 ⟨fun e => absurd e (by decide), fun _ => cl_v (ct_lay0 hR1.1.1 hw (fun M2 f hL hR2 => ⟨rfl, rg_X6_year_101_21 ?_⟩))⟩
      have hQ := hQ M2 f
      refine lp_dn (P := fun k => am_T X 171 33 [some (.ref 101), some (.int (nI y)), some (.int (jm_sm (fun c => jm_sf (fun m => if jc_ld (ja_s a) m = nI c then 1 else 0) (12 * y) 12) k)), some (.int 0), some (.int (nI k)), none, none] [] (jm_s (wi_m M2 101 4 (nI (jm_yl (fun c => (jm_sf (fun m => if jc_ld (ja_s a) m = nI c then 1 else 0) (12 * y) 12).toInt64) k).length)) (wls L1 104 0 (jm_yl (fun c => (jm_sf (fun m => if jc_ld (ja_s a) m = nI c then 1 else 0) (12 * y) 12).toInt64) k)) G) (0, 0) Q) 5 ?_ ?_ 0 (by decide)
      · refine rn_X6_year_101_33 ⟨fun _ => ?_, fun h => absurd (nI_le (Nat.le_refl 5) (by decide)) h⟩
        rw [e0]
        refine lp_dn (P := fun j => am_T X 171 111 [some (.ref 101), some (.int (nI y)), some (.int (jm_sm (fun c => jm_sf (fun m => if jc_ld (ja_s a) m = nI c then 1 else 0) (12 * y) 12) 5)), some (.int (jm_sf (jc_wg (ja_s a)) (12 * y) j)), some (.int (nI (12 * y + j))), none, none] [] (jm_s (wi_m M2 101 4 (nI (jm_yl (fun c => (jm_sf (fun m => if jc_ld (ja_s a) m = nI c then 1 else 0) (12 * y) 12).toInt64) 5).length)) (wls L1 104 0 (jm_yl (fun c => (jm_sf (fun m => if jc_ld (ja_s a) m = nI c then 1 else 0) (12 * y) 12).toInt64) 5)) G) (0, 0) Q) 12 ?_ ?_ 0 (by decide)
        · refine rn_X6_year_101_111 ⟨fun _ => cl_v (ct_rtell (l := jm_yl _ 5) (Nat.le_of_ble_eq_true rfl) ⟨rfl, rn_X6_year_101_144 ?_⟩), fun h => absurd ?_ h⟩
          · rw [show (247 : Int32) + nI y = nI (247 + y) from nI_add 247 y, nI_clamp (show 247 + y < 2147483648 by omega), wi_m_p _ _ (show 102 ≠ 101 by decide), hR2.2.2.2.2.2.2 y hy]
            exact ⟨vp_in_nI (by omega) (by decide), cl_v (ct_rtell (l := jm_yl _ 5 ++ [_]) (Nat.le_of_ble_eq_true rfl) ⟨rfl, rg_X6_year_101_159 hQ⟩)⟩
          · rw [e1]
            exact nI_le (Nat.le_refl _) (by omega)
        · intro j hj ih
          refine rn_X6_year_101_111 ⟨fun h => absurd h ?_, fun _ => ⟨jm_in (by omega), ?_⟩⟩
          · rw [e1]
            exact nI_ge (by omega) (by omega)
          · rw [jm_cl (by omega), nI_1, wi_m_p _ _ (show 108 ≠ 101 by decide), (hL.1 (12 * y + j) (by omega)).2.2.1]
            exact ih
      · intro k hk ih
        refine rn_X6_year_101_33 ⟨fun h => absurd h (nI_ge hk (by decide)), fun _ => ?_⟩
        rw [e0]
        refine lp_dn (P := fun j => am_T X 171 48 [some (.ref 101), some (.int (nI y)), some (.int (jm_sm (fun c => jm_sf (fun m => if jc_ld (ja_s a) m = nI c then 1 else 0) (12 * y) 12) k)), some (.int 0), some (.int (nI k)), some (.int (jm_sf (fun m => if jc_ld (ja_s a) m = nI k then 1 else 0) (12 * y) j)), some (.int (nI (12 * y + j)))] [] (jm_s (wi_m M2 101 4 (nI (jm_yl (fun c => (jm_sf (fun m => if jc_ld (ja_s a) m = nI c then 1 else 0) (12 * y) 12).toInt64) k).length)) (wls L1 104 0 (jm_yl (fun c => (jm_sf (fun m => if jc_ld (ja_s a) m = nI c then 1 else 0) (12 * y) 12).toInt64) k)) G) (0, 0) Q) 12 ?_ ?_ 0 (by decide)
        · refine rn_X6_year_101_48 ⟨fun _ => cl_v (ct_rtell (by rw [jm_yl_len]; omega) ⟨rfl, rg_X6_year_101_94 ?_⟩), fun h => absurd ?_ h⟩
          · rw [nI_1]
            exact ih
          · rw [e1]
            exact nI_le (Nat.le_refl _) (by omega)
        · intro j hj ih2
          have ih3 : am_T X 171 48 [some (.ref 101), some (.int (nI y)), some (.int (jm_sm (fun c => jm_sf (fun m => if jc_ld (ja_s a) m = nI c then 1 else 0) (12 * y) 12) k)), some (.int 0), some (.int (nI k)), some (.int (jm_sf (fun m => if jc_ld (ja_s a) m = nI k then 1 else 0) (12 * y) j + (if jc_ld (ja_s a) (12 * y + j) = nI k then 1 else 0))), some (.int (nI (12 * y + (j + 1))))] [] (jm_s (wi_m M2 101 4 (nI (jm_yl (fun c => (jm_sf (fun m => if jc_ld (ja_s a) m = nI c then 1 else 0) (12 * y) 12).toInt64) k).length)) (wls L1 104 0 (jm_yl (fun c => (jm_sf (fun m => if jc_ld (ja_s a) m = nI c then 1 else 0) (12 * y) 12).toInt64) k)) G) (0, 0) Q := ih2
          refine rn_X6_year_101_48 ⟨fun h => absurd h ?_, fun _ => ⟨jm_in (by omega), ?_⟩⟩
          · rw [e1]
            exact nI_ge (by omega) (by omega)
          · rw [jm_cl (by omega), nI_1, wi_m_p _ _ (show 107 ≠ 101 by decide), (hL.1 (12 * y + j) (by omega)).2.1]
            refine ⟨fun h => ?_, fun h => ?_⟩
            · rw [if_pos h] at ih3
              exact ih3
            · rw [if_neg h] at ih3
              exact ih3
theorem pp_gaps (hA : jAw a) (hC : jC M L G a) (hR : jRR M L a) : jpp X (jm_s M L G) 68 [some (.ref 0), none, none] 174 [some (.ref 101), none] := by
  have hw := jw_44 hA.1
  obtain ⟨k1, ⟨k2, k3, k4, k5, k6⟩, k7⟩ := hC.1.1.2
  have h20 := jc_gp_20 hA.1
  have hcr : M 5 5 = jcr (ja_s a) := hC.1.1.1.2.2.2.2.2.1
  refine pp_ro hA hC hR (v := nI (jc_gp (ja_s a)).2.1) (jm_gl (jcr (ja_s a)) (jc_gp (ja_s a)).2.2.1 (jc_gp (ja_s a)).2.2.2 (jc_gp (ja_s a)).2.1) (by rw [jm_gl_len]; omega) (fun Q hQ => ?_) (fun M1 L1 hR1 Q hQ => ?_)
  · refine rg_X5_gaps_0_0 (cl_v (ct_clear ⟨rfl, rg_X5_gaps_0_15 ?_⟩))
    refine lp_dn (P := fun g => am_T X 68 17 [some (.ref 0), some (.ref 16), some (.int (nI g))] [] (jm_s (wi_m M 3 1 (nI (jm_gl (jcr (ja_s a)) (jc_gp (ja_s a)).2.2.1 (jc_gp (ja_s a)).2.2.2 g).length)) (wls L 4 0 (jm_gl (jcr (ja_s a)) (jc_gp (ja_s a)).2.2.1 (jc_gp (ja_s a)).2.2.2 g)) G) (0, 0) Q) (jc_gp (ja_s a)).2.1 ?_ ?_ 0 (Nat.zero_le _)
    · refine rp_X5_gaps_0_17 (by omega) ⟨fun _ => ?_, fun h => absurd ?_ h⟩
      · rw [wi_m_p _ _ (show 16 ≠ 3 by decide), show M 16 7 = _ from k1.2.1]
        exact hQ
      · rw [wi_m_p _ _ (show 16 ≠ 3 by decide), show M 16 7 = _ from k1.2.1]
        exact nI_le (Nat.le_refl _) (by omega)
    · intro g hg ih
      have len := jm_gl_len (jcr (ja_s a)) (jc_gp (ja_s a)).2.2.1 (jc_gp (ja_s a)).2.2.2 g
      have e1 : M 22 g = (jc_gp (ja_s a)).2.2.1 g := (k1.2.2 g hg).1
      have e2 : M 23 g = (jc_gp (ja_s a)).2.2.2 g := (k1.2.2 g hg).2
      refine rp_X5_gaps_0_17 (by omega) ⟨fun h => absurd h ?_, fun _ => ?_⟩
      · rw [wi_m_p _ _ (show 16 ≠ 3 by decide), show M 16 7 = _ from k1.2.1]
        exact nI_ge hg (by omega)
      refine cl_v (ct_tell (by rw [len]; omega) ⟨rfl, rp_X5_gaps_0_39 (by omega) (cl_v (ct_tell (by rw [List.length_append, len]; show 3 * g + 1 < 120; omega) ⟨rfl, rp_X5_gaps_0_53 (by omega) ?_⟩))⟩)
      rw [wi_m_p _ _ (show 22 ≠ 3 by decide), wi_m_p _ _ (show 23 ≠ 3 by decide), wi_m_p _ _ (show 5 ≠ 3 by decide), wi_m_p _ _ (show 23 ≠ 3 by decide), e1, e2, hcr]
      unfold jm_gl at ih
      refine ⟨fun h => ?_, fun h => ?_⟩
      · rw [if_pos h] at ih
        refine cl_v (ct_tell (by rw [List.length_append, List.length_append, len]; show 3 * g + 1 + 1 < 120; omega) ⟨rfl, rg_X5_gaps_0_81 ?_⟩)
        rw [nI_1]
        exact ih
      · rw [if_neg h] at ih
        refine cl_v (ct_tell (by rw [List.length_append, List.length_append, len]; show 3 * g + 1 + 1 < 120; omega) ⟨rfl, rg_X5_gaps_0_81 ?_⟩)
        rw [nI_1]
        exact ih
  · refine rg_X6_gaps_101_0 (cl_v (ct_lay0 hR1.1.1 hw (fun M2 f hL hR2 => ⟨rfl, rg_X6_gaps_101_9 ?_⟩)))
    have hQ := hQ M2 f
    refine lp_dn (P := fun g => am_T X 174 16 [some (.ref 101), some (.int (nI g))] [] (jm_s (wi_m M2 101 4 (nI (jm_gl (jcr (ja_s a)) (jc_gp (ja_s a)).2.2.1 (jc_gp (ja_s a)).2.2.2 g).length)) (wls L1 104 0 (jm_gl (jcr (ja_s a)) (jc_gp (ja_s a)).2.2.1 (jc_gp (ja_s a)).2.2.2 g)) G) (0, 0) Q) (jc_gp (ja_s a)).2.1 ?_ ?_ 0 (Nat.zero_le _)
    · refine rp_X6_gaps_101_16 (by omega) ⟨fun _ => ?_, fun h => absurd ?_ h⟩
      · rw [show (wi_m M2 101 4 (nI (jm_gl (jcr (ja_s a)) (jc_gp (ja_s a)).2.2.1 (jc_gp (ja_s a)).2.2.2 (jc_gp (ja_s a)).2.1).length)) 101 15 = _ from hL.2.1]
        exact hQ
      · rw [show (wi_m M2 101 4 (nI (jm_gl (jcr (ja_s a)) (jc_gp (ja_s a)).2.2.1 (jc_gp (ja_s a)).2.2.2 (jc_gp (ja_s a)).2.1).length)) 101 15 = _ from hL.2.1]
        exact nI_le (Nat.le_refl _) (by omega)
    · intro g hg ih
      have len := jm_gl_len (jcr (ja_s a)) (jc_gp (ja_s a)).2.2.1 (jc_gp (ja_s a)).2.2.2 g
      have e1 : M2 111 g = (jc_gp (ja_s a)).2.2.1 g := (hL.2.2 g hg).1
      have e2 : M2 112 g = (jc_gp (ja_s a)).2.2.2 g := (hL.2.2 g hg).2
      obtain ⟨u, w, hp⟩ := jm_fg_gp (jc_by (ja_s a)) hg
      have hp2 : jm_gp (jc_by (ja_s a)) (jc_gp (ja_s a)) g u w := hp
      have hso := jc_so_gap hw (by decide) hg hp2
      have hu := hp2.2.2.2.2.2
      have e3 : (jc_gp (ja_s a)).2.2.1 g = nI (u + 1) := hp2.1
      refine rp_X6_gaps_101_16 (by omega) ⟨fun h => absurd h ?_, fun _ => ?_⟩
      · rw [show (wi_m M2 101 4 (nI (jm_gl (jcr (ja_s a)) (jc_gp (ja_s a)).2.2.1 (jc_gp (ja_s a)).2.2.2 g).length)) 101 15 = _ from hL.2.1]
        exact nI_ge hg (by omega)
      refine cl_v (ct_rtell (by rw [len]; omega) ⟨rfl, rp_X6_gaps_101_35 (by omega) (cl_v (ct_rtell (by rw [List.length_append, len]; show 3 * g + 1 < 160; omega) ⟨rfl, rp_X6_gaps_101_46 (by omega) ?_⟩))⟩)
      rw [wi_m_p _ _ (show 111 ≠ 101 by decide), wi_m_p _ _ (show 112 ≠ 101 by decide), wi_m_p _ _ (show 111 ≠ 101 by decide), wi_m_p _ _ (show 106 ≠ 101 by decide), e1, e2, e3, nI_clamp (show u + 1 < 2147483648 by omega), (hL.1 (u + 1) (by omega)).1]
      unfold jm_gl at ih
      rw [e3] at ih
      refine ⟨vp_in_nI (by omega) (by decide), fun h => ?_, fun h => ?_⟩
      · rw [if_neg (hso.mp h)] at ih
        refine cl_v (ct_rtell (by rw [List.length_append, List.length_append, len]; show 3 * g + 1 + 1 < 160; omega) ⟨rfl, rg_X6_gaps_101_70 ?_⟩)
        rw [nI_1]
        exact ih
      · have h' : jcr (ja_s a) < (jc_gp (ja_s a)).2.2.2 g := Classical.byContradiction (fun e => h (hso.mpr e))
        rw [if_pos h'] at ih
        refine cl_v (ct_rtell (by rw [List.length_append, List.length_append, len]; show 3 * g + 1 + 1 < 160; omega) ⟨rfl, rg_X6_gaps_101_70 ?_⟩)
        rw [nI_1]
        exact ih
theorem pp_doubles (hA : jAw a) (hC : jC M L G a) (hR : jRR M L a) : jpp X (jm_s M L G) 69 [some (.ref 0), none, none, none, none, none] 175 [some (.ref 101), none, none, none, none] := by
  have hw := jw_44 hA.1
  obtain ⟨k1, ⟨k2, k3, k4, k5, k6⟩, k7⟩ := hC.1.1.2
  refine pp_ro hA hC hR (v := jm_sm (fun m => if jc_cv (ja_s a) m ≤ 1 then 0 else 1) 360) [(jm_dm (jc_cv (ja_s a)) 360).1.toInt64, (jm_dm (jc_cv (ja_s a)) 360).2.toInt64] (Nat.le_of_ble_eq_true rfl) (fun Q hQ => ?_) (fun M1 L1 hR1 Q hQ => ?_)
  · refine rg_X5_doubles_0_0 ?_
    refine lp_dn (P := fun k => am_T X 69 21 [some (.ref 0), some (.ref 18), some (.int (jm_sm (fun m => if jc_cv (ja_s a) m ≤ 1 then 0 else 1) k)), some (.int (jm_dm (jc_cv (ja_s a)) k).1), some (.int (jm_dm (jc_cv (ja_s a)) k).2), some (.int (nI k))] [] (jm_s M L G) (0, 0) Q) 360 ?_ ?_ 0 (by decide)
    · exact rp_X5_doubles_0_21e (cl_v (ct_clear ⟨rfl, rg_X5_doubles_0_70 (cl_v (ct_tell (l := []) (Nat.le_of_ble_eq_true rfl) ⟨rfl, rg_X5_doubles_0_79 (cl_v (ct_tell (l := [_]) (Nat.le_of_ble_eq_true rfl) ⟨rfl, rg_X5_doubles_0_89 hQ⟩))⟩))⟩))
    · intro k hk ih
      rw [jm_sm_s, jm_dm] at ih
      refine rp_X5_doubles_0_21s hk ?_
      rw [show M 18 k = jc_cv (ja_s a) k from (k1.1 k hk).1]
      refine ⟨fun h1 => ⟨fun h2 => ?_, fun h2 => ?_⟩, fun h1 => ⟨fun h2 => ?_, fun h2 => ?_⟩⟩
      · rw [if_pos h1, if_pos h2, Int32.add_zero] at ih
        exact ih
      · rw [if_pos h1, if_neg h2, Int32.add_zero] at ih
        exact ih
      · rw [if_neg h1, if_pos h2] at ih
        exact ih
      · rw [if_neg h1, if_neg h2] at ih
        exact ih
  · refine rg_X6_doubles_101_0 (cl_v (ct_lay0 hR1.1.1 hw (fun M2 f hL hR2 => ⟨rfl, rg_X6_doubles_101_9 ?_⟩)))
    have hQ := hQ M2 f
    refine lp_dn (P := fun k => am_T X 175 18 [some (.ref 101), some (.int (jm_sm (fun m => if jc_cv (ja_s a) m ≤ 1 then 0 else 1) k)), some (.int (jm_dm (jc_cv (ja_s a)) k).1), some (.int (jm_dm (jc_cv (ja_s a)) k).2), some (.int (nI k))] [] (jm_s M2 L1 G) (0, 0) Q) 360 ?_ ?_ 0 (by decide)
    · exact rp_X6_doubles_101_18e (cl_v (ct_rtell (l := []) (Nat.le_of_ble_eq_true rfl) ⟨rfl, rg_X6_doubles_101_87 (cl_v (ct_rtell (l := [_]) (Nat.le_of_ble_eq_true rfl) ⟨rfl, rg_X6_doubles_101_93 hQ⟩))⟩))
    · intro k hk ih
      rw [jm_sm_s, jm_dm] at ih
      refine rp_X6_doubles_101_18s hk ?_
      rw [(hL.1 k hk).2.2.2.2]
      refine ⟨fun h1 => ⟨fun h2 => ?_, fun h2 => ?_⟩, fun h1 => ⟨fun h2 => ?_, fun h2 => ?_⟩⟩
      · rw [if_pos h1, if_neg (Int32.not_le.mpr h2)] at ih
        exact ih
      · rw [if_pos h1, if_pos (Int32.not_lt.mp h2)] at ih
        exact ih
      · rw [if_neg h1, if_neg (Int32.not_le.mpr h2)] at ih
        exact ih
      · rw [if_neg h1, if_pos (Int32.not_lt.mp h2)] at ih
        exact ih
end PP3
