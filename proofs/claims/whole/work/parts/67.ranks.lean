/-! ===== pairs: ranks told as a TEXT (written by wip/gen/gen_ranks.py) ===== -/
def jpo (u : Nat) : Nat := u % 2 + u / 2 % 2 + u / 4 % 2 + u / 8 % 2
theorem jpo_a : ∀ u, u < 16 → ∀ k, k < 4 → ((nI u >>> (nI k &&& 31)) &&& 1 = 1 ↔ u / 2 ^ k % 2 = 1) := by decide +kernel
theorem jpo_b : ∀ u, u < 16 → ∀ k, k < 4 → nI u ||| ((1 : Int32) <<< (nI k &&& 31)) = nI (u ||| 2 ^ k) := by decide +kernel
theorem jpo_c : ∀ u, u < 16 → ∀ k, k < 4 → u ||| 2 ^ k < 16 := by decide +kernel
theorem jpo_d : ∀ u, u < 16 → ∀ k, k < 4 → ¬ u / 2 ^ k % 2 = 1 → jpo (u ||| 2 ^ k) = jpo u + 1 := by decide +kernel
theorem jpo_e : ∀ u, u < 16 → ∀ k, k < 4 → ∀ j, j < 4 → (u ||| 2 ^ k) / 2 ^ j % 2 = 1 → j = k ∨ u / 2 ^ j % 2 = 1 := by decide +kernel
theorem jpo_1 (u : Nat) (hu : u < 16) (k : Nat) (hk : k < 4) : ((nI u >>> (nI k &&& 31)) &&& 1 = 1 ↔ u / 2 ^ k % 2 = 1) ∧ nI u ||| ((1 : Int32) <<< (nI k &&& 31)) = nI (u ||| 2 ^ k) ∧ u ||| 2 ^ k < 16 ∧ (¬ u / 2 ^ k % 2 = 1 → jpo (u ||| 2 ^ k) = jpo u + 1) ∧ ∀ j, j < 4 → (u ||| 2 ^ k) / 2 ^ j % 2 = 1 → j = k ∨ u / 2 ^ j % 2 = 1 := ⟨jpo_a u hu k hk, jpo_b u hu k hk, jpo_c u hu k hk, jpo_d u hu k hk, jpo_e u hu k hk⟩
theorem jpo_4 : ∀ u, u < 16 → jpo u = 4 → ∀ k, k < 4 → u / 2 ^ k % 2 = 1 := by decide +kernel
theorem jq_l_x {jl : Nat → Option Nat} {n : Nat} {tx : Nat → Nat} {p : Nat × Option Nat} (h : ¬ p.2 = none) : (jq_l jl n tx p).2 = p := by
  unfold jq_l
  cases hp : p.2 with
  | none => exact absurd hp h
  | some e =>
    show (p.1, some e) = p
    rw [← hp]
theorem jq_f_x {p : Nat × Option Nat} {e : Nat} (h : ¬ p.2 = none) : jq_f p e = p := by
  unfold jq_f
  cases hp : p.2 with
  | none => exact absurd hp h
  | some e => rfl
/-- d kinds are still to come -/
def jt_rk (n : Nat) (tx : Nat → Nat) : Nat → (Nat × Option Nat) → Nat → (Nat → Int32) → (Nat × Option Nat) × (Nat → Int32)
  | 0, p, _, od => (if p.1 < n then jq_f p p.1 else p, od)
  | d + 1, p, u, od => if (jq_l jl_k n tx p).2.2 = none then (if u / 2 ^ (jq_l jl_k n tx p).1 % 2 = 1 then (jq_f (jq_l jl_k n tx p).2 p.1, od) else jt_rk n tx d (jq_l jl_k n tx p).2 (u ||| 2 ^ (jq_l jl_k n tx p).1) (fun i => if i = 3 - d then nI (jq_l jl_k n tx p).1 else od i)) else ((jq_l jl_k n tx p).2, od)
def jmk (o o' : Nat → Int32) : Nat → Nat
  | 0 => 0
  | k + 1 => if o' k = o k then jmk o o' k else jmk o o' k + 1
theorem jmk_b {o o' : Nat → Int32} : ∀ k, jmk o o' k ≤ k
  | 0 => Nat.le_refl 0
  | k + 1 => by
    unfold jmk
    have := jmk_b (o := o) (o' := o') k
    split <;> omega
section Ranks
variable {X : Nat × (Nat → Int32)} {M : Nat → Nat → Int32} {L : Nat → Nat → Int64} {G : Nat → Nat → Option Nat} {Q : am_Q} {n : Nat} {tx : Nat → Nat} {p : Nat × Option Nat} {a : jA} {s : jS}
theorem jq_k_lt (hb : jtb n tx p) (h : (jq_l jl_k n tx p).2.2 = none) : (jq_l jl_k n tx p).1 < 4 := by
  have v := jq_l_v h
  exact (jl_lt _ (hb.2.2.1 _ v.1)).2.1 _ v.2
theorem jq_fp_b {e : Nat} (he : e ≤ 80) (hb : jtb n tx p) : jtb n tx (jq_f p e) := by
  unfold jq_f
  cases hp : p.2 with
  | none => exact ⟨hb.1, hb.2.1, hb.2.2.1, fun e' he' => by have : e = e' := Option.some.inj he'; omega⟩
  | some e => exact hb
theorem jq_end_b (hb : jtb n tx p) : jtb n tx (if p.1 < n then jq_f p p.1 else p) := by
  split
  · exact jq_f_b hb
  · exact hb
theorem jt_rk_w : ∀ d p u od, d ≤ 4 → jtb n tx p → u < 16 → jpo u = 4 - d → (∀ k, k < 4 → u / 2 ^ k % 2 = 1 → ∃ i, i < 4 - d ∧ od i = nI k) → jtb n tx (jt_rk n tx d p u od).1 ∧ ((jt_rk n tx d p u od).1.2 = none → ∀ k, k < 4 → ∃ i, i < 4 ∧ (jt_rk n tx d p u od).2 i = nI k)
  | 0, p, u, od, hd, hb, hu, hp, ho => ⟨jq_end_b hb, fun _ k hk => ho k hk (jpo_4 u hu hp k hk)⟩
  | d + 1, p, u, od, hd, hb, hu, hp, ho => by
    unfold jt_rk
    have hb2 := (jq_l_b (jl := jl_k) hb).1
    by_cases hg : (jq_l jl_k n tx p).2.2 = none
    · rw [if_pos hg]
      have hk := jq_k_lt hb hg
      obtain ⟨_, _, p3, p4, p5⟩ := jpo_1 u hu _ hk
      have b1 := hb.1
      have b2 := hb.2.1
      by_cases hs : u / 2 ^ (jq_l jl_k n tx p).1 % 2 = 1
      · rw [if_pos hs]
        exact ⟨jq_fp_b (by omega) hb2, fun e => absurd e jq_f_n⟩
      · rw [if_neg hs]
        refine jt_rk_w d _ _ _ (by omega) hb2 p3 (by rw [p4 hs, hp]; omega) (fun j hj hj2 => ?_)
        rcases p5 j hj hj2 with e | e
        · refine ⟨3 - d, by omega, ?_⟩
          rw [if_pos rfl, e]
        · obtain ⟨i, hi, ei⟩ := ho j hj e
          refine ⟨i, by omega, ?_⟩
          rw [if_neg (by omega)]
          exact ei
    · rw [if_neg hg]
      exact ⟨hb2, fun e => absurd e hg⟩
theorem jb_bad {q : Option Nat} (h : ¬ q = none) : jb q.isNone = 0 := by
  cases q with
  | none => exact absurd rfl h
  | some e => rfl
theorem cl_rkb (hb : jtb n tx p) (hp : ¬ p.2 = none) {x1 : Int32} : ∀ d i M, i + d = 4 → jtC M n tx p → (∀ M', (∀ q, q ≠ 1 → M' q = M q) → jtC M' n tx p → am_T X 60 132 [some (.ref 0), none, none, none, none] [] (jm_s M' L G) (0, 0) Q) → am_T X 60 22 [some (.ref 0), some (.int x1), some (.int (nI i)), none, none] [] (jm_s M L G) (0, 0) Q := by
  intro d
  induction d with
  | zero =>
    intro i M hi hT hQ
    have e : i = 4 := by omega
    subst e
    refine rn_X5_ranks_0_22 ⟨fun _ => cl_i (fun _ h => ct_goesOn hT hb h) (rn_X5_ranks_0_115 ?_), fun e => absurd (nI_le (Nat.le_refl 4) (by decide)) e⟩
    have e0 : (p.2.isNone && decide (p.1 < n)) = false := by
      cases h : p.2 with
      | none => exact absurd h hp
      | some e => rfl
    rw [e0]
    exact ⟨fun _ => hQ M (fun _ _ => rfl) hT, fun e => absurd rfl e⟩
  | succ d ih =>
    intro i M hi hT hQ
    refine rn_X5_ranks_0_22 ⟨fun e => absurd e (nI_ge (show i < 4 by omega) (by decide)), fun _ => cl_w (ct_letter_k hT hb (fun M1 r f1 h1 _ _ => ⟨_, rfl, ?_⟩))⟩
    rw [jq_l_x hp] at h1
    refine rg_X5_ranks_0_44 (cl_i (fun _ h => ct_isGood h1 hb h) (rn_X5_ranks_0_53 ?_))
    rw [jb_bad hp]
    refine ⟨fun _ => rg_X5_ranks_0_74 (cl_i (fun _ h => ct_isGood h1 hb h) (rn_X5_ranks_0_81 ?_)), fun e => absurd rfl e⟩
    rw [jb_bad hp, nI_1]
    exact ⟨fun _ => ih (i + 1) M1 (by omega) h1 (fun M2 f2 h2 => hQ M2 (fun q hq => by rw [f2 q hq, f1 q hq]) h2), fun e => absurd rfl e⟩
theorem cl_rk : ∀ d i p u od M, i + d = 4 → u < 16 → jtC M n tx p → jtb n tx p → (∀ j, j < i → M 12 j = od j) → (∀ M', (∀ q, q ≠ 1 → q ≠ 12 → M' q = M q) → jtC M' n tx (jt_rk n tx d p u od).1 → ((jt_rk n tx d p u od).1.2 = none → ∀ j, j < 4 → M' 12 j = (jt_rk n tx d p u od).2 j) → am_T X 60 132 [some (.ref 0), none, none, none, none] [] (jm_s M' L G) (0, 0) Q) → am_T X 60 22 [some (.ref 0), some (.int (nI u)), some (.int (nI i)), none, none] [] (jm_s M L G) (0, 0) Q := by
  intro d
  induction d with
  | zero =>
    intro i p u od M hi hu hT hb ho hQ
    have e : i = 4 := by omega
    subst e
    have b1 := hb.1
    have b2 := hb.2.1
    refine rn_X5_ranks_0_22 ⟨fun _ => cl_i (fun _ h => ct_goesOn hT hb h) (rn_X5_ranks_0_115 ?_), fun e => absurd (nI_le (Nat.le_refl 4) (by decide)) e⟩
    unfold jt_rk at hQ
    by_cases hk : p.1 < n
    · rw [if_pos hk] at hQ
      rw [decide_eq_true hk, Bool.and_true]
      by_cases hp : p.2 = none
      · rw [hp]
        refine ⟨fun e => absurd e (by decide), fun _ => ?_⟩
        rw [hT.2.1]
        exact cl_v (ct_fail hT hb (fun M1 f1 h1 => ⟨rfl, hQ M1 (fun q q1 _ => f1 q q1) h1 (fun e => absurd e jq_f_n)⟩))
      · rw [jq_f_x hp] at hQ
        rw [jb_bad hp]
        exact ⟨fun _ => hQ M (fun _ _ _ => rfl) hT (fun e => absurd e hp), fun e => absurd rfl e⟩
    · rw [if_neg hk] at hQ
      rw [decide_eq_false hk, Bool.and_false]
      exact ⟨fun _ => hQ M (fun _ _ _ => rfl) hT (fun _ => ho), fun e => absurd rfl e⟩
  | succ d ih =>
    intro i p u od M hi hu hT hb ho hQ
    have b1 := hb.1
    have b2 := hb.2.1
    unfold jt_rk at hQ
    refine rn_X5_ranks_0_22 ⟨fun e => absurd e (nI_ge (show i < 4 by omega) (by decide)), fun _ => cl_w (ct_letter_k hT hb (fun M1 r f1 h1 e1 _ => ⟨_, rfl, ?_⟩))⟩
    have hb2 := (jq_l_b (jl := jl_k) hb).1
    refine rg_X5_ranks_0_44 (cl_i (fun _ h => ct_isGood h1 hb2 h) (rn_X5_ranks_0_53 ?_))
    by_cases hg : (jq_l jl_k n tx p).2.2 = none
    · rw [if_pos hg] at hQ
      have hk := jq_k_lt hb hg
      obtain ⟨p1, p2, p3, _, _⟩ := jpo_1 u hu _ hk
      rw [hg, e1 hg, p1, hT.2.1]
      refine ⟨fun e => absurd e (by decide), fun _ => ⟨fun hs => ?_, fun hs => ?_⟩⟩
      · rw [if_pos hs] at hQ
        refine cl_v (ct_fail h1 hb2 (fun M2 f2 h2 => ⟨rfl, ?_⟩))
        have hb3 := jq_fp_b (e := p.1) (by omega) hb2
        refine rg_X5_ranks_0_74 (cl_i (fun _ h => ct_isGood h2 hb3 h) (rn_X5_ranks_0_81 ?_))
        rw [jb_bad jq_f_n, nI_1]
        exact ⟨fun _ => cl_rkb hb3 jq_f_n d (i + 1) M2 (by omega) h2 (fun M3 f3 h3 => hQ M3 (fun q q1 _ => by rw [f3 q q1, f2 q q1, f1 q q1]) h3 (fun e => absurd e jq_f_n)), fun e => absurd rfl e⟩
      · rw [if_neg hs] at hQ
        refine rg_X5_ranks_0_74 (cl_i (fun _ h => ct_isGood h1 hb2 h) (rn_X5_ranks_0_81 ?_))
        rw [hg, p2, nI_1, nI_clamp (show i < 2147483648 by omega)]
        refine ⟨fun e => absurd e (by decide), fun _ => ⟨vp_in_nI (by omega) (by decide), ?_⟩⟩
        refine ih (i + 1) _ _ _ _ (by omega) p3 (show jtC (wi_m M1 12 i (nI (jq_l jl_k n tx p).1)) n tx (jq_l jl_k n tx p).2 from h1) hb2 (fun j hj => ?_) (fun M2 f2 h2 o2 => hQ M2 (fun q q1 q2 => by rw [f2 q q1 q2, wi_m_p _ _ q2, f1 q q1]) h2 o2)
        rw [wi_m_f, f1 12 (by decide)]
        show (if j = i then _ else M 12 j) = if j = 3 - d then _ else od j
        rw [show 3 - d = i by omega]
        by_cases hj2 : j = i
        · rw [if_pos hj2, if_pos hj2]
        · rw [if_neg hj2, if_neg hj2, ho j (by omega)]
    · rw [if_neg hg] at hQ
      rw [jb_bad hg]
      refine ⟨fun _ => rg_X5_ranks_0_74 (cl_i (fun _ h => ct_isGood h1 hb2 h) (rn_X5_ranks_0_81 ?_)), fun e => absurd rfl e⟩
      rw [jb_bad hg, nI_1]
      exact ⟨fun _ => cl_rkb hb2 hg d (i + 1) M1 (by omega) h1 (fun M2 f2 h2 => hQ M2 (fun q q1 _ => by rw [f2 q q1, f1 q q1]) h2 (fun e => absurd e hg)), fun e => absurd rfl e⟩
theorem ct_movedKinds {o o' : Nat → Int32} (h1 : ∀ i, i < 4 → M 7 i = o i) (h2 : ∀ i, i < 4 → M 12 i = o' i) (hQ : Q (some (some (.int (nI (jmk o o' 4))))) (jm_s M L G)) : am_T X 113 0 [some (.ref 0), none, none] [] (jm_s M L G) (0, 0) Q := by
  refine rg_X5_movedKinds_0_0 ?_
  refine lp_dn (P := fun k => am_T X 113 4 [some (.ref 0), some (.int (nI (jmk o o' k))), some (.int (nI k))] [] (jm_s M L G) (0, 0) Q) 4 ?_ ?_ 0 (by decide)
  · exact rn_X5_movedKinds_0_4 ⟨fun _ => hQ, fun e => absurd (nI_le (Nat.le_refl 4) (by decide)) e⟩
  · intro k hk ih
    refine rn_X5_movedKinds_0_4 ⟨fun e => absurd e (nI_ge hk (by decide)), fun _ => ⟨vp_in_nI hk (by decide), ?_⟩⟩
    rw [nI_clamp (show k < 2147483648 by omega), h1 k hk, h2 k hk, nI_1, nI_1]
    unfold jmk at ih
    refine ⟨fun e => ?_, fun e => ?_⟩
    · rw [if_pos e] at ih
      exact ih
    · rw [if_neg e] at ih
      exact ih
theorem cc_ranks (hA : jAw a) (hC : jC M L G a) (q0 : ∀ e, (jt_rk (ja_tn a) (ja_tx a) 4 (0, none) 0 (jod (ja_s a))).1.2 = some e → ∀ M', (∀ q, q ≠ 1 → q < 10 ∨ 14 < q → M' q = M q) → M' 1 1 = 0 → Q (some (some (.int (-1 - nI e)))) (jm_s M' L G)) (q1 : (jt_rk (ja_tn a) (ja_tx a) 4 (0, none) 0 (jod (ja_s a))).1.2 = none → ∀ M' G', jC M' L G' (ja_up (ja_t a 0 (ja_tx a)) (js_od (ja_s a) (jt_rk (ja_tn a) (ja_tx a) 4 (0, none) 0 (jod (ja_s a))).2)) → (∀ q, 101 ≤ q → M' q = M q) → Q (some (some (.int (nI (jmk (jod (ja_s a)) (jt_rk (ja_tn a) (ja_tx a) 4 (0, none) 0 (jod (ja_s a))).2 4))))) (jm_s M' L G')) : am_T X 60 0 [some (.ref 0), none, none, none, none] [] (jm_s M L G) (0, 0) Q := by
  have hb0 : jtb (ja_tn a) (ja_tx a) (0, none) := ⟨Nat.zero_le _, hA.2.2.2.1.1, hA.2.2.2.1.2, fun e he => absurd he (by simp)⟩
  obtain ⟨w1, w2⟩ := jt_rk_w 4 (0, none) 0 (jod (ja_s a)) (Nat.le_refl 4) hb0 (by decide) rfl (fun k hk h => absurd h (by rw [Nat.zero_div]; decide))
  refine rg_X5_ranks_0_0 (cl_v (ct_copy_10_5 hC.1.1.1 hA.1.1 (fun M1 f1 h1 => ⟨rfl, rg_X5_ranks_0_11 (cl_v (ct_open hA hC (fun M2 f2 h2 t2 => ⟨rfl, rg_X5_ranks_0_18 ?_⟩) f1 h1))⟩)))
  refine cl_rk (n := ja_tn a) (tx := ja_tx a) 4 0 (0, none) 0 (jod (ja_s a)) M2 rfl (by decide) t2 hb0 (fun j hj => absurd hj (Nat.not_lt_zero j)) (fun M3 f3 t3 o3 => rg_X5_ranks_0_132 (cl_i (fun _ h => ct_close t3 w1 h) (rn_X5_ranks_0_139 ?_)))
  generalize (jt_rk (ja_tn a) (ja_tx a) 4 (0, none) 0 (jod (ja_s a))) = R at *
  have F : ∀ q, q ≠ 1 → q < 10 ∨ 14 < q → (wi_m M3 1 1 0) q = M q := fun q a1 a2 => by rw [wi_m_p _ _ a1, f3 q a1 (by omega), f2 q a1 a2]
  cases hp : R.1.2 with
  | some e =>
    refine ⟨fun _ => cl_w (rg_X4_fault_1_0 ⟨_, rfl, rg_X5_ranks_0_160 ?_⟩), fun e => absurd rfl e⟩
    have e3 : (wi_m M3 1 1 0) 1 3 = nI e := by
      show M3 1 3 = _
      rw [t3.2.2.1, hp]
      rfl
    rw [e3]
    exact q0 e hp _ F rfl
  | none =>
    refine ⟨fun e => absurd e (by decide), fun _ => ?_⟩
    have S3 : jh (wi_m M3 1 1 0) 10 (js_od (ja_s a) R.2) := by
      have W : ∀ q, q ≠ 1 → (wi_m M3 1 1 0) q = M3 q := fun q hq => wi_m_p _ _ hq
      obtain ⟨g1, g2, g3, g4, g5, g6, g7⟩ := h2
      unfold jh
      rw [W 10 (by decide), W (10 + 4) (by decide), W (10 + 1) (by decide), W (10 + 2) (by decide), W (10 + 3) (by decide), f3 10 (by decide) (by decide), f3 (10 + 4) (by decide) (by decide), f3 (10 + 1) (by decide) (by decide), f3 (10 + 3) (by decide) (by decide)]
      exact ⟨g1, g2, g3, o3 hp, g5, g6, g7⟩
    have S5 : ∀ i, i < 4 → (wi_m M3 1 1 0) 7 i = jod (ja_s a) i := fun i hi => by
      rw [F 7 (by decide) (by decide)]
      exact hC.1.1.1.2.2.2.1 i hi
    refine cl_w (ct_movedKinds (o := jod (ja_s a)) (o' := R.2) S5 S3.2.2.2.1 ⟨_, rfl, rg_X5_ranks_0_147 ?_⟩)
    have hm := jmk_b (o := jod (ja_s a)) (o' := R.2) 4
    refine cl_w (ct_adopt (a := ja_t a 0 (ja_tx a)) (jAw_t hA (by decide) (fun i hi => absurd hi (Nat.not_lt_zero i))) (jC_te hC F rfl) S3 ⟨hA.1.1, hA.1.2.1, w2 hp, hA.1.2.2.2⟩ (nI_pos' (by omega)) (fun M4 G4 hC4 f4 => ⟨_, rfl, rg_X5_ranks_0_150 (rg_X5_ranks_0_160 (q1 hp M4 G4 hC4 (fun q hq => ?_)))⟩))
    rw [f4 q hq, F q (by omega) (by omega)]
theorem rl_rk : ∀ d i p u od M, i + d = 4 → u < 16 → jtR M n tx p → jtb n tx p → (∀ j, j < i → M 105 j = od j) → (∀ M' p', (∀ q, q ≠ 101 → q ≠ 105 → M' q = M q) → (∀ i, i ≠ 7 → i ≠ 8 → M' 101 i = M 101 i) → jtb n tx p' → jtR M' n tx p' → (if p'.1 < n then jq_f p' p'.1 else p') = (jt_rk n tx d p u od).1 → ((jt_rk n tx d p u od).1.2 = none → ∀ j, j < 4 → M' 105 j = (jt_rk n tx d p u od).2 j) → ∃ K : Int32 → am_S → Prop, am_T X 143 0 [some (.ref 101)] [] (jm_s M' L G) (0, 0) (am_qi K) ∧ ∀ v σ', K v σ' → am_T X 146 82 [some (.ref 101), none, none, none] [(.int v)] σ' (0, 0) Q) → am_T X 146 13 [some (.ref 101), some (.int (nI u)), some (.int (nI i)), none] [] (jm_s M L G) (0, 0) Q := by
  -- behind a fault
  have bad : ∀ M p (x1 x2 : Int32), jtR M n tx p → jtb n tx p → ¬ p.2 = none → (∃ K : Int32 → am_S → Prop, am_T X 143 0 [some (.ref 101)] [] (jm_s M L G) (0, 0) (am_qi K) ∧ ∀ v σ', K v σ' → am_T X 146 82 [some (.ref 101), none, none, none] [(.int v)] σ' (0, 0) Q) → am_T X 146 13 [some (.ref 101), some (.int x1), some (.int x2), none] [] (jm_s M L G) (0, 0) Q := by
    intro M p x1 x2 hT hb hp fin
    refine rn_X6_ranks_101_13 ⟨fun _ => fin, fun _ => cl_i (fun _ h => ct_fine hT hb h) (rn_X6_ranks_101_22 ?_)⟩
    rw [jb_bad hp]
    exact ⟨fun _ => fin, fun e => absurd rfl e⟩
  have same : ∀ p : Nat × Option Nat, ¬ p.2 = none → (if p.1 < n then jq_f p p.1 else p) = p := by
    intro p hp
    rw [jq_f_x hp, ite_self]
  intro d
  induction d with
  | zero =>
    intro i p u od M hi hu hT hb ho hQ
    have e : i = 4 := by omega
    subst e
    exact rn_X6_ranks_101_13 ⟨fun _ => hQ M p (fun _ _ _ => rfl) (fun _ _ _ => rfl) hb hT rfl (fun _ => ho), fun e => absurd (nI_le (Nat.le_refl 4) (by decide)) e⟩
  | succ d ih =>
    intro i p u od M hi hu hT hb ho hQ
    have b1 := hb.1
    have b2 := hb.2.1
    unfold jt_rk at hQ
    refine rn_X6_ranks_101_13 ⟨fun e => absurd e (nI_ge (show i < 4 by omega) (by decide)), fun _ => cl_i (fun _ h => ct_fine hT hb h) (rn_X6_ranks_101_22 ?_)⟩
    have hb2 := (jq_l_b (jl := jl_k) hb).1
    by_cases hp : p.2 = none
    · rw [hp]
      refine ⟨fun e => absurd e (by decide), fun _ => cl_w (ct_readKind hT hb (fun M1 r f1 h1 e1 => ⟨_, rfl, rg_X6_ranks_101_29 (cl_i (fun _ h => ct_fine h1 hb2 h) (rn_X6_ranks_101_34 ?_))⟩))⟩
      by_cases hg : (jq_l jl_k n tx p).2.2 = none
      · rw [if_pos hg] at hQ
        have hk := jq_k_lt hb hg
        have hat := ((jq_l_b (jl := jl_k) hb).2 hg).2
        obtain ⟨p1, p2, p3, _, _⟩ := jpo_1 u hu _ hk
        have T : ∀ {M : Nat → Nat → Int32} {i v p}, jtR M n tx p → jtR (wi_m M 105 i v) n tx p := fun h => h
        rw [hg, e1 hg, p1, h1.2.1, hat, show nI (p.1 + 1) - 1 = nI p.1 from pk_sub (b := 1) (by omega)]
        refine ⟨fun e => absurd e (by decide), fun _ => ⟨fun hs => ?_, fun hs => ?_⟩⟩
        · rw [if_pos hs] at hQ
          refine cl_v (ct_rfault h1 hb2 (fun M2 f2 h2 => ⟨rfl, rn_X6_ranks_101_59 ⟨vp_in_nI (by omega) (by decide), ?_⟩⟩))
          refine bad _ (jq_f (jq_l jl_k n tx p).2 p.1) _ _ (T h2) (jq_fp_b (by omega) hb2) jq_f_n (hQ _ (jq_f (jq_l jl_k n tx p).2 p.1) (fun q q1 q2 => by rw [wi_m_p _ _ q2, f2.1 q q1, f1.1 q q1]) (fun i i1 i2 => by rw [wi_m_p _ _ (by decide), f2.2 i i1 i2, f1.2 i i1 i2]) (jq_fp_b (by omega) hb2) (T h2) (same _ jq_f_n) (fun e => absurd e jq_f_n))
        · rw [if_neg hs] at hQ
          refine rn_X6_ranks_101_59 ⟨vp_in_nI (by omega) (by decide), ?_⟩
          rw [p2, nI_1, nI_clamp (show i < 2147483648 by omega)]
          refine ih (i + 1) _ _ _ _ (by omega) p3 (T h1) hb2 (fun j hj => ?_) (fun M2 p' f2 k2 b2 h2 e2 o2 => hQ M2 p' (fun q q1 q2 => by rw [f2 q q1 q2, wi_m_p _ _ q2, f1.1 q q1]) (fun i i1 i2 => by rw [k2 i i1 i2, wi_m_p _ _ (by decide), f1.2 i i1 i2]) b2 h2 e2 o2)
          rw [wi_m_f, f1.1 105 (by decide)]
          show (if j = i then _ else M 105 j) = if j = 3 - d then _ else od j
          rw [show 3 - d = i by omega]
          by_cases hj2 : j = i
          · rw [if_pos hj2, if_pos hj2]
          · rw [if_neg hj2, if_neg hj2, ho j (by omega)]
      · rw [if_neg hg] at hQ
        rw [jb_bad hg]
        exact ⟨fun _ => bad _ (jq_l jl_k n tx p).2 _ _ h1 hb2 hg (hQ _ (jq_l jl_k n tx p).2 (fun q q1 _ => f1.1 q q1) f1.2 hb2 h1 (same _ hg) (fun e => absurd e hg)), fun e => absurd rfl e⟩
    · have e0 : (jq_l jl_k n tx p).2 = p := jq_l_x hp
      rw [e0, if_neg hp] at hQ
      rw [jb_bad hp]
      exact ⟨fun _ => hQ M p (fun _ _ _ => rfl) (fun _ _ _ => rfl) hb hT (same _ hp) (fun e => absurd e hp), fun e => absurd rfl e⟩
theorem jR_od {f g : Nat → Int32} {od : Nat → Int32} (hR : jR f s) (hn : jn s ≤ 44) (h1 : ∀ i, i < 241 ∨ 245 ≤ i → g i = f i) (h2 : ∀ j, j < 4 → g (241 + j) = od j) : jR g (js_od s od) := by
  obtain ⟨r1, r2, r3, r4, r5, r6, r7⟩ := hR
  refine ⟨by rw [h1 0 (by decide)]; exact r1, fun i hi => ?_, fun i hi => ?_, h2, ?_, ?_, fun i hi => ?_⟩
  · have hi2 : i < 5 * jn s := hi
    rw [h1 _ (by omega)]
    exact r2 i hi2
  · rw [h1 _ (by omega)]
    exact r3 i hi
  · rw [h1 _ (by omega)]
    exact r5
  · rw [h1 _ (by omega)]
    exact r6
  · rw [h1 _ (by omega)]
    exact r7 i hi
theorem wl_rk {o' : Nat → Int32} (hR : jR (M 102) s) (hn : jn s ≤ 44) (h5 : ∀ j, j < 4 → M 105 j = o' j) (hQ : ∀ M', (∀ q, q ≠ 102 → M' q = M q) → jR (M' 102) (js_od s o') → Q (some (some (.int (nI (jmk (jod s) o' 4))))) (jm_s M' L G)) : am_T X 146 100 [some (.ref 101), none, some (.int 0), some (.int 0)] [] (jm_s M L G) (0, 0) Q := by
  refine lp_dn (P := fun k => ∀ M1, (∀ q, q ≠ 102 → M1 q = M q) → (∀ i, i < 241 ∨ 241 + k ≤ i → M1 102 i = M 102 i) → (∀ j, j < k → M1 102 (241 + j) = o' j) → am_T X 146 100 [some (.ref 101), none, some (.int (nI (jmk (jod s) o' k))), some (.int (nI k))] [] (jm_s M1 L G) (0, 0) Q) 4 ?_ ?_ 0 (by decide) M (fun _ _ => rfl) (fun _ _ => rfl) (fun j hj => absurd hj (Nat.not_lt_zero j))
  · intro M1 f1 g1 k1
    exact rn_X6_ranks_101_100 ⟨fun _ => hQ M1 f1 (jR_od hR hn (fun i hi => g1 i (by omega)) k1), fun e => absurd (nI_le (Nat.le_refl 4) (by decide)) e⟩
  · intro k hk ih M1 f1 g1 k1
    refine rn_X6_ranks_101_100 ⟨fun e => absurd e (nI_ge hk (by decide)), fun _ => ?_⟩
    rw [show (241 : Int32) + nI k = nI (241 + k) from nI_add 241 k, nI_clamp (show k < 2147483648 by omega), nI_clamp (show 241 + k < 2147483648 by omega), g1 (241 + k) (by omega), f1 105 (by decide), h5 k hk, hR.2.2.2.1 k hk, nI_1, nI_1]
    have step := ih (wi_m M1 102 (241 + k) (o' k)) (fun q hq => by rw [wi_m_p _ _ hq, f1 q hq]) (fun i hi => by rw [wi_m_f]; show (if i = 241 + k then _ else M1 102 i) = _; rw [if_neg (by omega), g1 i (by omega)]) (fun j hj => by
      rw [wi_m_f]
      show (if 241 + j = 241 + k then _ else M1 102 (241 + j)) = _
      by_cases hj2 : j = k
      · rw [if_pos (by omega), hj2]
      · rw [if_neg (by omega), k1 j (by omega)])
    unfold jmk at step
    refine ⟨vp_in_nI (by omega) (by decide), vp_in_nI (by omega) (by decide), fun e => ?_, fun e => ?_⟩
    · rw [if_pos e.symm] at step
      rw [Int32.add_zero]
      exact step
    · rw [if_neg (fun q => e q.symm)] at step
      exact step
theorem rr_ranks (hA : jAw a) (hR : jRR M L a) (q0 : ∀ e, (jt_rk (ja_tn a) (ja_tx a) 4 (0, none) 0 (jod (ja_s a))).1.2 = some e → ∀ M', (∀ q, q ≠ 101 → q ≠ 105 → M' q = M q) → (∀ i, i ≠ 2 → i ≠ 5 → i ≠ 6 → i ≠ 7 → i ≠ 8 → M' 101 i = M 101 i) → M' 101 2 = 0 → Q (some (some (.int (-1 - nI e)))) (jm_s M' L G)) (q1 : (jt_rk (ja_tn a) (ja_tx a) 4 (0, none) 0 (jod (ja_s a))).1.2 = none → ∀ M', (∀ q, q < 101 → M' q = M q) → jRR M' L (ja_up (ja_t a 0 (ja_tx a)) (js_od (ja_s a) (jt_rk (ja_tn a) (ja_tx a) 4 (0, none) 0 (jod (ja_s a))).2)) → Q (some (some (.int (nI (jmk (jod (ja_s a)) (jt_rk (ja_tn a) (ja_tx a) 4 (0, none) 0 (jod (ja_s a))).2 4))))) (jm_s M' L G)) : am_T X 146 0 [some (.ref 101), none, none, none] [] (jm_s M L G) (0, 0) Q := by
  have hb0 : jtb (ja_tn a) (ja_tx a) (0, none) := ⟨Nat.zero_le _, hA.2.2.2.1.1, hA.2.2.2.1.2, fun e he => absurd he (by simp)⟩
  refine rg_X6_ranks_101_0 (cl_v (ct_begin hR (fun M1 f1 g1 z1 t1 => ⟨rfl, rg_X6_ranks_101_9 ?_⟩)))
  refine rl_rk (n := ja_tn a) (tx := ja_tx a) 4 0 (0, none) 0 (jod (ja_s a)) M1 rfl (by decide) t1 hb0 (fun j hj => absurd hj (Nat.not_lt_zero j)) (fun M2 p' f2 g2 b2 t2 e2 v2 => ?_)
  refine cl_w (ct_wasRight t2 b2 (fun M3 f3 t3 => ⟨_, rfl, rn_X6_ranks_101_82 ?_⟩))
  rw [e2] at t3 ⊢
  generalize (jt_rk (ja_tn a) (ja_tx a) 4 (0, none) 0 (jod (ja_s a))) = R at *
  have F : ∀ q, q ≠ 101 → q ≠ 105 → M3 q = M q := fun q a1 a2 => by rw [f3.1 q a1, f2 q a1 a2, f1 q a1]
  have F1 : ∀ i, i ≠ 2 → i ≠ 5 → i ≠ 6 → i ≠ 7 → i ≠ 8 → M3 101 i = M 101 i := fun i a1 a2 a3 a4 a5 => by rw [f3.2 i a4 a5, g2 i a4 a5, g1 i a1 a2 a3 a4 a5]
  have F2 : M3 101 2 = 0 := by rw [f3.2 2 (by decide) (by decide), g2 2 (by decide) (by decide), z1]
  cases hp : R.1.2 with
  | some e =>
    refine ⟨fun _ => ?_, fun e => absurd rfl e⟩
    rw [t3.2.2.1, hp]
    exact q0 e hp M3 F F1 F2
  | none =>
    refine ⟨fun e => absurd e (by decide), fun _ => ?_⟩
    have hR3 : jRR M3 L (ja_t a 0 (ja_tx a)) := jRR_te hR F F1 F2
    refine cl_v (ct_changeT (a := ja_t a 0 (ja_tx a)) (jAw_t hA (by decide) (fun i hi => absurd hi (Nat.not_lt_zero i))) hR3 (fun M4 f4 hR4 => ⟨rfl, rg_X6_ranks_101_96 ?_⟩))
    refine wl_rk (s := ja_s a) (o' := R.2) hR4.1.1 (Nat.le_trans hA.1.1 (by decide)) (fun j hj => ?_) (fun M5 f5 h5 => q1 hp M5 (fun q hq => ?_) (jRR_st hR4 f5 h5))
    · rw [f4 105 (by decide) (by decide) (by decide), f3.1 105 (by decide)]
      exact v2 hp j hj
    · rw [f5 q (by omega), f4 q (by omega) (by omega) (by omega), F q (by omega) (by omega)]
theorem pp_ranks (hA : jAw a) (hC : jC M L G a) (hR : jRR M L a) : jpp X (jm_s M L G) 60 [some (.ref 0), none, none, none, none] 146 [some (.ref 101), none, none, none] :=
  pp_tx (p := (jt_rk (ja_tn a) (ja_tx a) 4 (0, none) 0 (jod (ja_s a))).1) (tx := ja_tx a) (k := jmk (jod (ja_s a)) (jt_rk (ja_tn a) (ja_tx a) 4 (0, none) 0 (jod (ja_s a))).2 4) (s' := js_od (ja_s a) (jt_rk (ja_tn a) (ja_tx a) 4 (0, none) 0 (jod (ja_s a))).2) hA hC hR (fun hp => ⟨hA.1.1, hA.1.2.1, (jt_rk_w 4 (0, none) 0 (jod (ja_s a)) (Nat.le_refl 4) ⟨Nat.zero_le _, hA.2.2.2.1.1, hA.2.2.2.1.2, fun e he => absurd he (by simp)⟩ (by decide) rfl (fun k hk h => absurd h (by rw [Nat.zero_div]; decide))).2 hp, hA.1.2.2.2⟩) (fun Q q0 q1 => cc_ranks hA hC q0 q1) (fun M1 G1 hR1 Q q0 q1 => rr_ranks hA hR1 q0 q1)
end Ranks
