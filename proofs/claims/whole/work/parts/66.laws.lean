/-! ===== pairs: laws told as a TEXT (written by wip/gen/gen_laws.py) ===== -/
def jg_m (k : Nat) : Nat := if k = 0 then 3 else if k = 3 then 3 else 2
def jg_lo (k : Nat) : Nat := if k = 0 then 1 else 0
def jg_hi (k : Nat) : Nat := if k = 0 then 240 else if k = 3 then 359 else 99
theorem jg_ka : ∀ k, k < 4 → am_ka 1003 k = nI (jg_m k) ∧ am_ka 1001 k = nI (jg_lo k) ∧ am_ka 1002 k = nI (jg_hi k) ∧ jm_ll (nI k) = nI (jg_lo k) ∧ jm_lm (nI k) = nI (jg_hi k) := by decide +kernel
theorem jg_mb (k : Nat) : jg_m k ≤ 9 ∧ 1 ≤ jg_m k ∧ jg_hi k ≤ 359 ∧ jg_lo k ≤ 1 := by
  unfold jg_m jg_hi jg_lo
  grind
/-- one law, and k numbers -/
def jg (n : Nat) (tx : Nat → Nat) (p : Nat × Option Nat) : Nat → Nat × (Nat × Option Nat)
  | 0 => jq_l jl_c n tx p
  | k + 1 => jq_n (jg_m k) (jg_lo k) (jg_hi k) n tx (jg n tx p k).2
def jgs (n : Nat) (tx : Nat → Nat) (p : Nat × Option Nat) (s : jS) : Nat → jS
  | 0 => s
  | k + 1 => js_law (jgs n tx p s k) (4 * (jg n tx p 0).1 + k) (nI (jg n tx p (k + 1)).1)
section Laws
variable {X : Nat × (Nat → Int32)} {M : Nat → Nat → Int32} {L : Nat → Nat → Int64} {G : Nat → Nat → Option Nat} {Q : am_Q} {n : Nat} {tx : Nat → Nat} {p : Nat × Option Nat} {a : jA} {s : jS}
theorem jg_b (hb : jtb n tx p) : ∀ k, jtb n tx (jg n tx p k).2 ∧ ((jg n tx p k).2.2 = none → p.2 = none ∧ (jg n tx p 0).2.2 = none ∧ p.1 + 1 ≤ (jg n tx p k).2.1 ∧ (jg n tx p 0).1 < 5 ∧ ∀ j, j < k → (jg n tx p j).2.2 = none ∧ jg_lo j ≤ (jg n tx p (j + 1)).1 ∧ (jg n tx p (j + 1)).1 ≤ jg_hi j)
  | 0 => by
    obtain ⟨a1, b1⟩ := jq_l_b (jl := jl_c) hb
    refine ⟨a1, fun q => ?_⟩
    have v1 := jq_l_v q
    obtain ⟨c0, d0⟩ := b1 q
    exact ⟨c0, q, Nat.le_of_eq d0.symm, (jl_lt _ (hb.2.2.1 _ v1.1)).1 _ v1.2, fun j hj => absurd hj (Nat.not_lt_zero j)⟩
  | k + 1 => by
    obtain ⟨a1, b1⟩ := jg_b hb k
    obtain ⟨a2, b2⟩ := jq_n_b (m := jg_m k) (lo := jg_lo k) (hi := jg_hi k) a1
    refine ⟨a2, fun q => ?_⟩
    obtain ⟨c1, d1, l1, u1⟩ := b2 q
    obtain ⟨e0, e1, e2, e3, e4⟩ := b1 c1
    have d1' : (jg n tx p (k + 1)).2.1 = (jg n tx p k).2.1 + jg_m k := d1
    refine ⟨e0, e1, by omega, e3, fun j hj => ?_⟩
    by_cases hjk : j = k
    · subst hjk
      exact ⟨c1, l1, u1⟩
    · exact e4 j (by omega)
theorem jgs_w (hb : jtb n tx p) (hw : jw s 20) : ∀ k, (jg n tx p k).2.2 = none → jw (jgs n tx p s k) 20
  | 0, _ => hw
  | k + 1, q => by
    obtain ⟨_, b⟩ := jg_b hb (k + 1)
    have h := (b q).2.2.2.2 k (by omega)
    exact jw_law (jgs_w hb hw k h.1) (Nat.le_trans h.2.2 (jg_mb k).2.2.1)
theorem jgs_n : ∀ k, jn (jgs n tx p s k) = jn s
  | 0 => rfl
  | k + 1 => jgs_n k
theorem jo_law_js {c k v : Nat} (hc : c < 5) (hk : k < 4) (h1 : jg_lo k ≤ v) (h2 : v ≤ jg_hi k) : (jo_law s (nI c) (nI k) (nI v)).2 = js_law s (4 * c + k) (nI v) := by
  obtain ⟨_, _, _, k1, k2⟩ := jg_ka k hk
  have hh := (jg_mb k).2.2.1
  unfold jo_law
  rw [k1, k2, nI_clamp (show c < 2147483648 by omega), nI_clamp (show k < 2147483648 by omega), if_pos ⟨⟨nI_pos' (by omega), nI_le (b := 4) (by omega) (by decide)⟩, ⟨nI_pos' (by omega), nI_le (b := 3) (by omega) (by decide)⟩, nI_le h1 (by omega), nI_le h2 (by omega)⟩]
  by_cases he : jlw s (4 * c + k) = nI v
  · rw [if_pos he, ← he, js_law_id]
  · rw [if_neg he]
theorem cl_lw4 {x1 x2 x3 : Int32} (hx : (jg n tx p 0).2.2 = none → x3 = nI (jg n tx p 0).1) (hb : jtb n tx p) (hn : jn s ≤ 20) : ∀ d k M, k + d = 4 → jtC M n tx (jg n tx p k).2 → ((jg n tx p k).2.2 = none → jh M 10 (jgs n tx p s k)) → (∀ M', (∀ q, q ≠ 1 → q < 10 ∨ 14 < q → M' q = M q) → jtC M' n tx (jg n tx p 4).2 → ((jg n tx p 4).2.2 = none → jh M' 10 (jgs n tx p s 4)) → am_T X 59 22 [some (.ref 0), some (.int (x1 + 1)), some (.int (x2 + 1)), none, none, none] [] (jm_s M' L G) (0, 0) Q) → am_T X 59 51 [some (.ref 0), some (.int x1), some (.int x2), some (.int x3), some (.int (nI k)), none] [] (jm_s M L G) (0, 0) Q := by
  intro d
  induction d with
  | zero =>
    intro k M hk hT hS hQ
    have e4 : k = 4 := by omega
    subst e4
    exact rn_X5_laws_0_51 ⟨fun _ => hQ M (fun _ _ _ => rfl) hT hS, fun e => absurd (nI_le (Nat.le_refl 4) (by decide)) e⟩
  | succ d ih =>
    intro k M hk hT hS hQ
    have hk4 : k < 4 := by omega
    obtain ⟨k1, k2, k3, _, _⟩ := jg_ka k hk4
    obtain ⟨m1, m2, m3, m4⟩ := jg_mb k
    refine rn_X5_laws_0_51 ⟨fun e => absurd e (nI_ge hk4 (by decide)), fun _ => ⟨vp_in_nI hk4 (by decide), ?_⟩⟩
    rw [nI_clamp (show k < 2147483648 by omega), k1, k2, k3]
    refine cl_w (ct_number (m := jg_m k) (lo := jg_lo k) (hi := jg_hi k) m1 m2 (by omega) (by omega) (fun _ => rfl) hT (jg_b hb k).1 (fun M1 r f1 h1 e1 => ⟨_, rfl, rg_X5_laws_0_82 ?_⟩))
    have h1 : jtC M1 n tx (jg n tx p (k + 1)).2 := h1
    have e1 : (jg n tx p (k + 1)).2.2 = none → r = nI (jg n tx p (k + 1)).1 := e1
    obtain ⟨b1, b2⟩ := jg_b hb (k + 1)
    refine cl_i (fun _ h => ct_isGood h1 b1 h) (rn_X5_laws_0_91 ?_)
    rw [nI_1 k]
    by_cases hg : (jg n tx p (k + 1)).2.2 = none
    · rw [hg]
      obtain ⟨g0, g1, g2, g3, g4⟩ := b2 hg
      obtain ⟨g5, g6, g7⟩ := g4 k (by omega)
      refine ⟨fun e => absurd e (by decide), fun _ => ?_⟩
      rw [hx g1, e1 hg]
      refine cl_w (ct_amend (jh_f (hS g5) (fun q q1 q2 => f1 q (by omega))) (fun M2 f2 h2 => ⟨_, rfl, rg_X5_laws_0_106 ?_⟩))
      rw [jo_law_js g3 hk4 g6 g7] at h2
      rw [nI_1 k]
      have hx' := hx g1
      rw [hx'] at ih
      exact ih (k + 1) M2 (by omega) (jtC_f h1 (f2 1 (by decide)) (f2 2 (by decide))) (fun _ => h2) (fun M3 f3 h3 s3 => hQ M3 (fun q q1 q2 => by rw [f3 q q1 q2, f2 q q2, f1 q q1]) h3 s3)
    · rw [show (jg n tx p (k + 1)).2.2.isNone = false by cases h : (jg n tx p (k + 1)).2.2 with | none => exact absurd h hg | some e => rfl]
      exact ⟨fun _ => ih (k + 1) M1 (by omega) h1 (fun e => absurd e hg) (fun M3 f3 h3 s3 => hQ M3 (fun q q1 q2 => by rw [f3 q q1 q2, f1 q q1]) h3 s3), fun e => absurd rfl e⟩
def jt_lw (n : Nat) (tx : Nat → Nat) : Nat → (Nat × Option Nat) → jS → Nat → (Nat × Option Nat) × (jS × Nat)
  | 0, p, s, c => (p, s, c)
  | f + 1, p, s, c => if p.2 = none ∧ p.1 < n then (if (jg n tx p 4).2.2 = none then jt_lw n tx f (jg n tx p 4).2 (jgs n tx p s 4) (c + 1) else ((jg n tx p 4).2, s, c + 1)) else (p, s, c)
theorem jt_lw_x {f : Nat} {p : Nat × Option Nat} {s : jS} {c : Nat} (h : ¬ p.2 = none) : jt_lw n tx f p s c = (p, s, c) := by
  cases f with
  | zero => rfl
  | succ f =>
    unfold jt_lw
    rw [if_neg (fun e => h e.1)]
theorem jt_lw_w : ∀ f p s c, jtb n tx p → jw s 20 → jtb n tx (jt_lw n tx f p s c).1 ∧ jw (jt_lw n tx f p s c).2.1 20 ∧ c ≤ (jt_lw n tx f p s c).2.2 ∧ (jt_lw n tx f p s c).2.2 ≤ c + f ∧ (80 ≤ f + p.1 → (jt_lw n tx f p s c).1.2 = none → n ≤ (jt_lw n tx f p s c).1.1)
  | 0, p, s, c, hb, hw => ⟨hb, hw, Nat.le_refl _, Nat.le_refl _, fun h _ => by show n ≤ p.1; have := hb.2.1; omega⟩
  | f + 1, p, s, c, hb, hw => by
    unfold jt_lw
    obtain ⟨b5, b6⟩ := jg_b hb 4
    by_cases hc : p.2 = none ∧ p.1 < n
    · rw [if_pos hc]
      by_cases hg : (jg n tx p 4).2.2 = none
      · rw [if_pos hg]
        obtain ⟨i1, i2, i3, i4, i5⟩ := jt_lw_w f (jg n tx p 4).2 (jgs n tx p s 4) (c + 1) b5 (jgs_w hb hw 4 hg)
        have := (b6 hg).2.2.1
        exact ⟨i1, i2, by omega, by omega, fun h => i5 (by omega)⟩
      · rw [if_neg hg]
        exact ⟨b5, hw, Nat.le_succ c, by show c + 1 ≤ _; omega, fun _ e => absurd e hg⟩
    · rw [if_neg hc]
      exact ⟨hb, hw, Nat.le_refl _, Nat.le_add_right _ _, fun _ e => Nat.le_of_not_lt (fun q => hc ⟨e, q⟩)⟩
theorem cl_lw : ∀ f i p s c M, i + f = 80 → (p.2 = none → i ≤ p.1) → jtC M n tx p → jtb n tx p → (p.2 = none → jh M 10 s) → jn s ≤ 20 → (∀ M', (∀ q, q ≠ 1 → q < 10 ∨ 14 < q → M' q = M q) → jtC M' n tx (jt_lw n tx f p s c).1 → ((jt_lw n tx f p s c).1.2 = none → jh M' 10 (jt_lw n tx f p s c).2.1) → ∃ K : Int32 → am_S → Prop, am_T X 50 0 [some (.ref 1)] [] (jm_s M' L G) (0, 0) (am_qi K) ∧ ∀ v σ', K v σ' → am_T X 59 129 [some (.ref 0), some (.int (nI (jt_lw n tx f p s c).2.2)), none, none, none, none] [(.int v)] σ' (0, 0) Q) → am_T X 59 22 [some (.ref 0), some (.int (nI c)), some (.int (nI i)), none, none, none] [] (jm_s M L G) (0, 0) Q := by
  intro f
  induction f with
  | zero =>
    intro i p s c M hi hp hT hb hS hn hQ
    exact rn_X5_laws_0_22 ⟨fun _ => hQ M (fun _ _ _ => rfl) hT hS, fun e => absurd (nI_le (a := 80) (show 80 ≤ i by omega) (by omega)) e⟩
  | succ f ih =>
    intro i p s c M hi hp hT hb hS hn hQ
    unfold jt_lw at hQ
    refine rn_X5_laws_0_22 ⟨fun e => absurd e (nI_ge (show i < 80 by omega) (by decide)), fun _ => cl_i (fun _ h => ct_goesOn hT hb h) (rn_X5_laws_0_35 ?_)⟩
    by_cases hc : p.2 = none ∧ p.1 < n
    · rw [if_pos hc] at hQ
      rw [hc.1, decide_eq_true hc.2]
      refine ⟨fun e => absurd e (by decide), fun _ => cl_w (ct_letter_c hT hb (fun M1 r1 f1 h1 e1 _ => ⟨_, rfl, rg_X5_laws_0_47 ?_⟩))⟩
      refine cl_lw4 (s := s) e1 hb hn 4 0 M1 rfl h1 (fun _ => jh_f (hS hc.1) (fun q q1 q2 => f1 q (by omega))) (fun M2 f2 h2 s2 => ?_)
      rw [nI_1, nI_1]
      obtain ⟨b5, b6⟩ := jg_b hb 4
      by_cases hg : (jg n tx p 4).2.2 = none
      · rw [if_pos hg] at hQ
        refine ih (i + 1) (jg n tx p 4).2 (jgs n tx p s 4) (c + 1) M2 (by omega) (fun _ => ?_) h2 b5 s2 (by rw [jgs_n]; exact hn) (fun M3 f3 h3 s3 => hQ M3 (fun q q1 q2 => by rw [f3 q q1 q2, f2 q q1 q2, f1 q q1]) h3 s3)
        have := hp hc.1
        have := (b6 hg).2.2.1
        omega
      · rw [if_neg hg] at hQ
        refine ih (i + 1) (jg n tx p 4).2 s (c + 1) M2 (by omega) (fun e => absurd e hg) h2 b5 (fun e => absurd e hg) hn (fun M3 f3 h3 s3 => ?_)
        rw [jt_lw_x hg] at h3 s3 ⊢
        exact hQ M3 (fun q q1 q2 => by rw [f3 q q1 q2, f2 q q1 q2, f1 q q1]) h3 s3
    · rw [if_neg hc] at hQ
      have e0 : (p.2.isNone && decide (p.1 < n)) = false := by
        cases h : p.2 with
        | none => rw [decide_eq_false (fun e => hc ⟨h, e⟩)]; rfl
        | some e => rfl
      rw [e0]
      exact ⟨fun _ => hQ M (fun _ _ _ => rfl) hT hS, fun e => absurd rfl e⟩
theorem cc_laws (hA : jAw a) (hC : jC M L G a) (q0 : ∀ e, (jt_lw (ja_tn a) (ja_tx a) 80 (0, none) (ja_s a) 0).1.2 = some e → ∀ M', (∀ q, q ≠ 1 → q < 10 ∨ 14 < q → M' q = M q) → M' 1 1 = 0 → Q (some (some (.int (-1 - nI e)))) (jm_s M' L G)) (q1 : (jt_lw (ja_tn a) (ja_tx a) 80 (0, none) (ja_s a) 0).1.2 = none → ∀ M' G', jC M' L G' (ja_up (ja_t a 0 (ja_tx a)) (jt_lw (ja_tn a) (ja_tx a) 80 (0, none) (ja_s a) 0).2.1) → (∀ q, 101 ≤ q → M' q = M q) → Q (some (some (.int (nI (jt_lw (ja_tn a) (ja_tx a) 80 (0, none) (ja_s a) 0).2.2)))) (jm_s M' L G')) : am_T X 59 0 [some (.ref 0), none, none, none, none, none] [] (jm_s M L G) (0, 0) Q := by
  have hb0 : jtb (ja_tn a) (ja_tx a) (0, none) := ⟨Nat.zero_le _, hA.2.2.2.1.1, hA.2.2.2.1.2, fun e he => absurd he (by simp)⟩
  obtain ⟨w1, w2, _, w4, _⟩ := jt_lw_w 80 (0, none) (ja_s a) 0 hb0 hA.1
  refine rg_X5_laws_0_0 (cl_v (ct_copy_10_5 hC.1.1.1 hA.1.1 (fun M1 f1 h1 => ⟨rfl, rg_X5_laws_0_11 (cl_v (ct_open hA hC (fun M2 f2 h2 t2 => ⟨rfl, rg_X5_laws_0_18 ?_⟩) f1 h1))⟩)))
  refine cl_lw (n := ja_tn a) (tx := ja_tx a) 80 0 (0, none) (ja_s a) 0 M2 rfl (fun _ => Nat.le_refl 0) t2 hb0 (fun _ => h2) hA.1.1 (fun M3 f3 t3 h3 => cl_i (fun _ h => ct_close t3 w1 h) (rn_X5_laws_0_129 ?_))
  generalize jt_lw (ja_tn a) (ja_tx a) 80 (0, none) (ja_s a) 0 = R at *
  have F : ∀ q, q ≠ 1 → q < 10 ∨ 14 < q → (wi_m M3 1 1 0) q = M q := fun q a1 a2 => by rw [wi_m_p _ _ a1, f3 q a1 a2, f2 q a1 a2]
  cases hp : R.1.2 with
  | some e =>
    refine ⟨fun _ => cl_w (rg_X4_fault_1_0 ⟨_, rfl, rg_X5_laws_0_147 ?_⟩), fun e => absurd rfl e⟩
    have e3 : (wi_m M3 1 1 0) 1 3 = nI e := by
      show M3 1 3 = _
      rw [t3.2.2.1, hp]
      rfl
    rw [e3]
    exact q0 e hp _ F rfl
  | none =>
    refine ⟨fun e => absurd e (by decide), fun _ => ?_⟩
    have S3 : jh (wi_m M3 1 1 0) 10 R.2.1 := jh_f (h3 hp) (fun q a1 a2 => wi_m_p _ _ (by omega))
    refine cl_w (ct_adopt (a := ja_t a 0 (ja_tx a)) (jAw_t hA (by decide) (fun i hi => absurd hi (Nat.not_lt_zero i))) (jC_te hC F rfl) S3 w2 (nI_pos' (by omega)) (fun M4 G4 hC4 f4 => ⟨_, rfl, rg_X5_laws_0_137 (rg_X5_laws_0_147 (q1 hp M4 G4 hC4 (fun q hq => ?_)))⟩))
    rw [f4 q hq, F q (by omega) (by omega)]
/-- what the reference has noted -/
def jlr (n : Nat) (tx : Nat → Nat) : Nat → (Nat × Option Nat) → Nat → (Nat → Int32) → Prop
  | 0, _, _, _ => True
  | f + 1, p, c, A => p.2 = none → p.1 < n → (jg n tx p 4).2.2 = none → (∀ w, w < 5 → A (5 * c + w) = nI (jg n tx p w).1) ∧ jlr n tx f (jg n tx p 4).2 (c + 1) A
theorem jlr_x {f : Nat} {c : Nat} {A : Nat → Int32} (h : ¬ p.2 = none) : jlr n tx f p c A := by
  cases f with
  | zero => trivial
  | succ f => exact fun e => absurd e h
theorem rl_lw : ∀ f p s c M, (p.2 = none → 80 ≤ f + p.1) → c + f ≤ 80 → jtR M n tx p → jtb n tx p → (∀ M', (∀ q, q ≠ 101 → q ≠ 105 → M' q = M q) → (∀ i, i ≠ 7 → i ≠ 8 → M' 101 i = M 101 i) → jtR M' n tx (jt_lw n tx f p s c).1 → (∀ i, i < 5 * c → M' 105 i = M 105 i) → jlr n tx f p c (M' 105) → ∃ K : Int32 → am_S → Prop, am_T X 143 0 [some (.ref 101)] [] (jm_s M' L G) (0, 0) (am_qi K) ∧ ∀ v σ', K v σ' → am_T X 145 122 [some (.ref 101), some (.int (nI (jt_lw n tx f p s c).2.2)), none, none] [(.int v)] σ' (0, 0) Q) → am_T X 145 11 [some (.ref 101), some (.int (nI c)), none, none] [] (jm_s M L G) (0, 0) Q := by
  intro f
  induction f with
  | zero =>
    intro p s c M hp hcf hT hb hQ
    have b1 := hb.1
    have b2 := hb.2.1
    have fin := hQ M (fun _ _ _ => rfl) (fun _ _ _ => rfl) hT (fun _ _ => rfl) trivial
    refine rg_X6_laws_101_11 (cl_i (fun _ h => ct_fine hT hb h) (rn_X6_laws_101_15 ⟨fun _ => fin, fun e => ⟨fun _ => fin, fun h => absurd ?_ h⟩⟩))
    cases h : p.2 with
    | none =>
      rw [hT.1, hT.2.1]
      have := hp h
      exact nI_le (by omega) (by omega)
    | some e' =>
      rw [h] at e
      exact absurd rfl e
  | succ f ih =>
    intro p s c M hp hcf hT hb hQ
    have b1 := hb.1
    have b2 := hb.2.1
    unfold jt_lw at hQ
    refine rg_X6_laws_101_11 (cl_i (fun _ h => ct_fine hT hb h) (rn_X6_laws_101_15 ?_))
    by_cases hk : p.2 = none ∧ p.1 < n
    · rw [if_pos hk] at hQ
      rw [hk.1, hT.1, hT.2.1, nI_le_iff (by omega) (by omega)]
      refine ⟨fun e => absurd e (by decide), fun _ => ⟨fun e => absurd e (by omega), fun _ => ?_⟩⟩
      have B := jg_b hb
      have m5 : (5 : Int32) * nI c = nI (5 * c) := pk_mul 5 c
      rw [m5]
      have w : ∀ w, w < 5 → vp_in (nI (5 * c + w)) 640 := fun w hw => vp_in_nI (by omega) (by decide)
      have cm : ∀ w, w < 5 → (nI (5 * c + w)).toNatClampNeg = 5 * c + w := fun w hw => nI_clamp (by omega)
      have c0 : (nI (5 * c)).toNatClampNeg = 5 * c := nI_clamp (by omega)
      have a1 : nI (5 * c) + 1 = nI (5 * c + 1) := nI_add _ 1
      have a2 : nI (5 * c) + 2 = nI (5 * c + 2) := nI_add _ 2
      have a3 : nI (5 * c) + 3 = nI (5 * c + 3) := nI_add _ 3
      have a4 : nI (5 * c) + 4 = nI (5 * c + 4) := nI_add _ 4
      have T : ∀ {M : Nat → Nat → Int32} {i v p}, jtR M n tx p → jtR (wi_m M 105 i v) n tx p := fun h => h
      refine cl_w (ct_oneOf (f := 97) (m := 5) (by decide) (by decide) hT hb (fun M1 r1 f1 h1 e1 => ⟨_, rfl, rn_X6_laws_101_45 ⟨w 0 (by decide), ?_⟩⟩))
      rw [a1, c0]
      refine cl_w (ct_rnumber (m := 3) (lo := 1) (hi := 240) (by decide) (by decide) (by decide) (by decide) (fun _ => rfl) (T h1) (B 0).1 (fun M2 r2 f2 h2 e2 => ⟨_, rfl, rn_X6_laws_101_62 ⟨w 1 (by decide), ?_⟩⟩))
      rw [a2, cm 1 (by decide)]
      refine cl_w (ct_rnumber (m := 2) (lo := 0) (hi := 99) (by decide) (by decide) (by decide) (by decide) (fun _ => rfl) (T h2) (B 1).1 (fun M3 r3 f3 h3 e3 => ⟨_, rfl, rn_X6_laws_101_78 ⟨w 2 (by decide), ?_⟩⟩))
      rw [a3, cm 2 (by decide)]
      refine cl_w (ct_rnumber (m := 2) (lo := 0) (hi := 99) (by decide) (by decide) (by decide) (by decide) (fun _ => rfl) (T h3) (B 2).1 (fun M4 r4 f4 h4 e4 => ⟨_, rfl, rn_X6_laws_101_94 ⟨w 3 (by decide), ?_⟩⟩))
      rw [a4, cm 3 (by decide)]
      refine cl_w (ct_rnumber (m := 3) (lo := 0) (hi := 359) (by decide) (by decide) (by decide) (by decide) (fun _ => rfl) (T h4) (B 3).1 (fun M5 r5 f5 h5 e5 => ⟨_, rfl, rn_X6_laws_101_111 ⟨w 4 (by decide), ?_⟩⟩))
      rw [cm 4 (by decide), nI_1]
      have h5 : jtR M5 n tx (jg n tx p 4).2 := h5
      have F : ∀ q, q ≠ 101 → q ≠ 105 → (wi_m M5 105 (5 * c + 4) r5) q = M q := fun q q1 q2 => by rw [wi_m_p _ _ q2, f5.1 q q1, wi_m_p _ _ q2, f4.1 q q1, wi_m_p _ _ q2, f3.1 q q1, wi_m_p _ _ q2, f2.1 q q1, wi_m_p _ _ q2, f1.1 q q1]
      have F1 : ∀ i, i ≠ 7 → i ≠ 8 → (wi_m M5 105 (5 * c + 4) r5) 101 i = M 101 i := fun i q1 q2 => by rw [wi_m_p _ _ (by decide), f5.2 i q1 q2, wi_m_p _ _ (by decide), f4.2 i q1 q2, wi_m_p _ _ (by decide), f3.2 i q1 q2, wi_m_p _ _ (by decide), f2.2 i q1 q2, wi_m_p _ _ (by decide), f1.2 i q1 q2]
      have L5 : ∀ j, (wi_m M5 105 (5 * c + 4) r5) 105 j = if j = 5 * c + 4 then r5 else if j = 5 * c + 3 then r4 else if j = 5 * c + 2 then r3 else if j = 5 * c + 1 then r2 else if j = 5 * c then r1 else M 105 j := by
        intro j
        rw [wi_m_f, f5.1 105 (by decide), wi_m_f, f4.1 105 (by decide), wi_m_f, f3.1 105 (by decide), wi_m_f, f2.1 105 (by decide), wi_m_f, f1.1 105 (by decide)]
      by_cases hg : (jg n tx p 4).2.2 = none
      · rw [if_pos hg] at hQ
        obtain ⟨g0, g1, g2, g3, g4⟩ := (B 4).2 hg
        refine ih (jg n tx p 4).2 (jgs n tx p s 4) (c + 1) _ (fun _ => ?_) (by omega) (T h5) (B 4).1 (fun M6 f6 k6 h6 v6 j6 => hQ M6 (fun q q1 q2 => by rw [f6 q q1 q2, F q q1 q2]) (fun i i1 i2 => by rw [k6 i i1 i2, F1 i i1 i2]) h6 (fun i hi => ?_) (fun _ _ _ => ⟨fun w hw => ?_, j6⟩))
        · have := hp hk.1
          omega
        · rw [v6 i (by omega), L5 i, if_neg (by omega), if_neg (by omega), if_neg (by omega), if_neg (by omega), if_neg (by omega)]
        · rw [v6 _ (by omega), L5]
          have E1 : r1 = nI (jg n tx p 0).1 := e1 g1
          have E2 : r2 = nI (jg n tx p 1).1 := e2 (g4 1 (by decide)).1
          have E3 : r3 = nI (jg n tx p 2).1 := e3 (g4 2 (by decide)).1
          have E4 : r4 = nI (jg n tx p 3).1 := e4 (g4 3 (by decide)).1
          have E5 : r5 = nI (jg n tx p 4).1 := e5 hg
          have : w = 0 ∨ w = 1 ∨ w = 2 ∨ w = 3 ∨ w = 4 := by omega
          rcases this with rfl | rfl | rfl | rfl | rfl
          · rw [if_neg (by omega), if_neg (by omega), if_neg (by omega), if_neg (by omega), if_pos (by omega), E1]
          · rw [if_neg (by omega), if_neg (by omega), if_neg (by omega), if_pos rfl, E2]
          · rw [if_neg (by omega), if_neg (by omega), if_pos rfl, E3]
          · rw [if_neg (by omega), if_pos rfl, E4]
          · rw [if_pos rfl, E5]
      · rw [if_neg hg] at hQ
        have fin := hQ _ F F1 (T h5) (fun i hi => by rw [L5 i, if_neg (by omega), if_neg (by omega), if_neg (by omega), if_neg (by omega), if_neg (by omega)]) (fun _ _ e => absurd e hg)
        refine rg_X6_laws_101_11 (cl_i (fun _ h => ct_fine (T h5) (B 4).1 h) (rn_X6_laws_101_15 ⟨fun _ => fin, fun e => ?_⟩))
        cases h : (jg n tx p 4).2.2 with
        | none => exact absurd h hg
        | some e' =>
          rw [h] at e
          exact absurd rfl e
    · rw [if_neg hk] at hQ
      have fin := hQ M (fun _ _ _ => rfl) (fun _ _ _ => rfl) hT (fun _ _ => rfl) (fun h1 h2 => absurd ⟨h1, h2⟩ hk)
      refine ⟨fun _ => fin, fun e => ⟨fun _ => fin, fun h => absurd ?_ h⟩⟩
      cases h : p.2 with
      | none =>
        rw [hT.1, hT.2.1]
        exact nI_le (Nat.le_of_not_lt (fun q => hk ⟨h, q⟩)) (by omega)
      | some e' =>
        rw [h] at e
        exact absurd rfl e
/-- the reference writes the laws -/
theorem wl_lw {t : Nat} (ht : t ≤ 80) : ∀ f p s c M, (jt_lw n tx f p s c).1.2 = none → (jt_lw n tx f p s c).2.2 = t → jlr n tx f p c (M 105) → jtb n tx p → jw s 20 → jR (M 102) s → (∀ M', (∀ q, q ≠ 102 → M' q = M q) → jR (M' 102) (jt_lw n tx f p s c).2.1 → Q (some (some (.int (nI t)))) (jm_s M' L G)) → am_T X 145 138 [some (.ref 101), some (.int (nI t)), some (.int (nI c)), none] [] (jm_s M L G) (0, 0) Q := by
  intro f
  induction f with
  | zero =>
    intro p s c M h1 h2 h3 hb hw hR hQ
    have e : c = t := h2
    subst e
    exact rn_X6_laws_101_138 ⟨fun _ => hQ M (fun _ _ => rfl) hR, fun e => absurd (Int32.le_refl _) e⟩
  | succ f ih =>
    intro p s c M h1 h2 h3 hb hw hR hQ
    have W := jt_lw_w (f + 1) p s c hb hw
    unfold jt_lw at h1 h2 hQ
    by_cases hk : p.2 = none ∧ p.1 < n
    · rw [if_pos hk] at h1 h2 hQ
      by_cases hg : (jg n tx p 4).2.2 = none
      · rw [if_pos hg] at h1 h2 hQ
        obtain ⟨v, j3⟩ := h3 hk.1 hk.2 hg
        obtain ⟨B1, B2⟩ := jg_b hb 4
        obtain ⟨g0, g1, g2, g3, g4⟩ := B2 hg
        have W2 := (jt_lw_w f (jg n tx p 4).2 (jgs n tx p s 4) (c + 1) B1 (jgs_w hb hw 4 hg)).2.2.1
        have hct : c < t := by omega
        refine rn_X6_laws_101_138 ⟨fun e => absurd e (nI_ge hct (by omega)), fun _ => ?_⟩
        have m5 : (5 : Int32) * nI c = nI (5 * c) := pk_mul 5 c
        have l : ∀ d k M1, k + d = 4 → (∀ q, q ≠ 102 → M1 q = M q) → jR (M1 102) (jgs n tx p s k) → am_T X 145 145 [some (.ref 101), some (.int (nI t)), some (.int (nI c)), some (.int (nI k))] [] (jm_s M1 L G) (0, 0) Q := by
          intro d
          induction d with
          | zero =>
            intro k M1 hk4 f1 r1
            have e4 : k = 4 := by omega
            subst e4
            refine rn_X6_laws_101_145 ⟨fun _ => ?_, fun e => absurd (nI_le (Nat.le_refl 4) (by decide)) e⟩
            rw [nI_1 c]
            exact ih (jg n tx p 4).2 (jgs n tx p s 4) (c + 1) M1 h1 h2 (by rw [f1 105 (by decide)]; exact j3) B1 (jgs_w hb hw 4 hg) r1 (fun M2 f2 r2 => hQ M2 (fun q hq => by rw [f2 q hq, f1 q hq]) r2)
          | succ d ihd =>
            intro k M1 hk4 f1 r1
            have hk4 : k < 4 := by omega
            refine rn_X6_laws_101_145 ⟨fun e => absurd e (nI_ge hk4 (by decide)), fun _ => ?_⟩
            rw [m5, nI_clamp (show 5 * c < 2147483648 by omega), f1 105 (by decide), show M 105 (5 * c) = nI (jg n tx p 0).1 from v 0 (by decide), show ((221 : Int32) + 4 * nI (jg n tx p 0).1) + nI k = nI (221 + (4 * (jg n tx p 0).1 + k)) by rw [show (4 : Int32) * nI (jg n tx p 0).1 = nI (4 * (jg n tx p 0).1) from pk_mul 4 _, show (221 : Int32) + nI (4 * (jg n tx p 0).1) = nI (221 + 4 * (jg n tx p 0).1) from nI_add 221 _, nI_add, Nat.add_assoc], show nI (5 * c) + 1 + nI k = nI (5 * c + (k + 1)) by rw [nI_1, nI_add]; congr 1; omega, nI_clamp (show 221 + (4 * (jg n tx p 0).1 + k) < 2147483648 by omega), nI_clamp (show 5 * c + (k + 1) < 2147483648 by omega), v (k + 1) (by omega), nI_1 k]
            refine ⟨vp_in_nI (by omega) (by decide), vp_in_nI (by omega) (by decide), vp_in_nI (by omega) (by decide), ihd (k + 1) _ (by omega) (fun q hq => by rw [wi_m_p _ _ hq, f1 q hq]) ?_⟩
            rw [wi_m_f]
            exact jR_law r1 (by rw [jgs_n]; exact Nat.le_trans hw.1 (by decide)) (by omega)
        exact l 4 0 M rfl (fun _ _ => rfl) hR
      · rw [if_neg hg] at h1
        exact absurd h1 hg
    · rw [if_neg hk] at h1 h2 hQ
      have e : c = t := h2
      subst e
      exact rn_X6_laws_101_138 ⟨fun _ => hQ M (fun _ _ => rfl) hR, fun e => absurd (Int32.le_refl _) e⟩
theorem rr_laws (hA : jAw a) (hR : jRR M L a) (q0 : ∀ e, (jt_lw (ja_tn a) (ja_tx a) 80 (0, none) (ja_s a) 0).1.2 = some e → ∀ M', (∀ q, q ≠ 101 → q ≠ 105 → M' q = M q) → (∀ i, i ≠ 2 → i ≠ 5 → i ≠ 6 → i ≠ 7 → i ≠ 8 → M' 101 i = M 101 i) → M' 101 2 = 0 → Q (some (some (.int (-1 - nI e)))) (jm_s M' L G)) (q1 : (jt_lw (ja_tn a) (ja_tx a) 80 (0, none) (ja_s a) 0).1.2 = none → ∀ M', (∀ q, q < 101 → M' q = M q) → jRR M' L (ja_up (ja_t a 0 (ja_tx a)) (jt_lw (ja_tn a) (ja_tx a) 80 (0, none) (ja_s a) 0).2.1) → Q (some (some (.int (nI (jt_lw (ja_tn a) (ja_tx a) 80 (0, none) (ja_s a) 0).2.2)))) (jm_s M' L G)) : am_T X 145 0 [some (.ref 101), none, none, none] [] (jm_s M L G) (0, 0) Q := by
  have hb0 : jtb (ja_tn a) (ja_tx a) (0, none) := ⟨Nat.zero_le _, hA.2.2.2.1.1, hA.2.2.2.1.2, fun e he => absurd he (by simp)⟩
  obtain ⟨w1, w2, w3, w4, w5⟩ := jt_lw_w 80 (0, none) (ja_s a) 0 hb0 hA.1
  have w5 := w5 (by show 80 ≤ 80 + 0; omega)
  refine rg_X6_laws_101_0 (cl_v (ct_begin hR (fun M1 f1 g1 z1 t1 => ⟨rfl, rg_X6_laws_101_9 ?_⟩)))
  refine rl_lw (n := ja_tn a) (tx := ja_tx a) 80 (0, none) (ja_s a) 0 M1 (fun _ => by show 80 ≤ 80 + 0; omega) (by omega) t1 hb0 (fun M2 f2 g2 t2 _ v2 => ?_)
  have WL := fun ht M Q h1 h3 hR hQ => wl_lw (X := X) (L := L) (G := G) (Q := Q) (n := ja_tn a) (tx := ja_tx a) (t := (jt_lw (ja_tn a) (ja_tx a) 80 (0, none) (ja_s a) 0).2.2) ht 80 (0, none) (ja_s a) 0 M h1 rfl h3 hb0 hA.1 hR hQ
  generalize jt_lw (ja_tn a) (ja_tx a) 80 (0, none) (ja_s a) 0 = R at *
  refine cl_w (ct_wasRight t2 w1 (fun M3 f3 t3 => ⟨_, rfl, rn_X6_laws_101_122 ?_⟩))
  have eR : (if R.1.1 < ja_tn a then jq_f R.1 R.1.1 else R.1) = R.1 := by
    by_cases h : R.1.1 < ja_tn a
    · rw [if_pos h]
      unfold jq_f
      cases hp : R.1.2 with
      | none => exact absurd h (by have := w5 hp; omega)
      | some e => rfl
    · rw [if_neg h]
  rw [eR] at t3 ⊢
  have F : ∀ q, q ≠ 101 → q ≠ 105 → M3 q = M q := fun q a1 a2 => by rw [f3.1 q a1, f2 q a1 a2, f1 q a1]
  have F1 : ∀ i, i ≠ 2 → i ≠ 5 → i ≠ 6 → i ≠ 7 → i ≠ 8 → M3 101 i = M 101 i := fun i a1 a2 a3 a4 a5 => by rw [f3.2 i a4 a5, g2 i a4 a5, g1 i a1 a2 a3 a4 a5]
  have F2 : M3 101 2 = 0 := by rw [f3.2 2 (by decide) (by decide), g2 2 (by decide) (by decide), z1]
  cases hp : R.1.2 with
  | some e =>
    refine ⟨fun _ => ?_, fun e => absurd rfl e⟩
    rw [t3.2.2.1, hp]
    exact q0 e hp M3 F F1 F2
  | none =>
    refine ⟨fun e => absurd e (by decide), fun _ => ?_⟩
    have hR3 : jRR M3 L (ja_t a 0 (ja_tx a)) := jRR_te hR F F1 F2
    refine cl_v (ct_changeT (a := ja_t a 0 (ja_tx a)) (jAw_t hA (by decide) (fun i hi => absurd hi (Nat.not_lt_zero i))) hR3 (fun M4 f4 hR4 => ⟨rfl, rg_X6_laws_101_136 ?_⟩))
    refine WL (by omega) M4 Q hp ?_ hR4.1.1 (fun M5 f5 h5 => q1 hp M5 (fun q hq => ?_) (jRR_st hR4 f5 h5))
    · rw [f4 105 (by decide) (by decide) (by decide), f3.1 105 (by decide)]
      exact v2
    · rw [f5 q (by omega), f4 q (by omega) (by omega) (by omega), F q (by omega) (by omega)]
theorem pp_laws (hA : jAw a) (hC : jC M L G a) (hR : jRR M L a) : jpp X (jm_s M L G) 59 [some (.ref 0), none, none, none, none, none] 145 [some (.ref 101), none, none, none] :=
  pp_tx (p := (jt_lw (ja_tn a) (ja_tx a) 80 (0, none) (ja_s a) 0).1) (tx := ja_tx a) (k := (jt_lw (ja_tn a) (ja_tx a) 80 (0, none) (ja_s a) 0).2.2) (s' := (jt_lw (ja_tn a) (ja_tx a) 80 (0, none) (ja_s a) 0).2.1) hA hC hR (fun _ => (jt_lw_w 80 (0, none) (ja_s a) 0 ⟨Nat.zero_le _, hA.2.2.2.1.1, hA.2.2.2.1.2, fun e he => absurd he (by simp)⟩ hA.1).2.1) (fun Q q0 q1 => cc_laws hA hC q0 q1) (fun M1 G1 hR1 Q q0 q1 => rr_laws hA hR1 q0 q1)
end Laws
