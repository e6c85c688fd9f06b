/-! ===== a day: the reference reads an act (written by wip/gen/gen_day3.py) ===== -/
def jch (k : Nat) : Nat := if k = 0 then 43 else if k = 1 then 45 else if k = 2 then 109 else if k = 3 then 114 else if k = 4 then 107 else if k = 5 then 108 else 105
def jdn (k : Nat) : Nat := if k = 0 then 5 else if k = 2 ∨ k = 3 then 3 else if k = 6 then 2 else 1
def jdi (n : Nat) (tx : Nat → Nat) (p : Nat × Option Nat) (c : Nat) (A : Nat → Int32) : Prop := A (6 * c) = nI (jch (jd n tx p 0).1) ∧ ∀ w, w < jdn (jd n tx p 0).1 → A (6 * c + 1 + w) = nI (jd n tx p (w + 1)).1
theorem jch_1 {c k : Nat} (h : jl_a c = some k) : c = jch k := by
  unfold jl_a at h
  unfold jch
  grind (splits := 40)
theorem jch_n {c : Nat} (h : jl_a c = none) : c ≠ 43 ∧ c ≠ 45 ∧ c ≠ 109 ∧ c ≠ 114 ∧ c ≠ 107 ∧ c ≠ 108 ∧ c ≠ 105 := by
  unfold jl_a at h
  grind (splits := 40)
section Day3
variable {X : Nat × (Nat → Int32)} {M : Nat → Nat → Int32} {L : Nat → Nat → Int64} {G : Nat → Nat → Option Nat} {Q : am_Q} {n : Nat} {tx : Nat → Nat} {p : Nat × Option Nat} {a : jA} {s : jS}
theorem ct_rreadAct {c : Nat} (hc : c ≤ 79) (hT : jtR M n tx p) (hb : jtb n tx p) (hp : p.2 = none) (hk : p.1 < n) (hQ : ∀ M', (∀ q, q ≠ 101 → q ≠ 105 → M' q = M q) → (∀ i, i ≠ 7 → i ≠ 8 → M' 101 i = M 101 i) → jtR M' n tx (jd n tx p 5).2 → (∀ i, i < 6 * c → M' 105 i = M 105 i) → ((jd n tx p 5).2.2 = none → jdi n tx p c (M' 105)) → Q (some none) (jm_s M' L G)) : am_T X 214 0 [some (.ref 101), some (.int (nI (6 * c))), none, none] [] (jm_s M L G) (0, 0) Q := by
  have B := jd_b hb
  have b1 := hb.1
  have b2 := hb.2.1
  have ht := hb.2.2.1 p.1 hk
  have wi : ∀ w, w < 6 → vp_in (nI (6 * c + w)) 640 := fun w hw => vp_in_nI (by omega) (by decide)
  have cm : ∀ w, w < 6 → (nI (6 * c + w)).toNatClampNeg = 6 * c + w := fun w hw => nI_clamp (by omega)
  have c0 : (nI (6 * c)).toNatClampNeg = 6 * c := nI_clamp (by omega)
  have a1 : nI (6 * c) + 1 = nI (6 * c + 1) := nI_add _ 1
  have a2 : nI (6 * c) + 2 = nI (6 * c + 2) := nI_add _ 2
  have a3 : nI (6 * c) + 3 = nI (6 * c + 3) := nI_add _ 3
  have a4 : nI (6 * c) + (3 + 1) = nI (6 * c + 4) := nI_add _ 4
  have a5 : nI (6 * c) + (3 + 1 + 1) = nI (6 * c + 5) := nI_add _ 5
  have T : ∀ {M : Nat → Nat → Int32} {i v p}, jtR M n tx p → jtR (wi_m M 105 i v) n tx p := fun h => h
  refine rg_X6_readAct_101_0 (cl_i (fun _ h => ct_here hT hb h) (rn_X6_readAct_101_4 ?_))
  rw [if_pos hk]
  cases hj : jl_a (tx p.1) with
  | none =>
    have e0 : (jd n tx p 0).2 = (p.1, some p.1) := by
      show (jq_l jl_a n tx p).2 = _
      unfold jq_l
      rw [hp]
      simp only [if_pos hk, hj]
    have hg : ¬ (jd n tx p 0).2.2 = none := by rw [e0]; simp
    obtain ⟨z1, z2, z3, z4, z5, z6, z7⟩ := jch_n hj
    have ne : ∀ k, k < 256 → tx p.1 ≠ k → ¬ nI (tx p.1) = nI k := fun k hk hne e => hne ((nI_eq_iff (by omega) (by omega)).mp e)
    refine ⟨fun e => absurd e (ne 43 (by decide) z1), fun _ => ⟨fun e => absurd e (ne 45 (by decide) z2), fun _ => ⟨fun e => absurd e (ne 109 (by decide) z3), fun _ => ⟨fun e => absurd e (ne 114 (by decide) z4), fun _ => ⟨fun e => absurd e (ne 107 (by decide) z5), fun _ => ⟨fun e => absurd e (ne 108 (by decide) z6), fun _ => ⟨fun e => absurd e (ne 105 (by decide) z7), fun _ => ?_⟩⟩⟩⟩⟩⟩⟩
    rw [hT.2.1]
    refine cl_v (ct_rfault hT hb (fun M1 f1 h1 => ⟨rfl, rg_X6_readAct_101_55 (hQ M1 (fun q q1 _ => f1.1 q q1) f1.2 ?_ (fun i _ => by rw [f1.1 105 (by decide)]) (fun e => ?_))⟩))
    · rw [jd_x hg 5, e0]
      unfold jq_f at h1
      rw [hp] at h1
      exact h1
    · rw [jd_x hg 5] at e
      exact absurd e hg
  | some k =>
    have e0 : jd n tx p 0 = (k, p.1 + 1, none) := by
      show jq_l jl_a n tx p = _
      unfold jq_l
      rw [hp]
      simp only [if_pos hk, hj]
    have hk7 := (jl_lt _ ht).2.2.1 k hj
    have hch := jch_1 hj
    have hk0 : (jd n tx p 0).1 = k := by rw [e0]
    rw [hch, hT.2.1, nI_1, c0]
    have h1 : jtR (wi_m (wi_m M 101 7 (nI (p.1 + 1))) 105 (6 * c) (nI (jch k))) n tx (jd n tx p 0).2 := by
      rw [e0]
      exact ⟨hT.1, rfl, by show M 101 8 = _; rw [hT.2.2.1, hp], hT.2.2.2⟩
    have F1 : ∀ q, q ≠ 101 → q ≠ 105 → (wi_m (wi_m M 101 7 (nI (p.1 + 1))) 105 (6 * c) (nI (jch k))) q = M q := fun q q1 q2 => by rw [wi_m_p _ _ q2, wi_m_p _ _ q1]
    have E1 : ∀ i, i ≠ 7 → i ≠ 8 → (wi_m (wi_m M 101 7 (nI (p.1 + 1))) 105 (6 * c) (nI (jch k))) 101 i = M 101 i := fun i i1 _ => by rw [wi_m_p _ _ (by decide), wi_m_eq, if_pos rfl, if_neg i1]
    have A1 : ∀ j, (wi_m (wi_m M 101 7 (nI (p.1 + 1))) 105 (6 * c) (nI (jch k))) 105 j = if j = 6 * c then nI (jch k) else M 105 j := fun j => by rw [wi_m_f, wi_m_p _ _ (by decide)]
    have kk : k = 0 ∨ k = 1 ∨ k = 2 ∨ k = 3 ∨ k = 4 ∨ k = 5 ∨ k = 6 := by omega
    rcases kk with rfl | rfl | rfl | rfl | rfl | rfl | rfl
    · generalize hM : (wi_m (wi_m M 101 7 (nI (p.1 + 1))) 105 (6 * c) (nI (jch 0))) = M1 at h1 F1 E1 A1 ⊢
      have d1 : jd n tx p 1 = jq_l jl_c n tx (jd n tx p 0).2 := by
        show jd_r (jq_l jl_a n tx p).1 0 n tx (jd n tx p 0).2 = _
        rw [show (jq_l jl_a n tx p).1 = 0 from hk0]
        rfl
      have d2 : jd n tx p 2 = jq_l jl_k n tx (jd n tx p 1).2 := by
        show jd_r (jq_l jl_a n tx p).1 1 n tx (jd n tx p 1).2 = _
        rw [show (jq_l jl_a n tx p).1 = 0 from hk0]
        rfl
      have d3 : jd n tx p 3 = jq_d 3 n tx (jd n tx p 2).2 := by
        show jd_r (jq_l jl_a n tx p).1 2 n tx (jd n tx p 2).2 = _
        rw [show (jq_l jl_a n tx p).1 = 0 from hk0]
        rfl
      have d4 : jd n tx p 4 = jq_d 3 n tx (jd n tx p 3).2 := by
        show jd_r (jq_l jl_a n tx p).1 3 n tx (jd n tx p 3).2 = _
        rw [show (jq_l jl_a n tx p).1 = 0 from hk0]
        rfl
      have d5 : jd n tx p 5 = jq_d 3 n tx (jd n tx p 4).2 := by
        show jd_r (jq_l jl_a n tx p).1 4 n tx (jd n tx p 4).2 = _
        rw [show (jq_l jl_a n tx p).1 = 0 from hk0]
        rfl
      have E5 : (jd n tx p 5).2 = (jd n tx p 5).2 := rfl
      refine ⟨fun _ => ⟨vp_in_nI (by omega) (by decide), ?_⟩, fun e => absurd rfl e⟩
      rw [a1]
      refine cl_w (ct_oneOf (f := 97) (m := 5) (by decide) (by decide) h1 (B 0).1 (fun M2 r2 f2 h2 e2 => ⟨_, rfl, rn_X6_readAct_101_122 ⟨wi 1 (by decide), ?_⟩⟩))
      rw [cm 1 (by decide)]
      rw [jl_rc] at h2 e2
      rw [← d1] at h2 e2
      rw [a2]
      refine cl_w (ct_readKind (T h2) (B 1).1 (fun M3 r3 f3 h3 e3 => ⟨_, rfl, rn_X6_readAct_101_134 ⟨wi 2 (by decide), ?_⟩⟩))
      rw [cm 2 (by decide)]
      rw [← d2] at h3 e3
      refine rn_X6_readAct_101_137 ⟨fun e => absurd e (by decide), fun _ => ?_⟩
      rw [a3]
      refine cl_w (ct_rdigits (m := 3) (by decide) (T h3) (B 2).1 (fun M4 r4 f4 h4 e4 => ⟨_, rfl, rn_X6_readAct_101_155 ⟨wi 3 (by decide), ?_⟩⟩))
      rw [cm 3 (by decide)]
      rw [← d3] at h4 e4
      refine rn_X6_readAct_101_137 ⟨fun e => absurd e (by decide), fun _ => ?_⟩
      rw [a4]
      refine cl_w (ct_rdigits (m := 3) (by decide) (T h4) (B 3).1 (fun M5 r5 f5 h5 e5 => ⟨_, rfl, rn_X6_readAct_101_155 ⟨wi 4 (by decide), ?_⟩⟩))
      rw [cm 4 (by decide)]
      rw [← d4] at h5 e5
      refine rn_X6_readAct_101_137 ⟨fun e => absurd e (by decide), fun _ => ?_⟩
      rw [a5]
      refine cl_w (ct_rdigits (m := 3) (by decide) (T h5) (B 4).1 (fun M6 r6 f6 h6 e6 => ⟨_, rfl, rn_X6_readAct_101_155 ⟨wi 5 (by decide), ?_⟩⟩))
      rw [cm 5 (by decide)]
      rw [← d5] at h6 e6
      refine rn_X6_readAct_101_137 ⟨fun _ => ?_, fun e => absurd (by decide) e⟩
      have L5 : ∀ j, (wi_m M6 105 (6 * c + 5) r6) 105 j = if j = 6 * c + 5 then r6 else if j = 6 * c + 4 then r5 else if j = 6 * c + 3 then r4 else if j = 6 * c + 2 then r3 else if j = 6 * c + 1 then r2 else if j = 6 * c then nI (jch 0) else M 105 j := by
        intro j
        rw [wi_m_f, f6.1 105 (by decide), wi_m_f, f5.1 105 (by decide), wi_m_f, f4.1 105 (by decide), wi_m_f, f3.1 105 (by decide), wi_m_f, f2.1 105 (by decide)]
        simp only [A1]
      refine hQ _ (fun q q1 q2 => by rw [wi_m_p _ _ q2, f6.1 q q1, wi_m_p _ _ q2, f5.1 q q1, wi_m_p _ _ q2, f4.1 q q1, wi_m_p _ _ q2, f3.1 q q1, wi_m_p _ _ q2, f2.1 q q1, F1 q q1 q2]) (fun i i1 i2 => by rw [wi_m_p _ _ (by decide), f6.2 i i1 i2, wi_m_p _ _ (by decide), f5.2 i i1 i2, wi_m_p _ _ (by decide), f4.2 i i1 i2, wi_m_p _ _ (by decide), f3.2 i i1 i2, wi_m_p _ _ (by decide), f2.2 i i1 i2, E1 i i1 i2]) (by rw [E5]; exact T h6) (fun i hi => ?_) (fun hg => ?_)
      · rw [L5 i, if_neg (by omega), if_neg (by omega), if_neg (by omega), if_neg (by omega), if_neg (by omega), if_neg (by omega)]
      · have g5 := ((B 5).2 hg).2.2.2
        refine ⟨?_, fun w hw => ?_⟩
        · rw [L5, hk0, if_neg (by omega), if_neg (by omega), if_neg (by omega), if_neg (by omega), if_neg (by omega), if_pos rfl]
        · rw [hk0] at hw
          have hw : w < 5 := hw
          have ww : w = 0 ∨ w = 1 ∨ w = 2 ∨ w = 3 ∨ w = 4 := by omega
          rcases ww with rfl | rfl | rfl | rfl | rfl
          · rw [L5, if_neg (by omega), if_neg (by omega), if_neg (by omega), if_neg (by omega), if_pos (by omega), e2 (g5 1 (by decide))]
          · rw [L5, if_neg (by omega), if_neg (by omega), if_neg (by omega), if_pos (by omega), e3 (g5 2 (by decide))]
          · rw [L5, if_neg (by omega), if_neg (by omega), if_pos (by omega), e4 (g5 3 (by decide))]
          · rw [L5, if_neg (by omega), if_pos (by omega), e5 (g5 4 (by decide))]
          · rw [L5, if_pos (by omega), e6 (g5 5 (by decide))]
    · generalize hM : (wi_m (wi_m M 101 7 (nI (p.1 + 1))) 105 (6 * c) (nI (jch 1))) = M1 at h1 F1 E1 A1 ⊢
      have d1 : jd n tx p 1 = jq_d 2 n tx (jd n tx p 0).2 := by
        show jd_r (jq_l jl_a n tx p).1 0 n tx (jd n tx p 0).2 = _
        rw [show (jq_l jl_a n tx p).1 = 1 from hk0]
        rfl
      have d2 : jd n tx p 2 = (0, (jd n tx p 1).2) := by
        show jd_r (jq_l jl_a n tx p).1 1 n tx (jd n tx p 1).2 = _
        rw [show (jq_l jl_a n tx p).1 = 1 from hk0]
        rfl
      have d3 : jd n tx p 3 = (0, (jd n tx p 2).2) := by
        show jd_r (jq_l jl_a n tx p).1 2 n tx (jd n tx p 2).2 = _
        rw [show (jq_l jl_a n tx p).1 = 1 from hk0]
        rfl
      have d4 : jd n tx p 4 = (0, (jd n tx p 3).2) := by
        show jd_r (jq_l jl_a n tx p).1 3 n tx (jd n tx p 3).2 = _
        rw [show (jq_l jl_a n tx p).1 = 1 from hk0]
        rfl
      have d5 : jd n tx p 5 = (0, (jd n tx p 4).2) := by
        show jd_r (jq_l jl_a n tx p).1 4 n tx (jd n tx p 4).2 = _
        rw [show (jq_l jl_a n tx p).1 = 1 from hk0]
        rfl
      have E5 : (jd n tx p 5).2 = (jd n tx p 1).2 := by rw [d5, d4, d3, d2]
      refine ⟨fun e => absurd e (by decide), fun _ => ⟨fun _ => ⟨vp_in_nI (by omega) (by decide), fun e => absurd e (by decide), fun _ => ⟨fun e => absurd e (by decide), fun _ => ?_⟩⟩, fun e => absurd rfl e⟩⟩
      rw [a1]
      refine cl_w (ct_rdigits (m := 2) (by decide) h1 (B 0).1 (fun M2 r2 f2 h2 e2 => ⟨_, rfl, rn_X6_readAct_101_259 ⟨wi 1 (by decide), ?_⟩⟩))
      rw [cm 1 (by decide)]
      rw [← d1] at h2 e2
      refine ⟨fun e => absurd e (by decide), fun _ => ?_⟩
      have L5 : ∀ j, (wi_m M2 105 (6 * c + 1) r2) 105 j = if j = 6 * c + 1 then r2 else if j = 6 * c then nI (jch 1) else M 105 j := by
        intro j
        rw [wi_m_f, f2.1 105 (by decide)]
        simp only [A1]
      refine hQ _ (fun q q1 q2 => by rw [wi_m_p _ _ q2, f2.1 q q1, F1 q q1 q2]) (fun i i1 i2 => by rw [wi_m_p _ _ (by decide), f2.2 i i1 i2, E1 i i1 i2]) (by rw [E5]; exact T h2) (fun i hi => ?_) (fun hg => ?_)
      · rw [L5 i, if_neg (by omega), if_neg (by omega)]
      · have g5 := ((B 5).2 hg).2.2.2
        refine ⟨?_, fun w hw => ?_⟩
        · rw [L5, hk0, if_neg (by omega), if_pos rfl]
        · rw [hk0] at hw
          have hw : w < 1 := hw
          have ww : w = 0 := by omega
          subst ww
          rw [L5, if_pos (by omega), e2 (g5 1 (by decide))]
    · generalize hM : (wi_m (wi_m M 101 7 (nI (p.1 + 1))) 105 (6 * c) (nI (jch 2))) = M1 at h1 F1 E1 A1 ⊢
      have d1 : jd n tx p 1 = jq_d 2 n tx (jd n tx p 0).2 := by
        show jd_r (jq_l jl_a n tx p).1 0 n tx (jd n tx p 0).2 = _
        rw [show (jq_l jl_a n tx p).1 = 2 from hk0]
        rfl
      have d2 : jd n tx p 2 = jq_d 3 n tx (jd n tx p 1).2 := by
        show jd_r (jq_l jl_a n tx p).1 1 n tx (jd n tx p 1).2 = _
        rw [show (jq_l jl_a n tx p).1 = 2 from hk0]
        rfl
      have d3 : jd n tx p 3 = jq_d 3 n tx (jd n tx p 2).2 := by
        show jd_r (jq_l jl_a n tx p).1 2 n tx (jd n tx p 2).2 = _
        rw [show (jq_l jl_a n tx p).1 = 2 from hk0]
        rfl
      have d4 : jd n tx p 4 = (0, (jd n tx p 3).2) := by
        show jd_r (jq_l jl_a n tx p).1 3 n tx (jd n tx p 3).2 = _
        rw [show (jq_l jl_a n tx p).1 = 2 from hk0]
        rfl
      have d5 : jd n tx p 5 = (0, (jd n tx p 4).2) := by
        show jd_r (jq_l jl_a n tx p).1 4 n tx (jd n tx p 4).2 = _
        rw [show (jq_l jl_a n tx p).1 = 2 from hk0]
        rfl
      have E5 : (jd n tx p 5).2 = (jd n tx p 3).2 := by rw [d5, d4]
      refine ⟨fun e => absurd e (by decide), fun _ => ⟨fun e => absurd e (by decide), fun _ => ⟨fun _ => ⟨vp_in_nI (by omega) (by decide), ?_⟩, fun e => absurd rfl e⟩⟩⟩
      rw [a1]
      refine cl_w (ct_rdigits (m := 2) (by decide) h1 (B 0).1 (fun M2 r2 f2 h2 e2 => ⟨_, rfl, rn_X6_readAct_101_175 ⟨wi 1 (by decide), ?_⟩⟩))
      rw [cm 1 (by decide)]
      rw [← d1] at h2 e2
      rw [a2]
      refine cl_w (ct_rdigits (m := 3) (by decide) (T h2) (B 1).1 (fun M3 r3 f3 h3 e3 => ⟨_, rfl, rn_X6_readAct_101_188 ⟨wi 2 (by decide), ?_⟩⟩))
      rw [cm 2 (by decide)]
      rw [← d2] at h3 e3
      rw [a3]
      refine cl_w (ct_rdigits (m := 3) (by decide) (T h3) (B 2).1 (fun M4 r4 f4 h4 e4 => ⟨_, rfl, rn_X6_readAct_101_201 ⟨wi 3 (by decide), ?_⟩⟩))
      rw [cm 3 (by decide)]
      rw [← d3] at h4 e4
      have L5 : ∀ j, (wi_m M4 105 (6 * c + 3) r4) 105 j = if j = 6 * c + 3 then r4 else if j = 6 * c + 2 then r3 else if j = 6 * c + 1 then r2 else if j = 6 * c then nI (jch 2) else M 105 j := by
        intro j
        rw [wi_m_f, f4.1 105 (by decide), wi_m_f, f3.1 105 (by decide), wi_m_f, f2.1 105 (by decide)]
        simp only [A1]
      refine hQ _ (fun q q1 q2 => by rw [wi_m_p _ _ q2, f4.1 q q1, wi_m_p _ _ q2, f3.1 q q1, wi_m_p _ _ q2, f2.1 q q1, F1 q q1 q2]) (fun i i1 i2 => by rw [wi_m_p _ _ (by decide), f4.2 i i1 i2, wi_m_p _ _ (by decide), f3.2 i i1 i2, wi_m_p _ _ (by decide), f2.2 i i1 i2, E1 i i1 i2]) (by rw [E5]; exact T h4) (fun i hi => ?_) (fun hg => ?_)
      · rw [L5 i, if_neg (by omega), if_neg (by omega), if_neg (by omega), if_neg (by omega)]
      · have g5 := ((B 5).2 hg).2.2.2
        refine ⟨?_, fun w hw => ?_⟩
        · rw [L5, hk0, if_neg (by omega), if_neg (by omega), if_neg (by omega), if_pos rfl]
        · rw [hk0] at hw
          have hw : w < 3 := hw
          have ww : w = 0 ∨ w = 1 ∨ w = 2 := by omega
          rcases ww with rfl | rfl | rfl
          · rw [L5, if_neg (by omega), if_neg (by omega), if_pos (by omega), e2 (g5 1 (by decide))]
          · rw [L5, if_neg (by omega), if_pos (by omega), e3 (g5 2 (by decide))]
          · rw [L5, if_pos (by omega), e4 (g5 3 (by decide))]
    · generalize hM : (wi_m (wi_m M 101 7 (nI (p.1 + 1))) 105 (6 * c) (nI (jch 3))) = M1 at h1 F1 E1 A1 ⊢
      have d1 : jd n tx p 1 = jq_l jl_c n tx (jd n tx p 0).2 := by
        show jd_r (jq_l jl_a n tx p).1 0 n tx (jd n tx p 0).2 = _
        rw [show (jq_l jl_a n tx p).1 = 3 from hk0]
        rfl
      have d2 : jd n tx p 2 = jq_l jl_w n tx (jd n tx p 1).2 := by
        show jd_r (jq_l jl_a n tx p).1 1 n tx (jd n tx p 1).2 = _
        rw [show (jq_l jl_a n tx p).1 = 3 from hk0]
        rfl
      have d3 : jd n tx p 3 = jq_d 3 n tx (jd n tx p 2).2 := by
        show jd_r (jq_l jl_a n tx p).1 2 n tx (jd n tx p 2).2 = _
        rw [show (jq_l jl_a n tx p).1 = 3 from hk0]
        rfl
      have d4 : jd n tx p 4 = (0, (jd n tx p 3).2) := by
        show jd_r (jq_l jl_a n tx p).1 3 n tx (jd n tx p 3).2 = _
        rw [show (jq_l jl_a n tx p).1 = 3 from hk0]
        rfl
      have d5 : jd n tx p 5 = (0, (jd n tx p 4).2) := by
        show jd_r (jq_l jl_a n tx p).1 4 n tx (jd n tx p 4).2 = _
        rw [show (jq_l jl_a n tx p).1 = 3 from hk0]
        rfl
      have E5 : (jd n tx p 5).2 = (jd n tx p 3).2 := by rw [d5, d4]
      refine ⟨fun e => absurd e (by decide), fun _ => ⟨fun e => absurd e (by decide), fun _ => ⟨fun e => absurd e (by decide), fun _ => ⟨fun _ => ⟨vp_in_nI (by omega) (by decide), ?_⟩, fun e => absurd rfl e⟩⟩⟩⟩
      rw [a1]
      refine cl_w (ct_oneOf (f := 97) (m := 5) (by decide) (by decide) h1 (B 0).1 (fun M2 r2 f2 h2 e2 => ⟨_, rfl, rn_X6_readAct_101_217 ⟨wi 1 (by decide), ?_⟩⟩))
      rw [cm 1 (by decide)]
      rw [jl_rc] at h2 e2
      rw [← d1] at h2 e2
      rw [a2]
      refine cl_w (ct_oneOf (f := 48) (m := 4) (by decide) (by decide) (T h2) (B 1).1 (fun M3 r3 f3 h3 e3 => ⟨_, rfl, rn_X6_readAct_101_232 ⟨wi 2 (by decide), ?_⟩⟩))
      rw [cm 2 (by decide)]
      rw [jl_rw] at h3 e3
      rw [← d2] at h3 e3
      rw [a3]
      refine cl_w (ct_rdigits (m := 3) (by decide) (T h3) (B 2).1 (fun M4 r4 f4 h4 e4 => ⟨_, rfl, rn_X6_readAct_101_245 ⟨wi 3 (by decide), ?_⟩⟩))
      rw [cm 3 (by decide)]
      rw [← d3] at h4 e4
      have L5 : ∀ j, (wi_m M4 105 (6 * c + 3) r4) 105 j = if j = 6 * c + 3 then r4 else if j = 6 * c + 2 then r3 else if j = 6 * c + 1 then r2 else if j = 6 * c then nI (jch 3) else M 105 j := by
        intro j
        rw [wi_m_f, f4.1 105 (by decide), wi_m_f, f3.1 105 (by decide), wi_m_f, f2.1 105 (by decide)]
        simp only [A1]
      refine hQ _ (fun q q1 q2 => by rw [wi_m_p _ _ q2, f4.1 q q1, wi_m_p _ _ q2, f3.1 q q1, wi_m_p _ _ q2, f2.1 q q1, F1 q q1 q2]) (fun i i1 i2 => by rw [wi_m_p _ _ (by decide), f4.2 i i1 i2, wi_m_p _ _ (by decide), f3.2 i i1 i2, wi_m_p _ _ (by decide), f2.2 i i1 i2, E1 i i1 i2]) (by rw [E5]; exact T h4) (fun i hi => ?_) (fun hg => ?_)
      · rw [L5 i, if_neg (by omega), if_neg (by omega), if_neg (by omega), if_neg (by omega)]
      · have g5 := ((B 5).2 hg).2.2.2
        refine ⟨?_, fun w hw => ?_⟩
        · rw [L5, hk0, if_neg (by omega), if_neg (by omega), if_neg (by omega), if_pos rfl]
        · rw [hk0] at hw
          have hw : w < 3 := hw
          have ww : w = 0 ∨ w = 1 ∨ w = 2 := by omega
          rcases ww with rfl | rfl | rfl
          · rw [L5, if_neg (by omega), if_neg (by omega), if_pos (by omega), e2 (g5 1 (by decide))]
          · rw [L5, if_neg (by omega), if_pos (by omega), e3 (g5 2 (by decide))]
          · rw [L5, if_pos (by omega), e4 (g5 3 (by decide))]
    · generalize hM : (wi_m (wi_m M 101 7 (nI (p.1 + 1))) 105 (6 * c) (nI (jch 4))) = M1 at h1 F1 E1 A1 ⊢
      have d1 : jd n tx p 1 = jq_d 2 n tx (jd n tx p 0).2 := by
        show jd_r (jq_l jl_a n tx p).1 0 n tx (jd n tx p 0).2 = _
        rw [show (jq_l jl_a n tx p).1 = 4 from hk0]
        rfl
      have d2 : jd n tx p 2 = (0, (jd n tx p 1).2) := by
        show jd_r (jq_l jl_a n tx p).1 1 n tx (jd n tx p 1).2 = _
        rw [show (jq_l jl_a n tx p).1 = 4 from hk0]
        rfl
      have d3 : jd n tx p 3 = (0, (jd n tx p 2).2) := by
        show jd_r (jq_l jl_a n tx p).1 2 n tx (jd n tx p 2).2 = _
        rw [show (jq_l jl_a n tx p).1 = 4 from hk0]
        rfl
      have d4 : jd n tx p 4 = (0, (jd n tx p 3).2) := by
        show jd_r (jq_l jl_a n tx p).1 3 n tx (jd n tx p 3).2 = _
        rw [show (jq_l jl_a n tx p).1 = 4 from hk0]
        rfl
      have d5 : jd n tx p 5 = (0, (jd n tx p 4).2) := by
        show jd_r (jq_l jl_a n tx p).1 4 n tx (jd n tx p 4).2 = _
        rw [show (jq_l jl_a n tx p).1 = 4 from hk0]
        rfl
      have E5 : (jd n tx p 5).2 = (jd n tx p 1).2 := by rw [d5, d4, d3, d2]
      refine ⟨fun e => absurd e (by decide), fun _ => ⟨fun e => absurd e (by decide), fun _ => ⟨fun e => absurd e (by decide), fun _ => ⟨fun e => absurd e (by decide), fun _ => ⟨fun _ => ⟨vp_in_nI (by omega) (by decide), ?_⟩, fun e => absurd rfl e⟩⟩⟩⟩⟩
      rw [a1]
      refine cl_w (ct_rdigits (m := 2) (by decide) h1 (B 0).1 (fun M2 r2 f2 h2 e2 => ⟨_, rfl, rn_X6_readAct_101_259 ⟨wi 1 (by decide), ?_⟩⟩))
      rw [cm 1 (by decide)]
      rw [← d1] at h2 e2
      refine ⟨fun e => absurd e (by decide), fun _ => ?_⟩
      have L5 : ∀ j, (wi_m M2 105 (6 * c + 1) r2) 105 j = if j = 6 * c + 1 then r2 else if j = 6 * c then nI (jch 4) else M 105 j := by
        intro j
        rw [wi_m_f, f2.1 105 (by decide)]
        simp only [A1]
      refine hQ _ (fun q q1 q2 => by rw [wi_m_p _ _ q2, f2.1 q q1, F1 q q1 q2]) (fun i i1 i2 => by rw [wi_m_p _ _ (by decide), f2.2 i i1 i2, E1 i i1 i2]) (by rw [E5]; exact T h2) (fun i hi => ?_) (fun hg => ?_)
      · rw [L5 i, if_neg (by omega), if_neg (by omega)]
      · have g5 := ((B 5).2 hg).2.2.2
        refine ⟨?_, fun w hw => ?_⟩
        · rw [L5, hk0, if_neg (by omega), if_pos rfl]
        · rw [hk0] at hw
          have hw : w < 1 := hw
          have ww : w = 0 := by omega
          subst ww
          rw [L5, if_pos (by omega), e2 (g5 1 (by decide))]
    · generalize hM : (wi_m (wi_m M 101 7 (nI (p.1 + 1))) 105 (6 * c) (nI (jch 5))) = M1 at h1 F1 E1 A1 ⊢
      have d1 : jd n tx p 1 = jq_d 2 n tx (jd n tx p 0).2 := by
        show jd_r (jq_l jl_a n tx p).1 0 n tx (jd n tx p 0).2 = _
        rw [show (jq_l jl_a n tx p).1 = 5 from hk0]
        rfl
      have d2 : jd n tx p 2 = (0, (jd n tx p 1).2) := by
        show jd_r (jq_l jl_a n tx p).1 1 n tx (jd n tx p 1).2 = _
        rw [show (jq_l jl_a n tx p).1 = 5 from hk0]
        rfl
      have d3 : jd n tx p 3 = (0, (jd n tx p 2).2) := by
        show jd_r (jq_l jl_a n tx p).1 2 n tx (jd n tx p 2).2 = _
        rw [show (jq_l jl_a n tx p).1 = 5 from hk0]
        rfl
      have d4 : jd n tx p 4 = (0, (jd n tx p 3).2) := by
        show jd_r (jq_l jl_a n tx p).1 3 n tx (jd n tx p 3).2 = _
        rw [show (jq_l jl_a n tx p).1 = 5 from hk0]
        rfl
      have d5 : jd n tx p 5 = (0, (jd n tx p 4).2) := by
        show jd_r (jq_l jl_a n tx p).1 4 n tx (jd n tx p 4).2 = _
        rw [show (jq_l jl_a n tx p).1 = 5 from hk0]
        rfl
      have E5 : (jd n tx p 5).2 = (jd n tx p 1).2 := by rw [d5, d4, d3, d2]
      refine ⟨fun e => absurd e (by decide), fun _ => ⟨fun e => absurd e (by decide), fun _ => ⟨fun e => absurd e (by decide), fun _ => ⟨fun e => absurd e (by decide), fun _ => ⟨fun e => absurd e (by decide), fun _ => ⟨fun _ => ⟨vp_in_nI (by omega) (by decide), ?_⟩, fun e => absurd rfl e⟩⟩⟩⟩⟩⟩
      rw [a1]
      refine cl_w (ct_rdigits (m := 2) (by decide) h1 (B 0).1 (fun M2 r2 f2 h2 e2 => ⟨_, rfl, rn_X6_readAct_101_259 ⟨wi 1 (by decide), ?_⟩⟩))
      rw [cm 1 (by decide)]
      rw [← d1] at h2 e2
      refine ⟨fun e => absurd e (by decide), fun _ => ?_⟩
      have L5 : ∀ j, (wi_m M2 105 (6 * c + 1) r2) 105 j = if j = 6 * c + 1 then r2 else if j = 6 * c then nI (jch 5) else M 105 j := by
        intro j
        rw [wi_m_f, f2.1 105 (by decide)]
        simp only [A1]
      refine hQ _ (fun q q1 q2 => by rw [wi_m_p _ _ q2, f2.1 q q1, F1 q q1 q2]) (fun i i1 i2 => by rw [wi_m_p _ _ (by decide), f2.2 i i1 i2, E1 i i1 i2]) (by rw [E5]; exact T h2) (fun i hi => ?_) (fun hg => ?_)
      · rw [L5 i, if_neg (by omega), if_neg (by omega)]
      · have g5 := ((B 5).2 hg).2.2.2
        refine ⟨?_, fun w hw => ?_⟩
        · rw [L5, hk0, if_neg (by omega), if_pos rfl]
        · rw [hk0] at hw
          have hw : w < 1 := hw
          have ww : w = 0 := by omega
          subst ww
          rw [L5, if_pos (by omega), e2 (g5 1 (by decide))]
    · generalize hM : (wi_m (wi_m M 101 7 (nI (p.1 + 1))) 105 (6 * c) (nI (jch 6))) = M1 at h1 F1 E1 A1 ⊢
      have d1 : jd n tx p 1 = jq_d 2 n tx (jd n tx p 0).2 := by
        show jd_r (jq_l jl_a n tx p).1 0 n tx (jd n tx p 0).2 = _
        rw [show (jq_l jl_a n tx p).1 = 6 from hk0]
        rfl
      have d2 : jd n tx p 2 = jq_d 3 n tx (jd n tx p 1).2 := by
        show jd_r (jq_l jl_a n tx p).1 1 n tx (jd n tx p 1).2 = _
        rw [show (jq_l jl_a n tx p).1 = 6 from hk0]
        rfl
      have d3 : jd n tx p 3 = (0, (jd n tx p 2).2) := by
        show jd_r (jq_l jl_a n tx p).1 2 n tx (jd n tx p 2).2 = _
        rw [show (jq_l jl_a n tx p).1 = 6 from hk0]
        rfl
      have d4 : jd n tx p 4 = (0, (jd n tx p 3).2) := by
        show jd_r (jq_l jl_a n tx p).1 3 n tx (jd n tx p 3).2 = _
        rw [show (jq_l jl_a n tx p).1 = 6 from hk0]
        rfl
      have d5 : jd n tx p 5 = (0, (jd n tx p 4).2) := by
        show jd_r (jq_l jl_a n tx p).1 4 n tx (jd n tx p 4).2 = _
        rw [show (jq_l jl_a n tx p).1 = 6 from hk0]
        rfl
      have E5 : (jd n tx p 5).2 = (jd n tx p 2).2 := by rw [d5, d4, d3]
      refine ⟨fun e => absurd e (by decide), fun _ => ⟨fun e => absurd e (by decide), fun _ => ⟨fun e => absurd e (by decide), fun _ => ⟨fun e => absurd e (by decide), fun _ => ⟨fun e => absurd e (by decide), fun _ => ⟨fun e => absurd e (by decide), fun _ => ⟨fun _ => ⟨vp_in_nI (by omega) (by decide), ?_⟩, fun e => absurd rfl e⟩⟩⟩⟩⟩⟩⟩
      rw [a1]
      refine cl_w (ct_rdigits (m := 2) (by decide) h1 (B 0).1 (fun M2 r2 f2 h2 e2 => ⟨_, rfl, rn_X6_readAct_101_259 ⟨wi 1 (by decide), ?_⟩⟩))
      rw [cm 1 (by decide)]
      rw [← d1] at h2 e2
      refine ⟨fun _ => ?_, fun e => absurd rfl e⟩
      rw [a2]
      refine cl_w (ct_rdigits (m := 3) (by decide) (T h2) (B 1).1 (fun M3 r3 f3 h3 e3 => ⟨_, rfl, rn_X6_readAct_101_278 ⟨wi 2 (by decide), ?_⟩⟩))
      rw [cm 2 (by decide)]
      rw [← d2] at h3 e3
      have L5 : ∀ j, (wi_m M3 105 (6 * c + 2) r3) 105 j = if j = 6 * c + 2 then r3 else if j = 6 * c + 1 then r2 else if j = 6 * c then nI (jch 6) else M 105 j := by
        intro j
        rw [wi_m_f, f3.1 105 (by decide), wi_m_f, f2.1 105 (by decide)]
        simp only [A1]
      refine hQ _ (fun q q1 q2 => by rw [wi_m_p _ _ q2, f3.1 q q1, wi_m_p _ _ q2, f2.1 q q1, F1 q q1 q2]) (fun i i1 i2 => by rw [wi_m_p _ _ (by decide), f3.2 i i1 i2, wi_m_p _ _ (by decide), f2.2 i i1 i2, E1 i i1 i2]) (by rw [E5]; exact T h3) (fun i hi => ?_) (fun hg => ?_)
      · rw [L5 i, if_neg (by omega), if_neg (by omega), if_neg (by omega)]
      · have g5 := ((B 5).2 hg).2.2.2
        refine ⟨?_, fun w hw => ?_⟩
        · rw [L5, hk0, if_neg (by omega), if_neg (by omega), if_pos rfl]
        · rw [hk0] at hw
          have hw : w < 2 := hw
          have ww : w = 0 ∨ w = 1 := by omega
          rcases ww with rfl | rfl
          · rw [L5, if_neg (by omega), if_pos (by omega), e2 (g5 1 (by decide))]
          · rw [L5, if_pos (by omega), e3 (g5 2 (by decide))]
end Day3
