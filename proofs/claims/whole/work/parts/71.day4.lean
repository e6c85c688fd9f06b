/-! ===== a day: the reference acts (written by wip/gen/gen_day4.py) ===== -/
section Day4
variable {X : Nat × (Nat → Int32)} {M : Nat → Nat → Int32} {L : Nat → Nat → Int64} {G : Nat → Nat → Option Nat} {Q : am_Q} {n : Nat} {tx : Nat → Nat} {p : Nat × Option Nat} {a : jA} {s : jS}
theorem ct_act {c : Nat} (hc : c ≤ 79) (hi : jdi n tx p c (M 105)) (hk7 : (jd n tx p 0).1 < 7) (hR : jR (M 102) s) (hw : jw s 20) (q0 : ¬ 0 ≤ (je n tx p s).1 → Q (some (some (.int 0))) (jm_s M L G)) (q1 : 0 ≤ (je n tx p s).1 → ∀ M', (∀ q, q ≠ 102 → M' q = M q) → jR (M' 102) (je n tx p s).2 → Q (some (some (.int 1))) (jm_s M' L G)) : am_T X 215 0 [some (.ref 101), some (.int (nI (6 * c))), none, none, none, none] [] (jm_s M L G) (0, 0) Q := by
  have hn := hw.1
  have wi : ∀ w, w < 6 → vp_in (nI (6 * c + w)) 640 := fun w hw => vp_in_nI (by omega) (by decide)
  have cm : ∀ w, w < 6 → (nI (6 * c + w)).toNatClampNeg = 6 * c + w := fun w hw => nI_clamp (by omega)
  have c0 : (nI (6 * c)).toNatClampNeg = 6 * c := nI_clamp (by omega)
  have a1 : nI (6 * c) + 1 = nI (6 * c + 1) := nI_add _ 1
  have a2 : nI (6 * c) + 2 = nI (6 * c + 2) := nI_add _ 2
  have a3 : nI (6 * c) + 3 = nI (6 * c + 3) := nI_add _ 3
  have a4 : nI (6 * c) + 4 = nI (6 * c + 4) := nI_add _ 4
  have a5 : nI (6 * c) + 5 = nI (6 * c + 5) := nI_add _ 5
  refine rn_X6_act_101_0 ?_
  rw [a1, a2, a3, a4, a5, c0, cm 1 (by decide), cm 2 (by decide), cm 3 (by decide), cm 4 (by decide), cm 5 (by decide)]
  refine ⟨wi 1 (by decide), wi 2 (by decide), wi 3 (by decide), wi 0 (by decide), ?_⟩
  obtain ⟨i0, iw⟩ := hi
  rw [i0]
  unfold je at q0 q1
  have kk : (jd n tx p 0).1 = 0 ∨ (jd n tx p 0).1 = 1 ∨ (jd n tx p 0).1 = 2 ∨ (jd n tx p 0).1 = 3 ∨ (jd n tx p 0).1 = 4 ∨ (jd n tx p 0).1 = 5 ∨ (jd n tx p 0).1 = 6 := by omega
  rcases kk with hk | hk | hk | hk | hk | hk | hk
  · rw [hk]
    rw [hk] at iw
    simp only [hk, if_true] at q0 q1
    refine ⟨fun _ => ⟨wi 4 (by decide), wi 5 (by decide), ?_⟩, fun e => absurd rfl e⟩
    rw [show M 105 (6 * c + 1) = nI (jd n tx p 1).1 from iw 0 (by decide), show M 105 (6 * c + 2) = nI (jd n tx p 2).1 from iw 1 (by decide), show M 105 (6 * c + 3) = nI (jd n tx p 3).1 from iw 2 (by decide), show M 105 (6 * c + 4) = nI (jd n tx p 4).1 from iw 3 (by decide), show M 105 (6 * c + 5) = nI (jd n tx p 5).1 from iw 4 (by decide)]
    refine cl_i (fun _ h => ct_refusesSpan hR hn h) (rn_X6_act_101_108 ?_)
    rw [a4, a5, cm 4 (by decide), cm 5 (by decide), show M 105 (6 * c + 4) = nI (jd n tx p 4).1 from iw 3 (by decide), show M 105 (6 * c + 5) = nI (jd n tx p 5).1 from iw 4 (by decide)]
    unfold jo_bring at q0 q1
    by_cases hv : jvB (nI (jd n tx p 1).1) (nI (jd n tx p 2).1) (nI (jd n tx p 3).1) (nI (jd n tx p 4).1) (nI (jd n tx p 5).1) = true
    · simp only [if_pos hv] at q0 q1 ⊢
      by_cases h20 : 20 ≤ jn s
      · simp only [if_pos h20] at q0 q1 ⊢
        exact ⟨fun e => absurd e (by decide), fun e => q0 e⟩
      · simp only [if_neg h20] at q0 q1 ⊢
        exact ⟨fun _ => ⟨wi 4 (by decide), wi 5 (by decide), cl_v (ct_put hR (by omega) (fun M1 f1 h1 => ⟨rfl, rn_X6_act_101_137 (q1 (nI_pos' (by omega)) M1 f1 h1)⟩))⟩, fun e => absurd (by decide) e⟩
    · simp only [if_neg hv] at q0 q1 ⊢
      exact ⟨fun e => absurd e (by decide), fun e => q0 e⟩
  · rw [hk]
    rw [hk] at iw
    simp only [hk] at q0 q1
    rw [if_neg (by decide), if_pos trivial] at q0 q1
    refine ⟨fun e => absurd e (by decide), fun _ => ⟨fun _ => ?_, fun e => absurd rfl e⟩⟩
    rw [show M 105 (6 * c + 1) = nI (jd n tx p 1).1 from iw 0 (by decide)]
    refine cl_i (fun _ h => ct_isSpanB hR (by omega) h) (rn_X6_act_101_144 ?_)
    unfold jo_drop at q0 q1
    by_cases hv : 0 ≤ nI (jd n tx p 1).1 ∧ nI (jd n tx p 1).1 < nI (jn s)
    · rw [if_pos hv] at q0 q1
      rw [decide_eq_true hv]
      refine ⟨fun e => absurd e (by decide), fun _ => ?_⟩
      obtain ⟨k, hk2, ek⟩ := nI_of (Int32.not_lt.mpr hv.1)
      rw [ek] at hv q1 ⊢
      have hkn := (nI_lt_iff (by omega) (by omega)).mp hv.2
      rw [nI_clamp hk2] at q1
      exact cl_v (ct_rdrop hR (by omega) hkn (fun M1 f1 h1 => ⟨rfl, rn_X6_act_101_154 (q1 (nI_pos' (by omega)) M1 f1 h1)⟩))
    · rw [if_neg hv] at q0 q1
      rw [decide_eq_false hv]
      exact ⟨fun _ => q0 (show ¬ (0 : Int32) ≤ -1 by decide), fun e => absurd rfl e⟩
  · rw [hk]
    rw [hk] at iw
    simp only [hk] at q0 q1
    rw [if_neg (by decide), if_neg (by decide), if_pos trivial] at q0 q1
    refine ⟨fun e => absurd e (by decide), fun _ => ⟨fun e => absurd e (by decide), fun _ => ⟨fun e => absurd e (by decide), fun _ => ⟨fun _ => ?_, fun e => absurd rfl e⟩⟩⟩⟩
    rw [show M 105 (6 * c + 1) = nI (jd n tx p 1).1 from iw 0 (by decide), show M 105 (6 * c + 2) = nI (jd n tx p 2).1 from iw 1 (by decide), show M 105 (6 * c + 3) = nI (jd n tx p 3).1 from iw 2 (by decide)]
    refine cl_i (fun _ h => ct_refusesLast hR (by omega) h) (rn_X6_act_101_164 ?_)
    unfold jo_str at q0 q1
    generalize nI (jd n tx p 1).1 = x1 at *
    generalize nI (jd n tx p 2).1 = x2 at *
    generalize nI (jd n tx p 3).1 = x3 at *
    by_cases hv : (0 ≤ x1 ∧ x1 < nI (jn s)) ∧ (0 ≤ x2 ∧ x2 ≤ x3 ∧ x3 ≤ 359)
    · simp only [if_pos hv] at q0 q1 ⊢
      by_cases hs : jm_of (jsp s) x1.toNatClampNeg 2 = x2 ∧ jm_of (jsp s) x1.toNatClampNeg 3 = x3
      · simp only [if_pos hs] at q0 q1 ⊢
        exact ⟨fun e => absurd e (by decide), fun e => q0 e⟩
      · simp only [if_neg hs] at q0 q1 ⊢
        obtain ⟨k, hk2, rfl⟩ := nI_of (Int32.not_lt.mpr hv.1.1)
        have hkn := (nI_lt_iff (by omega) (by omega)).mp hv.1.2
        obtain ⟨t, ht, rfl⟩ := nI_of2 (n := 359) (M := 359) (by decide) (Int32.not_lt.mpr (Int32.le_trans hv.2.1 hv.2.2.1)) hv.2.2.2
        obtain ⟨f, hf, rfl⟩ := nI_of2 (n := 359) (M := 359) (by decide) (Int32.not_lt.mpr hv.2.1) (Int32.le_trans hv.2.2.1 hv.2.2.2)
        have hft := (nI_le_iff (by omega) (by omega)).mp hv.2.2.1
        rw [nI_clamp hk2] at q1
        refine ⟨fun _ => ?_, fun e => absurd (by decide) e⟩
        rw [show ((1 : Int32) + 5 * nI k) + 2 = nI (1 + (5 * k + 2)) from jr_sp k 2, show ((1 : Int32) + 5 * nI k) + 3 = nI (1 + (5 * k + 3)) from jr_sp k 3, nI_clamp (show 1 + (5 * k + 2) < 2147483648 by omega), nI_clamp (show 1 + (5 * k + 3) < 2147483648 by omega)]
        refine ⟨vp_in_nI (by omega) (by decide), vp_in_nI (by omega) (by decide), q1 ?_ _ (fun q hq => by rw [wi_m_p _ _ hq, wi_m_p _ _ hq]) ?_⟩
        · rw [pk_sub hft, nI_1]
          exact nI_pos' (by omega)
        · rw [wi_m_f, wi_m_f]
          exact jR_str hR (by omega) hkn
    · simp only [if_neg hv] at q0 q1 ⊢
      exact ⟨fun e => absurd e (by decide), fun e => q0 e⟩
  · rw [hk]
    rw [hk] at iw
    simp only [hk] at q0 q1
    rw [if_neg (by decide), if_neg (by decide), if_neg (by decide), if_pos trivial] at q0 q1
    refine ⟨fun e => absurd e (by decide), fun _ => ⟨fun e => absurd e (by decide), fun _ => ⟨fun e => absurd e (by decide), fun _ => ⟨fun e => absurd e (by decide), fun _ => ⟨fun _ => ?_, fun e => absurd rfl e⟩⟩⟩⟩⟩
    rw [show M 105 (6 * c + 1) = nI (jd n tx p 1).1 from iw 0 (by decide), show M 105 (6 * c + 2) = nI (jd n tx p 2).1 from iw 1 (by decide), show M 105 (6 * c + 3) = nI (jd n tx p 3).1 from iw 2 (by decide)]
    refine cl_i (fun _ h => ct_refusesLaw hR h) (rn_X6_act_101_230 ?_)
    unfold jo_law at q0 q1
    generalize nI (jd n tx p 1).1 = x1 at *
    generalize nI (jd n tx p 2).1 = x2 at *
    generalize nI (jd n tx p 3).1 = x3 at *
    by_cases hv : (0 ≤ x1 ∧ x1 ≤ 4) ∧ (0 ≤ x2 ∧ x2 ≤ 3) ∧ (jm_ll x2 ≤ x3 ∧ x3 ≤ jm_lm x2)
    · simp only [if_pos hv] at q0 q1 ⊢
      by_cases hs : jlw s (4 * x1.toNatClampNeg + x2.toNatClampNeg) = x3
      · simp only [if_pos hs] at q0 q1 ⊢
        exact ⟨fun e => absurd e (by decide), fun e => q0 e⟩
      · simp only [if_neg hs] at q0 q1 ⊢
        obtain ⟨cc, hcc, rfl⟩ := nI_of2 (n := 4) (M := 4) (by decide) (Int32.not_lt.mpr hv.1.1) hv.1.2
        obtain ⟨w, hw2, rfl⟩ := nI_of2 (n := 3) (M := 3) (by decide) (Int32.not_lt.mpr hv.2.1.1) hv.2.1.2
        rw [nI_clamp (show cc < 2147483648 by omega), nI_clamp (show w < 2147483648 by omega)] at q1
        obtain ⟨k, hk2, ek⟩ := hw.2.2.2.1 (4 * cc + w) (by omega)
        refine ⟨fun _ => ?_, fun e => absurd (by decide) e⟩
        rw [jr_law cc w, nI_clamp (show 221 + (4 * cc + w) < 2147483648 by omega)]
        refine ⟨vp_in_nI (by omega) (by decide), q1 ?_ _ (fun q hq => by rw [wi_m_p _ _ hq]) ?_⟩
        · rw [ek]
          exact nI_pos' (by omega)
        · rw [wi_m_f]
          exact jR_law hR (by omega) (by omega)
    · simp only [if_neg hv] at q0 q1 ⊢
      exact ⟨fun e => absurd e (by decide), fun e => q0 e⟩
  · rw [hk]
    rw [hk] at iw
    simp only [hk] at q0 q1
    rw [if_neg (by decide), if_neg (by decide), if_neg (by decide), if_neg (by decide), if_pos trivial] at q0 q1
    refine ⟨fun e => absurd e (by decide), fun _ => ⟨fun e => absurd e (by decide), fun _ => ⟨fun e => absurd e (by decide), fun _ => ⟨fun e => absurd e (by decide), fun _ => ⟨fun e => absurd e (by decide), fun _ => ⟨fun _ => ?_, fun e => absurd rfl e⟩⟩⟩⟩⟩⟩
    rw [show M 105 (6 * c + 1) = nI (jd n tx p 1).1 from iw 0 (by decide)]
    refine cl_i (fun _ h => ct_refusesSet hR h) (rn_X6_act_101_278 ?_)
    rw [jo_set_eq, if_pos (show (0 : Int32) = 0 by decide), if_pos (show (0 : Int32) = 0 by decide)] at q0 q1
    rw [if_pos (show (0 : Int32) = 0 by decide)]
    generalize nI (jd n tx p 1).1 = x1 at *
    by_cases hv : jcs 0 x1 = true
    · simp only [if_pos hv] at q0 q1 ⊢
      by_cases hs : jcr s = x1
      · simp only [if_pos hs] at q0 q1 ⊢
        exact ⟨fun e => absurd e (by decide), fun e => q0 e⟩
      · simp only [if_neg hs] at q0 q1 ⊢
        obtain ⟨k, hk2, ek⟩ := hw.2.2.2.2.2.1
        refine ⟨fun _ => ⟨vp_in_nI (show 245 < 277 by decide) (by decide), q1 ?_ _ (fun q hq => by rw [wi_m_p _ _ hq]) ?_⟩, fun e => absurd (by decide) e⟩
        · rw [ek]
          exact nI_pos' (by omega)
        · rw [wi_m_f]
          exact jR_cr hR (by omega)
    · simp only [if_neg hv] at q0 q1 ⊢
      exact ⟨fun e => absurd e (by decide), fun e => q0 e⟩
  · rw [hk]
    rw [hk] at iw
    simp only [hk] at q0 q1
    rw [if_neg (by decide), if_neg (by decide), if_neg (by decide), if_neg (by decide), if_neg (by decide), if_pos trivial] at q0 q1
    refine ⟨fun e => absurd e (by decide), fun _ => ⟨fun e => absurd e (by decide), fun _ => ⟨fun e => absurd e (by decide), fun _ => ⟨fun e => absurd e (by decide), fun _ => ⟨fun e => absurd e (by decide), fun _ => ⟨fun e => absurd e (by decide), fun _ => ?_⟩⟩⟩⟩⟩⟩
    rw [show M 105 (6 * c + 1) = nI (jd n tx p 1).1 from iw 0 (by decide)]
    refine cl_i (fun _ h => ct_refusesSet hR h) (rn_X6_act_101_278 ?_)
    rw [jo_set_eq, if_neg (show ¬ (1 : Int32) = 0 by decide), if_neg (show ¬ (1 : Int32) = 0 by decide)] at q0 q1
    rw [if_neg (show ¬ (1 : Int32) = 0 by decide)]
    generalize nI (jd n tx p 1).1 = x1 at *
    by_cases hv : jcs 1 x1 = true
    · simp only [if_pos hv] at q0 q1 ⊢
      by_cases hs : jle s = x1
      · simp only [if_pos hs] at q0 q1 ⊢
        exact ⟨fun e => absurd e (by decide), fun e => q0 e⟩
      · simp only [if_neg hs] at q0 q1 ⊢
        obtain ⟨k, hk2, ek⟩ := hw.2.2.2.2.2.2
        refine ⟨fun _ => ⟨vp_in_nI (show 246 < 277 by decide) (by decide), q1 ?_ _ (fun q hq => by rw [wi_m_p _ _ hq]) ?_⟩, fun e => absurd (by decide) e⟩
        · rw [ek]
          exact nI_pos' (by omega)
        · rw [wi_m_f]
          exact jR_le hR (by omega)
    · simp only [if_neg hv] at q0 q1 ⊢
      exact ⟨fun e => absurd e (by decide), fun e => q0 e⟩
  · rw [hk]
    rw [hk] at iw
    simp only [hk] at q0 q1
    rw [if_neg (by decide), if_neg (by decide), if_neg (by decide), if_neg (by decide), if_neg (by decide), if_neg (by decide)] at q0 q1
    refine ⟨fun e => absurd e (by decide), fun _ => ⟨fun e => absurd e (by decide), fun _ => ⟨fun _ => ?_, fun e => absurd rfl e⟩⟩⟩
    rw [show M 105 (6 * c + 1) = nI (jd n tx p 1).1 from iw 0 (by decide), show M 105 (6 * c + 2) = nI (jd n tx p 2).1 from iw 1 (by decide)]
    refine cl_i (fun _ h => ct_refusesIndex hR h) (rn_X6_act_101_204 ?_)
    unfold jo_ix at q0 q1
    generalize nI (jd n tx p 1).1 = x1 at *
    generalize nI (jd n tx p 2).1 = x2 at *
    by_cases hv : (0 ≤ x1 ∧ x1 ≤ 29) ∧ (50 ≤ x2 ∧ x2 ≤ 400)
    · simp only [if_pos hv] at q0 q1 ⊢
      by_cases hs : jix s x1.toNatClampNeg = x2
      · simp only [if_pos hs] at q0 q1 ⊢
        exact ⟨fun e => absurd e (by decide), fun e => q0 e⟩
      · simp only [if_neg hs] at q0 q1 ⊢
        obtain ⟨y, hy, rfl⟩ := nI_of2 (n := 29) (M := 29) (by decide) (Int32.not_lt.mpr hv.1.1) hv.1.2
        rw [nI_clamp (show y < 2147483648 by omega)] at q1
        obtain ⟨k, hk2, ek⟩ := hw.2.2.2.2.1 y (by omega)
        refine ⟨fun _ => ?_, fun e => absurd (by decide) e⟩
        rw [show (247 : Int32) + nI y = nI (247 + y) from nI_add 247 y, nI_clamp (show 247 + y < 2147483648 by omega)]
        refine ⟨vp_in_nI (by omega) (by decide), q1 ?_ _ (fun q hq => by rw [wi_m_p _ _ hq]) ?_⟩
        · rw [ek]
          exact nI_pos' (by omega)
        · rw [wi_m_f]
          exact jR_ix hR (by omega) (by omega)
    · simp only [if_neg hv] at q0 q1 ⊢
      exact ⟨fun e => absurd e (by decide), fun e => q0 e⟩
end Day4
