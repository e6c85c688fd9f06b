/-! ===== MONTHS added up (written by wip/gen/gen_add.py) ===== -/
def jm_ow (ld : Nat → Int32) (c n : Nat) : Int32 := jm_sm (fun m => if ld m = nI c then 1 else 0) n
def jm_cn (ld bf : Nat → Int32) (c n : Nat) : Int32 := jm_sm (fun m => if ld m = nI c then (if bf m = -1 then 0 else 1) else 0) n
def jm_os (ld wg : Nat → Int32) (c n : Nat) : Int32 := jm_sm (fun m => if ld m = nI c then wg m else 0) n
theorem jm_sm_s (f : Nat → Int32) (n : Nat) : jm_sm f (n + 1) = jm_sm f n + f n := rfl
theorem wi_m_p (M : Nat → Nat → Int32) {p i : Nat} (v : Int32) {q : Nat} (h : q ≠ p) : wi_m M p i v q = M q := by
  funext j
  rw [wi_m_eq, if_neg h]
def jm_I7 (M : Nat → Nat → Int32) (a : Nat) (r s t : Nat → Int32) (j : Nat) (M1 : Nat → Nat → Int32) : Prop := (∀ q, q ≠ a → q ≠ a + 1 → q ≠ a + 2 → M1 q = M q) ∧ ∀ c, c < j → M1 a c = r c ∧ M1 (a + 1) c = s c ∧ M1 (a + 2) c = t c
/-- three rows written at k -/
theorem jm_I7_put {M M1 M2 : Nat → Nat → Int32} {a j j' k : Nat} {r s t r' s' t' : Nat → Int32} {x y z : Int32} (h : jm_I7 M a r s t j M1) (e : M2 = wi_m (wi_m (wi_m M1 a k x) (a + 1) k y) (a + 2) k z) (hk : ∀ c, c < j' → c = k → x = r' c ∧ y = s' c ∧ z = t' c) (ho : ∀ c, c < j' → c ≠ k → c < j ∧ r c = r' c ∧ s c = s' c ∧ t c = t' c) : jm_I7 M a r' s' t' j' M2 := by
  subst e
  unfold jm_I7 at *
  refine ⟨fun q h1 h2 h3 => ?_, fun c hc => ?_⟩
  · grind [wi_m_p]
  · simp only [wi_m_eq]
    grind
theorem jm_ne {a b : Nat} (ha : a < 2147483648) (hb : b < 2147483648) (h : a ≠ b) : nI a ≠ nI b := by
  intro e
  apply h
  have := congrArg Int32.toNatClampNeg e
  rwa [nI_clamp ha, nI_clamp hb] at this
theorem jm_ow_s (ld : Nat → Int32) (c n : Nat) : jm_ow ld c (n + 1) = jm_ow ld c n + (if ld n = nI c then 1 else 0) := rfl
theorem jm_cn_s (ld bf : Nat → Int32) (c n : Nat) : jm_cn ld bf c (n + 1) = jm_cn ld bf c n + (if ld n = nI c then (if bf n = -1 then 0 else 1) else 0) := rfl
theorem jm_os_s (ld wg : Nat → Int32) (c n : Nat) : jm_os ld wg c (n + 1) = jm_os ld wg c n + (if ld n = nI c then wg n else 0) := rfl
/-- a land is none or a country -/
def jm_la (ld : Nat → Int32) : Prop := ∀ m, m < 360 → ld m = -1 ∨ ∃ c, c < 5 ∧ ld m = nI c
/-- what addMonths leaves -/
def jm_Ad (M : Nat → Nat → Int32) (p : Nat) (ld wg bf : Nat → Int32) (M' : Nat → Nat → Int32) : Prop := (∀ q, q ≠ p → q ≠ p + 9 → q ≠ p + 10 → q ≠ p + 11 → M' q = M q) ∧ (∀ i, i ≠ 8 → i ≠ 9 → M' p i = M p i) ∧ M' p 8 = jm_sm (fun c => jm_ow ld c 360) 5 ∧ M' p 9 = jm_bm (jm_sm (fun c => jm_os ld wg c 360) 5) (jm_sm (fun c => jm_ow ld c 360) 5) ∧ ∀ c, c < 5 → M' (p + 9) c = jm_ow ld c 360 ∧ M' (p + 10) c = jm_cn ld bf c 360 ∧ M' (p + 11) c = jm_bm (jm_os ld wg c 360) (jm_ow ld c 360)
def jm_I8 (M : Nat → Nat → Int32) (p : Nat) (ld wg bf : Nat → Int32) (k : Nat) (M' : Nat → Nat → Int32) : Prop := (∀ q, q ≠ p → q ≠ p + 9 → q ≠ p + 10 → q ≠ p + 11 → M' q = M q) ∧ (∀ i, i ≠ 8 → M' p i = M p i) ∧ M' p 8 = jm_sm (fun c => jm_ow ld c 360) k ∧ ∀ c, c < 5 → M' (p + 9) c = jm_ow ld c 360 ∧ M' (p + 10) c = jm_cn ld bf c 360 ∧ M' (p + 11) c = if c < k then jm_bm (jm_os ld wg c 360) (jm_ow ld c 360) else jm_os ld wg c 360
section Add15
variable {X : Nat × (Nat → Int32)} {M : Nat → Nat → Int32} {L : Nat → Nat → Int64} {G : Nat → Nat → Option Nat} {Q : am_Q}
theorem ct_addMonths_15 (hl : jm_la (M 20)) (hQ : ∀ M', jm_Ad M 15 (M 20) (M 21) (M 19) M' → Q (some none) (jm_s M' L G)) : am_T X 2 0 [some (.ref 15), none, none] [] (jm_s M L G) (0, 0) Q := by
  refine rg_X0_addMonths_15_0 ?_
  have l3 : ∀ k, k ≤ 5 → ∀ M1, jm_I8 M 15 (M 20) (M 21) (M 19) k M1 → am_T X 2 130 [some (.ref 15), some (.int (jm_sm (fun c => jm_os (M 20) (M 21) c 360) k)), some (.int (nI k))] [] (jm_s M1 L G) (0, 0) Q := by
    refine lp_dn 5 ?_ ?_
    · intro M1 hI
      refine rg_X0_addMonths_15_130 ⟨fun _ => ?_, fun h => absurd (nI_le (Nat.le_refl 5) (by decide)) h⟩
      refine cl_i (fun _ h => ct_byMonths h) (rg_X0_addMonths_15_195 (hQ _ ?_))
      unfold jm_I8 at hI
      unfold jm_Ad
      refine ⟨?_, ?_, ?_, ?_, ?_⟩
      · grind [wi_m_p]
      all_goals simp only [wi_m_eq]
      all_goals grind
    · intro k hk ih M1 hI
      refine rg_X0_addMonths_15_130 ⟨fun h => absurd h (nI_ge hk (by decide)), fun _ => ?_⟩
      have hv : vp_in (nI k) 5 := vp_in_nI hk (by decide)
      have hcl : (nI k).toNatClampNeg = k := nI_clamp (by omega)
      refine ⟨hv, hv, hv, hv, cl_i (fun _ h => ct_byMonths h) (rg_X0_addMonths_15_179 ⟨hv, ?_⟩)⟩
      unfold jm_I8 at hI ih
      obtain ⟨h1, h2, h3, h4⟩ := hI
      have h5 := h4 k hk
      rw [hcl, nI_1, h5.2.2, if_neg (Nat.lt_irrefl k), h5.1]
      refine ih _ ⟨?_, ?_, ?_, ?_⟩
      · grind [wi_m_p]
      all_goals simp only [wi_m_eq]
      · grind
      · rw [h3]
        rfl
      · grind
  have l2 : ∀ k, k ≤ 360 → ∀ M1, jm_I7 M 24 (fun c => jm_ow (M 20) c k) (fun c => jm_cn (M 20) (M 19) c k) (fun c => jm_os (M 20) (M 21) c k) 5 M1 → am_T X 2 36 [some (.ref 15), some (.int (nI k)), none] [] (jm_s M1 L G) (0, 0) Q := by
    refine lp_dn 360 ?_ ?_
    · intro M1 hI
      refine rg_X0_addMonths_15_36 ⟨fun _ => ?_, fun h => absurd jm_3e h⟩
      refine l3 0 (by decide) _ ?_
      unfold jm_I7 at hI
      unfold jm_I8
      refine ⟨?_, ?_, ?_, ?_⟩
      · grind [wi_m_p]
      all_goals simp only [wi_m_eq]
      · grind
      · rfl
      · grind
    · intro k hk ih M1 hI
      refine rg_X0_addMonths_15_36 ⟨fun h => absurd h (jm_3 hk), fun _ => ⟨jm_in hk, ?_⟩⟩
      have e20 : M1 20 = M 20 := hI.1 20 (by decide) (by decide) (by decide)
      have e19 : M1 19 = M 19 := hI.1 19 (by decide) (by decide) (by decide)
      have e21 : M1 21 = M 21 := hI.1 21 (by decide) (by decide) (by decide)
      rw [jm_cl hk, e20]
      rcases hl k hk with h1 | ⟨c, hc, h1⟩
      · rw [h1]
        refine cl_i (fun _ h => ct_isCountry_n (Or.inl (by decide)) h) (rg_X0_addMonths_15_57 ⟨fun _ => ?_, fun h => absurd rfl h⟩)
        rw [nI_1]
        refine ih M1 ⟨hI.1, fun d hd => ?_⟩
        have hn : ¬ (M 20 k = nI d) := by
          rw [h1]
          exact fun e => jm_ne1 (by omega) e.symm
        have := hI.2 d hd
        simp only [jm_ow_s, jm_cn_s, jm_os_s, if_neg hn, Int32.add_zero]
        exact this
      · rw [h1]
        have hv : vp_in (nI c) 5 := vp_in_nI hc (by decide)
        have hcl : (nI c).toNatClampNeg = c := nI_clamp (by omega)
        refine cl_i (fun _ h => ct_isCountry_y hc h) (rg_X0_addMonths_15_57 ⟨fun h => absurd h (by decide), fun _ => ⟨hv, hv, hv, jm_in hk, ?_⟩⟩)
        rw [jm_cl hk, hcl, nI_1, e19, e21]
        have hI2 := hI.2 c hc
        refine ⟨fun h => ⟨hv, hv, jm_in hk, hv, ih _ (jm_I7_put (k := c) hI rfl ?_ ?_)⟩, fun h => ⟨hv, hv, jm_in hk, hv, ih _ (jm_I7_put (k := c) hI rfl ?_ ?_)⟩⟩
        · intro d hd e
          subst e
          simp only [jm_ow_s, jm_cn_s, jm_os_s, if_pos h1, if_pos h, hI2.1, hI2.2.1, hI2.2.2]
          refine ⟨?_, ?_, ?_⟩ <;> first | rfl | trivial
        · intro d hd e
          have hn : ¬ (M 20 k = nI d) := by
            rw [h1]
            exact jm_ne (by omega) (by omega) (fun e2 => e e2.symm)
          simp only [jm_ow_s, jm_cn_s, jm_os_s, if_neg hn, Int32.add_zero]
          refine ⟨hd, ?_, ?_, ?_⟩ <;> first | rfl | trivial
        · intro d hd e
          subst e
          simp only [jm_ow_s, jm_cn_s, jm_os_s, if_pos h1, if_neg h, hI2.1, hI2.2.1, hI2.2.2]
          refine ⟨?_, ?_, ?_⟩ <;> first | rfl | trivial
        · intro d hd e
          have hn : ¬ (M 20 k = nI d) := by
            rw [h1]
            exact jm_ne (by omega) (by omega) (fun e2 => e e2.symm)
          simp only [jm_ow_s, jm_cn_s, jm_os_s, if_neg hn, Int32.add_zero]
          refine ⟨hd, ?_, ?_, ?_⟩ <;> first | rfl | trivial
  refine lp_dn (P := fun k => ∀ M1, jm_I7 M 24 (fun _ => 0) (fun _ => 0) (fun _ => 0) k M1 → am_T X 2 2 [some (.ref 15), some (.int (nI k)), none] [] (jm_s M1 L G) (0, 0) Q) 5 ?_ ?_ 0 (by decide) M ⟨fun _ _ _ _ => rfl, fun c hc => absurd hc (Nat.not_lt_zero c)⟩
  · intro M1 hI
    refine rg_X0_addMonths_15_2 ⟨fun _ => l2 0 (by decide) M1 hI, fun h => absurd (nI_le (Nat.le_refl 5) (by decide)) h⟩
  · intro k hk ih M1 hI
    have hv : vp_in (nI k) 5 := vp_in_nI hk (by decide)
    refine rg_X0_addMonths_15_2 ⟨fun h => absurd h (nI_ge hk (by decide)), fun _ => ⟨hv, hv, hv, ?_⟩⟩
    rw [nI_clamp (by omega), nI_1]
    exact ih _ (jm_I7_put (k := k) hI rfl (fun _ _ _ => ⟨rfl, rfl, rfl⟩) (fun c hc e => ⟨by omega, rfl, rfl, rfl⟩))
end Add15
section Add31
variable {X : Nat × (Nat → Int32)} {M : Nat → Nat → Int32} {L : Nat → Nat → Int64} {G : Nat → Nat → Option Nat} {Q : am_Q}
theorem ct_addMonths_31 (hl : jm_la (M 36)) (hQ : ∀ M', jm_Ad M 31 (M 36) (M 37) (M 35) M' → Q (some none) (jm_s M' L G)) : am_T X 2 0 [some (.ref 31), none, none] [] (jm_s M L G) (0, 0) Q := by
  refine rg_X0_addMonths_31_0 ?_
  have l3 : ∀ k, k ≤ 5 → ∀ M1, jm_I8 M 31 (M 36) (M 37) (M 35) k M1 → am_T X 2 130 [some (.ref 31), some (.int (jm_sm (fun c => jm_os (M 36) (M 37) c 360) k)), some (.int (nI k))] [] (jm_s M1 L G) (0, 0) Q := by
    refine lp_dn 5 ?_ ?_
    · intro M1 hI
      refine rg_X0_addMonths_31_130 ⟨fun _ => ?_, fun h => absurd (nI_le (Nat.le_refl 5) (by decide)) h⟩
      refine cl_i (fun _ h => ct_byMonths h) (rg_X0_addMonths_31_195 (hQ _ ?_))
      unfold jm_I8 at hI
      unfold jm_Ad
      refine ⟨?_, ?_, ?_, ?_, ?_⟩
      · grind [wi_m_p]
      all_goals simp only [wi_m_eq]
      all_goals grind
    · intro k hk ih M1 hI
      refine rg_X0_addMonths_31_130 ⟨fun h => absurd h (nI_ge hk (by decide)), fun _ => ?_⟩
      have hv : vp_in (nI k) 5 := vp_in_nI hk (by decide)
      have hcl : (nI k).toNatClampNeg = k := nI_clamp (by omega)
      refine ⟨hv, hv, hv, hv, cl_i (fun _ h => ct_byMonths h) (rg_X0_addMonths_31_179 ⟨hv, ?_⟩)⟩
      unfold jm_I8 at hI ih
      obtain ⟨h1, h2, h3, h4⟩ := hI
      have h5 := h4 k hk
      rw [hcl, nI_1, h5.2.2, if_neg (Nat.lt_irrefl k), h5.1]
      refine ih _ ⟨?_, ?_, ?_, ?_⟩
      · grind [wi_m_p]
      all_goals simp only [wi_m_eq]
      · grind
      · rw [h3]
        rfl
      · grind
  have l2 : ∀ k, k ≤ 360 → ∀ M1, jm_I7 M 40 (fun c => jm_ow (M 36) c k) (fun c => jm_cn (M 36) (M 35) c k) (fun c => jm_os (M 36) (M 37) c k) 5 M1 → am_T X 2 36 [some (.ref 31), some (.int (nI k)), none] [] (jm_s M1 L G) (0, 0) Q := by
    refine lp_dn 360 ?_ ?_
    · intro M1 hI
      refine rg_X0_addMonths_31_36 ⟨fun _ => ?_, fun h => absurd jm_3e h⟩
      refine l3 0 (by decide) _ ?_
      unfold jm_I7 at hI
      unfold jm_I8
      refine ⟨?_, ?_, ?_, ?_⟩
      · grind [wi_m_p]
      all_goals simp only [wi_m_eq]
      · grind
      · rfl
      · grind
    · intro k hk ih M1 hI
      refine rg_X0_addMonths_31_36 ⟨fun h => absurd h (jm_3 hk), fun _ => ⟨jm_in hk, ?_⟩⟩
      have e20 : M1 36 = M 36 := hI.1 36 (by decide) (by decide) (by decide)
      have e19 : M1 35 = M 35 := hI.1 35 (by decide) (by decide) (by decide)
      have e21 : M1 37 = M 37 := hI.1 37 (by decide) (by decide) (by decide)
      rw [jm_cl hk, e20]
      rcases hl k hk with h1 | ⟨c, hc, h1⟩
      · rw [h1]
        refine cl_i (fun _ h => ct_isCountry_n (Or.inl (by decide)) h) (rg_X0_addMonths_31_57 ⟨fun _ => ?_, fun h => absurd rfl h⟩)
        rw [nI_1]
        refine ih M1 ⟨hI.1, fun d hd => ?_⟩
        have hn : ¬ (M 36 k = nI d) := by
          rw [h1]
          exact fun e => jm_ne1 (by omega) e.symm
        have := hI.2 d hd
        simp only [jm_ow_s, jm_cn_s, jm_os_s, if_neg hn, Int32.add_zero]
        exact this
      · rw [h1]
        have hv : vp_in (nI c) 5 := vp_in_nI hc (by decide)
        have hcl : (nI c).toNatClampNeg = c := nI_clamp (by omega)
        refine cl_i (fun _ h => ct_isCountry_y hc h) (rg_X0_addMonths_31_57 ⟨fun h => absurd h (by decide), fun _ => ⟨hv, hv, hv, jm_in hk, ?_⟩⟩)
        rw [jm_cl hk, hcl, nI_1, e19, e21]
        have hI2 := hI.2 c hc
        refine ⟨fun h => ⟨hv, hv, jm_in hk, hv, ih _ (jm_I7_put (k := c) hI rfl ?_ ?_)⟩, fun h => ⟨hv, hv, jm_in hk, hv, ih _ (jm_I7_put (k := c) hI rfl ?_ ?_)⟩⟩
        · intro d hd e
          subst e
          simp only [jm_ow_s, jm_cn_s, jm_os_s, if_pos h1, if_pos h, hI2.1, hI2.2.1, hI2.2.2]
          refine ⟨?_, ?_, ?_⟩ <;> first | rfl | trivial
        · intro d hd e
          have hn : ¬ (M 36 k = nI d) := by
            rw [h1]
            exact jm_ne (by omega) (by omega) (fun e2 => e e2.symm)
          simp only [jm_ow_s, jm_cn_s, jm_os_s, if_neg hn, Int32.add_zero]
          refine ⟨hd, ?_, ?_, ?_⟩ <;> first | rfl | trivial
        · intro d hd e
          subst e
          simp only [jm_ow_s, jm_cn_s, jm_os_s, if_pos h1, if_neg h, hI2.1, hI2.2.1, hI2.2.2]
          refine ⟨?_, ?_, ?_⟩ <;> first | rfl | trivial
        · intro d hd e
          have hn : ¬ (M 36 k = nI d) := by
            rw [h1]
            exact jm_ne (by omega) (by omega) (fun e2 => e e2.symm)
          simp only [jm_ow_s, jm_cn_s, jm_os_s, if_neg hn, Int32.add_zero]
          refine ⟨hd, ?_, ?_, ?_⟩ <;> first | rfl | trivial
  refine lp_dn (P := fun k => ∀ M1, jm_I7 M 40 (fun _ => 0) (fun _ => 0) (fun _ => 0) k M1 → am_T X 2 2 [some (.ref 31), some (.int (nI k)), none] [] (jm_s M1 L G) (0, 0) Q) 5 ?_ ?_ 0 (by decide) M ⟨fun _ _ _ _ => rfl, fun c hc => absurd hc (Nat.not_lt_zero c)⟩
  · intro M1 hI
    refine rg_X0_addMonths_31_2 ⟨fun _ => l2 0 (by decide) M1 hI, fun h => absurd (nI_le (Nat.le_refl 5) (by decide)) h⟩
  · intro k hk ih M1 hI
    have hv : vp_in (nI k) 5 := vp_in_nI hk (by decide)
    refine rg_X0_addMonths_31_2 ⟨fun h => absurd h (nI_ge hk (by decide)), fun _ => ⟨hv, hv, hv, ?_⟩⟩
    rw [nI_clamp (by omega), nI_1]
    exact ih _ (jm_I7_put (k := k) hI rfl (fun _ _ _ => ⟨rfl, rfl, rfl⟩) (fun c hc e => ⟨by omega, rfl, rfl, rfl⟩))
end Add31
