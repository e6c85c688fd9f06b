/-! ===== by which SPAN each MONTH COUNTS (written by wip/gen/gen_months.py) ===== -/
def jm_kk (s : Int32) : Nat := (am_rem s 64).toNatClampNeg
def jm_by (s : Int32) : Int32 := if s = 1073741824 then -1 else am_rem s 64
def jm_ld (sp : Nat → Int32) (s : Int32) : Int32 := if s = 1073741824 then -1 else jm_of sp (jm_kk s) 0
def jm_wg (sp ix : Nat → Int32) (s : Int32) (m : Nat) : Int32 := if s = 1073741824 then 0 else (jm_of sp (jm_kk s) 4 * ix (m / 12)) / 100
def jm_I4 (M : Nat → Nat → Int32) (a sp ix j : Nat) (M1 : Nat → Nat → Int32) : Prop := (∀ p, p ≠ a + 2 → p ≠ a + 3 → p ≠ a + 4 → M1 p = M p) ∧ ∀ m, m < j → M1 (a + 2) m = jm_by (M a m) ∧ M1 (a + 3) m = jm_ld (M sp) (M a m) ∧ M1 (a + 4) m = jm_wg (M sp) (M ix) (M a m) m
/-- three rows written at j -/
theorem jm_I4_next {M M1 M2 : Nat → Nat → Int32} {a sp ix j : Nat} {x y z : Int32} (h : jm_I4 M a sp ix j M1) (e : M2 = wi_m (wi_m (wi_m M1 (a + 2) j x) (a + 3) j y) (a + 4) j z) (hx : x = jm_by (M a j)) (hy : y = jm_ld (M sp) (M a j)) (hz : z = jm_wg (M sp) (M ix) (M a j) j) : jm_I4 M a sp ix (j + 1) M2 := by
  subst e; subst hx; subst hy; subst hz
  refine ⟨fun p h1 h2 h3 => ?_, fun m hm => ?_⟩
  · rw [← h.1 p h1 h2 h3]
    funext i
    rw [wi_m_eq, if_neg h3, wi_m_eq, if_neg h2, wi_m_eq, if_neg h1]
  · have g (q : Nat) : q = a + 2 ∨ q = a + 3 ∨ q = a + 4 → wi_m (wi_m (wi_m M1 (a + 2) j (jm_by (M a j))) (a + 3) j (jm_ld (M sp) (M a j))) (a + 4) j (jm_wg (M sp) (M ix) (M a j) j) q m = if m = j then (if q = a + 2 then jm_by (M a j) else if q = a + 3 then jm_ld (M sp) (M a j) else jm_wg (M sp) (M ix) (M a j) j) else M1 q m := by
      intro hq
      rw [wi_m_eq, wi_m_eq, wi_m_eq]
      by_cases hmj : m = j
      · rcases hq with rfl | rfl | rfl
        · rw [if_neg (by omega), if_neg (by omega), if_pos rfl, if_pos hmj, if_pos hmj, if_pos rfl]
        · rw [if_neg (by omega), if_pos rfl, if_pos hmj, if_pos hmj, if_neg (by omega), if_pos rfl]
        · rw [if_pos rfl, if_pos hmj, if_pos hmj, if_neg (by omega), if_neg (by omega)]
      · rcases hq with rfl | rfl | rfl
        · rw [if_neg (by omega), if_neg (by omega), if_pos rfl, if_neg hmj, if_neg hmj]
        · rw [if_neg (by omega), if_pos rfl, if_neg hmj, if_neg (by omega), if_neg hmj]
        · rw [if_pos rfl, if_neg hmj, if_neg (by omega), if_neg (by omega), if_neg hmj]
    rw [g (a + 2) (Or.inl rfl), g (a + 3) (Or.inr (Or.inl rfl)), g (a + 4) (Or.inr (Or.inr rfl))]
    by_cases hmj : m = j
    · subst hmj
      rw [if_pos rfl, if_pos rfl, if_pos rfl, if_pos rfl, if_neg (by omega), if_pos rfl, if_neg (by omega), if_neg (by omega)]
      exact ⟨rfl, rfl, rfl⟩
    · rw [if_neg hmj, if_neg hmj, if_neg hmj]
      exact h.2 m (by omega)
section Cnt16_5
variable {X : Nat × (Nat → Int32)} {M : Nat → Nat → Int32} {L : Nat → Nat → Int64} {G : Nat → Nat → Option Nat} {Q : am_Q}
theorem ct_countCovered_16_5 {n : Nat} (hn2 : 5 * n ≤ 100) (hk : ∀ m, m < 360 → M 17 m = 1073741824 ∨ ∃ k, k < n ∧ am_rem (M 17 m) 64 = nI k) (hQ : ∀ M', jm_I4 M 17 9 8 360 M' → Q (some none) (jm_s M' L G)) : am_T X 13 0 [some (.ref 16), some (.ref 5), none, none] [] (jm_s M L G) (0, 0) Q := by
  refine rg_X1_countCovered_16_5_0 ?_
  have l1 : ∀ j, j ≤ 360 → ∀ M1, jm_I4 M 17 9 8 j M1 → am_T X 13 2 [some (.ref 16), some (.ref 5), some (.int (nI j)), none] [] (jm_s M1 L G) (0, 0) Q := by
    refine lp_dn 360 ?_ ?_
    · intro M1 hI
      exact rg_X1_countCovered_16_5_2 ⟨fun _ => hQ M1 hI, fun h => absurd jm_3e h⟩
    · intro j hj ih M1 hI
      have eA : M1 17 = M 17 := hI.1 17 (by decide) (by decide) (by decide)
      have eS : M1 9 = M 9 := hI.1 9 (by decide) (by decide) (by decide)
      have eX : M1 8 = M 8 := hI.1 8 (by decide) (by decide) (by decide)
      refine rg_X1_countCovered_16_5_2 ⟨fun h => absurd h (jm_3 hj), fun _ => ⟨jm_in hj, ?_⟩⟩
      rw [jm_cl hj, eA, nI_1]
      refine ⟨fun hne => ⟨jm_in hj, by decide, jm_in hj, ?_⟩, fun he => ⟨jm_in hj, jm_in hj, jm_in hj, ?_⟩⟩
      · obtain ⟨k, hkn, hke⟩ : ∃ k, k < n ∧ am_rem (M 17 j) 64 = nI k := by
          rcases hk j hj with h | h
          · exact absurd h hne
          · exact h
        have hkk : jm_kk (M 17 j) = k := by
          unfold jm_kk
          rw [hke]
          exact nI_clamp (by omega)
        rw [hke]
        refine cl_i (fun _ h => ct_numberOf_5 (w := 0) (by omega) h) ?_
        refine rg_X1_countCovered_16_5_72 ⟨jm_in hj, cl_i (fun _ h => ct_numberOf_5 (w := 4) (by omega) h) ?_⟩
        have e12 : nI j / 12 = nI (j / 12) := pk_div (d := 12) (by omega) (by decide) (by decide)
        refine rg_X1_countCovered_16_5_84 ⟨by decide, ?_⟩
        rw [e12]
        refine ⟨vp_in_nI (by omega) (by decide), by decide, jm_in hj, ?_⟩
        rw [jm_cl hj, nI_clamp (show j / 12 < 2 ^ 31 by omega), nI_1]
        refine ih _ (jm_I4_next hI rfl ?_ ?_ ?_)
        · rw [jm_by, if_neg hne, hke]
        · rw [jm_ld, if_neg hne, hkk]
          show jm_of (M1 9) k 0 = _
          rw [eS]
        · rw [jm_wg, if_neg hne, hkk]
          show jm_of (M1 9) k 4 * M1 8 (j / 12) / 100 = _
          rw [eS, eX]
      · refine ih _ (jm_I4_next hI rfl ?_ ?_ ?_)
        · rw [jm_by, if_pos he]
        · rw [jm_ld, if_pos he]
        · rw [jm_wg, if_pos he]
  exact l1 0 (Nat.zero_le _) M ⟨fun _ _ _ _ => rfl, fun m hm => absurd hm (Nat.not_lt_zero m)⟩
end Cnt16_5
section Cnt32_10
variable {X : Nat × (Nat → Int32)} {M : Nat → Nat → Int32} {L : Nat → Nat → Int64} {G : Nat → Nat → Option Nat} {Q : am_Q}
theorem ct_countCovered_32_10 {n : Nat} (hn2 : 5 * n ≤ 220) (hk : ∀ m, m < 360 → M 33 m = 1073741824 ∨ ∃ k, k < n ∧ am_rem (M 33 m) 64 = nI k) (hQ : ∀ M', jm_I4 M 33 14 13 360 M' → Q (some none) (jm_s M' L G)) : am_T X 13 0 [some (.ref 32), some (.ref 10), none, none] [] (jm_s M L G) (0, 0) Q := by
  refine rg_X1_countCovered_32_10_0 ?_
  have l1 : ∀ j, j ≤ 360 → ∀ M1, jm_I4 M 33 14 13 j M1 → am_T X 13 2 [some (.ref 32), some (.ref 10), some (.int (nI j)), none] [] (jm_s M1 L G) (0, 0) Q := by
    refine lp_dn 360 ?_ ?_
    · intro M1 hI
      exact rg_X1_countCovered_32_10_2 ⟨fun _ => hQ M1 hI, fun h => absurd jm_3e h⟩
    · intro j hj ih M1 hI
      have eA : M1 33 = M 33 := hI.1 33 (by decide) (by decide) (by decide)
      have eS : M1 14 = M 14 := hI.1 14 (by decide) (by decide) (by decide)
      have eX : M1 13 = M 13 := hI.1 13 (by decide) (by decide) (by decide)
      refine rg_X1_countCovered_32_10_2 ⟨fun h => absurd h (jm_3 hj), fun _ => ⟨jm_in hj, ?_⟩⟩
      rw [jm_cl hj, eA, nI_1]
      refine ⟨fun hne => ⟨jm_in hj, by decide, jm_in hj, ?_⟩, fun he => ⟨jm_in hj, jm_in hj, jm_in hj, ?_⟩⟩
      · obtain ⟨k, hkn, hke⟩ : ∃ k, k < n ∧ am_rem (M 33 j) 64 = nI k := by
          rcases hk j hj with h | h
          · exact absurd h hne
          · exact h
        have hkk : jm_kk (M 33 j) = k := by
          unfold jm_kk
          rw [hke]
          exact nI_clamp (by omega)
        rw [hke]
        refine cl_i (fun _ h => ct_numberOf_10 (w := 0) (by omega) h) ?_
        refine rg_X1_countCovered_32_10_72 ⟨jm_in hj, cl_i (fun _ h => ct_numberOf_10 (w := 4) (by omega) h) ?_⟩
        have e12 : nI j / 12 = nI (j / 12) := pk_div (d := 12) (by omega) (by decide) (by decide)
        refine rg_X1_countCovered_32_10_84 ⟨by decide, ?_⟩
        rw [e12]
        refine ⟨vp_in_nI (by omega) (by decide), by decide, jm_in hj, ?_⟩
        rw [jm_cl hj, nI_clamp (show j / 12 < 2 ^ 31 by omega), nI_1]
        refine ih _ (jm_I4_next hI rfl ?_ ?_ ?_)
        · rw [jm_by, if_neg hne, hke]
        · rw [jm_ld, if_neg hne, hkk]
          show jm_of (M1 14) k 0 = _
          rw [eS]
        · rw [jm_wg, if_neg hne, hkk]
          show jm_of (M1 14) k 4 * M1 13 (j / 12) / 100 = _
          rw [eS, eX]
      · refine ih _ (jm_I4_next hI rfl ?_ ?_ ?_)
        · rw [jm_by, if_pos he]
        · rw [jm_ld, if_pos he]
        · rw [jm_wg, if_pos he]
  exact l1 0 (Nat.zero_le _) M ⟨fun _ _ _ _ => rfl, fun m hm => absurd hm (Nat.not_lt_zero m)⟩
end Cnt32_10
