/-! ===== CREDITED MONTHS (written by wip/gen/gen_months.py) ===== -/
def jm_cg (cr : Int32) (gf gl ld wg : Nat → Int32) : Nat → (Nat → Int32) × (Nat → Int32)
  | 0 => (ld, wg)
  | g + 1 => if cr < gl g then jm_cg cr gf gl ld wg g else (fun m => if (gf g).toNatClampNeg ≤ m ∧ m < (gf g).toNatClampNeg + (gl g).toNatClampNeg then (jm_cg cr gf gl ld wg g).1 ((gf g).toNatClampNeg - 1) else (jm_cg cr gf gl ld wg g).1 m, fun m => if (gf g).toNatClampNeg ≤ m ∧ m < (gf g).toNatClampNeg + (gl g).toNatClampNeg then (jm_cg cr gf gl ld wg g).2 ((gf g).toNatClampNeg - 1) / 2 else (jm_cg cr gf gl ld wg g).2 m)
def jm_I6 (M : Nat → Nat → Int32) (a b : Nat) (r : (Nat → Int32) × (Nat → Int32)) (M1 : Nat → Nat → Int32) : Prop := (∀ p, p ≠ a → p ≠ b → M1 p = M p) ∧ ∀ m, m < 360 → M1 a m = r.1 m ∧ M1 b m = r.2 m
/-- a GAP's MONTHS from a + 1 on, up to j -/
def jm_cr (r : (Nat → Int32) × (Nat → Int32)) (a j : Nat) : (Nat → Int32) × (Nat → Int32) := (fun m => if a + 1 ≤ m ∧ m < j then r.1 a else r.1 m, fun m => if a + 1 ≤ m ∧ m < j then r.2 a / 2 else r.2 m)
theorem jm_I6_next {M M1 M2 : Nat → Nat → Int32} {a b k j : Nat} {r : (Nat → Int32) × (Nat → Int32)} (hab : a ≠ b) (hk : k < 360) (hj : k + 1 ≤ j) (h : jm_I6 M a b (jm_cr r k j) M1) (e : M2 = wi_m (wi_m M1 a j (M1 a k)) b j (M1 b k / 2)) : jm_I6 M a b (jm_cr r k (j + 1)) M2 := by
  subst e
  obtain ⟨f1, f2⟩ := h.2 k hk
  have f3 : M1 a k = r.1 k := f1.trans (if_neg (by omega))
  have f4 : M1 b k = r.2 k := f2.trans (if_neg (by omega))
  refine ⟨fun p h1 h2 => ?_, fun m hm => ?_⟩
  · rw [← h.1 p h1 h2]
    funext i
    rw [wi_m_eq, if_neg h2, wi_m_eq, if_neg h1]
  · obtain ⟨g1, g2⟩ := h.2 m hm
    rw [wi_m_eq, if_neg hab, wi_m_eq, if_pos rfl, wi_m_eq, if_pos rfl, wi_m_eq, if_neg (Ne.symm hab)]
    show _ = (if k + 1 ≤ m ∧ m < j + 1 then r.1 k else r.1 m) ∧ _ = (if k + 1 ≤ m ∧ m < j + 1 then r.2 k / 2 else r.2 m)
    have g1 : M1 a m = (if k + 1 ≤ m ∧ m < j then r.1 k else r.1 m) := g1
    have g2 : M1 b m = (if k + 1 ≤ m ∧ m < j then r.2 k / 2 else r.2 m) := g2
    by_cases hmj : m = j
    · rw [if_pos hmj, if_pos hmj, if_pos (show k + 1 ≤ m ∧ m < j + 1 by omega), if_pos (show k + 1 ≤ m ∧ m < j + 1 by omega), f3, f4]
      exact ⟨rfl, rfl⟩
    · rw [if_neg hmj, if_neg hmj, g1, g2]
      by_cases hin : k + 1 ≤ m ∧ m < j
      · rw [if_pos hin, if_pos hin, if_pos (show k + 1 ≤ m ∧ m < j + 1 by omega), if_pos (show k + 1 ≤ m ∧ m < j + 1 by omega)]
        exact ⟨rfl, rfl⟩
      · rw [if_neg hin, if_neg hin, if_neg (show ¬ (k + 1 ≤ m ∧ m < j + 1) by omega), if_neg (show ¬ (k + 1 ≤ m ∧ m < j + 1) by omega)]
        exact ⟨rfl, rfl⟩
theorem jm_cg_s {cr : Int32} {gf gl ld wg : Nat → Int32} {g a b : Nat} (h : ¬ cr < gl g) (ha : gf g = nI (a + 1)) (hb : gl g = nI b) (hab : a + 1 + b ≤ 360) : jm_cg cr gf gl ld wg (g + 1) = jm_cr (jm_cg cr gf gl ld wg g) a (a + 1 + b) := by
  rw [jm_cg, if_neg h, ha, hb, nI_clamp (by omega), nI_clamp (by omega)]
  rfl
section Crd16
variable {X : Nat × (Nat → Int32)} {M : Nat → Nat → Int32} {L : Nat → Nat → Int64} {G : Nat → Nat → Option Nat} {Q : am_Q}
theorem ct_creditGaps_16 {c : Nat} {cr : Int32} (hc : M 16 7 = nI c) (hc2 : c ≤ 44) (hg : ∀ g, g < c → ∃ a b : Nat, M 22 g = nI (a + 1) ∧ M 23 g = nI b ∧ a + 1 + b ≤ 360) (hQ : ∀ M', jm_I6 M 20 21 (jm_cg cr (M 22) (M 23) (M 20) (M 21) c) M' → Q (some none) (jm_s M' L G)) : am_T X 15 0 [some (.ref 16), some (.int cr), none, none, none] [] (jm_s M L G) (0, 0) Q := by
  refine rg_X1_creditGaps_16_0 ?_
  have l1 : ∀ g, g ≤ c → ∀ M1, jm_I6 M 20 21 (jm_cg cr (M 22) (M 23) (M 20) (M 21) g) M1 → am_T X 15 2 [some (.ref 16), some (.int cr), some (.int (nI g)), none, none] [] (jm_s M1 L G) (0, 0) Q := by
    refine lp_dn c ?_ ?_
    · intro M1 hI
      refine rg_X1_creditGaps_16_2 ⟨fun _ => hQ M1 hI, fun h => absurd ?_ h⟩
      rw [hI.1 16 (by decide) (by decide), hc]
      exact nI_le (Nat.le_refl c) (by omega)
    · intro g hgc ih M1 hI
      obtain ⟨a, b, ha, hb, hab⟩ := hg g hgc
      have e1 : M1 16 = M 16 := hI.1 16 (by decide) (by decide)
      have e2 : M1 22 = M 22 := hI.1 22 (by decide) (by decide)
      have e3 : M1 23 = M 23 := hI.1 23 (by decide) (by decide)
      have hg4 : g < 44 := by omega
      refine rg_X1_creditGaps_16_2 ⟨fun h => absurd h ?_, fun _ => ⟨vp_in_nI hg4 (by decide), vp_in_nI hg4 (by decide), ?_⟩⟩
      · rw [e1, hc]
        exact nI_ge hgc (by omega)
      rw [nI_clamp (show g < 2 ^ 31 by omega), e2, e3, nI_1]
      refine ⟨fun hlt => ?_, fun hlt => ⟨fun _ => ?_, fun h => absurd ?_ h⟩⟩
      · have e : jm_cg cr (M 22) (M 23) (M 20) (M 21) (g + 1) = jm_cg cr (M 22) (M 23) (M 20) (M 21) g := by rw [jm_cg, if_pos hlt]
        rw [e] at ih
        exact ih M1 hI
      · rw [jm_cg_s hlt ha hb hab] at ih
        rw [ha]
        have l3 : ∀ j, j ≤ a + 1 + b → a + 1 ≤ j → ∀ M2, jm_I6 M 20 21 (jm_cr (jm_cg cr (M 22) (M 23) (M 20) (M 21) g) a j) M2 → am_T X 15 38 [some (.ref 16), some (.int cr), some (.int (nI g)), some (.int (nI (a + 1))), some (.int (nI j))] [] (jm_s M2 L G) (0, 0) Q := by
          refine lp_dn (a + 1 + b) ?_ ?_
          · intro _ M2 hI2
            refine rg_X1_creditGaps_16_38 ⟨vp_in_nI hg4 (by decide), ?_⟩
            rw [nI_clamp (show g < 2 ^ 31 by omega), hI2.1 23 (by decide) (by decide), hb, nI_add, nI_1]
            exact ⟨fun _ => ih M2 hI2, fun h => absurd (nI_le (Nat.le_refl _) (by omega)) h⟩
          · intro j hj ih2 haj M2 hI2
            have hj3 : j < 360 := by omega
            refine rg_X1_creditGaps_16_38 ⟨vp_in_nI hg4 (by decide), ?_⟩
            rw [nI_clamp (show g < 2 ^ 31 by omega), hI2.1 23 (by decide) (by decide), hb, nI_add, nI_pred, jm_cl hj3, jm_cl (show a < 360 by omega)]
            refine ⟨fun h => absurd h (nI_ge hj (by omega)), fun _ => ⟨jm_in (by omega), jm_in hj3, jm_in (by omega), by decide, jm_in hj3, ?_⟩⟩
            rw [nI_1 j]
            exact ih2 (by omega) _ (jm_I6_next (by decide) (by omega) haj hI2 rfl)
        refine l3 (a + 1) (by omega) (Nat.le_refl _) M1 ⟨hI.1, fun m hm => ?_⟩
        obtain ⟨g1, g2⟩ := hI.2 m hm
        exact ⟨g1.trans (if_neg (by omega)).symm, g2.trans (if_neg (by omega)).symm⟩
      · rw [ha]
        exact nI_le (a := 1) (by omega) (by omega)
  exact l1 0 (Nat.zero_le _) M ⟨fun _ _ _ => rfl, fun _ _ => ⟨rfl, rfl⟩⟩
end Crd16
section Crd32
variable {X : Nat × (Nat → Int32)} {M : Nat → Nat → Int32} {L : Nat → Nat → Int64} {G : Nat → Nat → Option Nat} {Q : am_Q}
theorem ct_creditGaps_32 {c : Nat} {cr : Int32} (hc : M 32 7 = nI c) (hc2 : c ≤ 44) (hg : ∀ g, g < c → ∃ a b : Nat, M 38 g = nI (a + 1) ∧ M 39 g = nI b ∧ a + 1 + b ≤ 360) (hQ : ∀ M', jm_I6 M 36 37 (jm_cg cr (M 38) (M 39) (M 36) (M 37) c) M' → Q (some none) (jm_s M' L G)) : am_T X 15 0 [some (.ref 32), some (.int cr), none, none, none] [] (jm_s M L G) (0, 0) Q := by
  refine rg_X1_creditGaps_32_0 ?_
  have l1 : ∀ g, g ≤ c → ∀ M1, jm_I6 M 36 37 (jm_cg cr (M 38) (M 39) (M 36) (M 37) g) M1 → am_T X 15 2 [some (.ref 32), some (.int cr), some (.int (nI g)), none, none] [] (jm_s M1 L G) (0, 0) Q := by
    refine lp_dn c ?_ ?_
    · intro M1 hI
      refine rg_X1_creditGaps_32_2 ⟨fun _ => hQ M1 hI, fun h => absurd ?_ h⟩
      rw [hI.1 32 (by decide) (by decide), hc]
      exact nI_le (Nat.le_refl c) (by omega)
    · intro g hgc ih M1 hI
      obtain ⟨a, b, ha, hb, hab⟩ := hg g hgc
      have e1 : M1 32 = M 32 := hI.1 32 (by decide) (by decide)
      have e2 : M1 38 = M 38 := hI.1 38 (by decide) (by decide)
      have e3 : M1 39 = M 39 := hI.1 39 (by decide) (by decide)
      have hg4 : g < 44 := by omega
      refine rg_X1_creditGaps_32_2 ⟨fun h => absurd h ?_, fun _ => ⟨vp_in_nI hg4 (by decide), vp_in_nI hg4 (by decide), ?_⟩⟩
      · rw [e1, hc]
        exact nI_ge hgc (by omega)
      rw [nI_clamp (show g < 2 ^ 31 by omega), e2, e3, nI_1]
      refine ⟨fun hlt => ?_, fun hlt => ⟨fun _ => ?_, fun h => absurd ?_ h⟩⟩
      · have e : jm_cg cr (M 38) (M 39) (M 36) (M 37) (g + 1) = jm_cg cr (M 38) (M 39) (M 36) (M 37) g := by rw [jm_cg, if_pos hlt]
        rw [e] at ih
        exact ih M1 hI
      · rw [jm_cg_s hlt ha hb hab] at ih
        rw [ha]
        have l3 : ∀ j, j ≤ a + 1 + b → a + 1 ≤ j → ∀ M2, jm_I6 M 36 37 (jm_cr (jm_cg cr (M 38) (M 39) (M 36) (M 37) g) a j) M2 → am_T X 15 38 [some (.ref 32), some (.int cr), some (.int (nI g)), some (.int (nI (a + 1))), some (.int (nI j))] [] (jm_s M2 L G) (0, 0) Q := by
          refine lp_dn (a + 1 + b) ?_ ?_
          · intro _ M2 hI2
            refine rg_X1_creditGaps_32_38 ⟨vp_in_nI hg4 (by decide), ?_⟩
            rw [nI_clamp (show g < 2 ^ 31 by omega), hI2.1 39 (by decide) (by decide), hb, nI_add, nI_1]
            exact ⟨fun _ => ih M2 hI2, fun h => absurd (nI_le (Nat.le_refl _) (by omega)) h⟩
          · intro j hj ih2 haj M2 hI2
            have hj3 : j < 360 := by omega
            refine rg_X1_creditGaps_32_38 ⟨vp_in_nI hg4 (by decide), ?_⟩
            rw [nI_clamp (show g < 2 ^ 31 by omega), hI2.1 39 (by decide) (by decide), hb, nI_add, nI_pred, jm_cl hj3, jm_cl (show a < 360 by omega)]
            refine ⟨fun h => absurd h (nI_ge hj (by omega)), fun _ => ⟨jm_in (by omega), jm_in hj3, jm_in (by omega), by decide, jm_in hj3, ?_⟩⟩
            rw [nI_1 j]
            exact ih2 (by omega) _ (jm_I6_next (by decide) (by omega) haj hI2 rfl)
        refine l3 (a + 1) (by omega) (Nat.le_refl _) M1 ⟨hI.1, fun m hm => ?_⟩
        obtain ⟨g1, g2⟩ := hI.2 m hm
        exact ⟨g1.trans (if_neg (by omega)).symm, g2.trans (if_neg (by omega)).symm⟩
      · rw [ha]
        exact nI_le (a := 1) (by omega) (by omega)
  exact l1 0 (Nat.zero_le _) M ⟨fun _ _ _ => rfl, fun _ _ => ⟨rfl, rfl⟩⟩
end Crd32
