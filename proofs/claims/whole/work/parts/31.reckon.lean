/-! ===== all of the MONTHS (written by wip/gen/gen_months.py) ===== -/
theorem jm_fg_cong {f g : Nat → Int32} : ∀ {m : Nat}, (∀ k, k < m → f k = g k) → jm_fg f m = jm_fg g m
  | 0, _ => rfl
  | m + 1, h => by rw [jm_fg, jm_fg, jm_fg_cong (fun k hk => h k (by omega)), h m (by omega)]
theorem jm_cg_cong {cr : Int32} {gf gl ld wg gf' gl' ld' wg' : Nat → Int32} (hl : ∀ m, m < 360 → ld m = ld' m ∧ wg m = wg' m) : ∀ {c : Nat}, (∀ g, g < c → gf g = gf' g ∧ gl g = gl' g ∧ (gf g).toNatClampNeg ≤ 360) → ∀ m, m < 360 → (jm_cg cr gf gl ld wg c).1 m = (jm_cg cr gf' gl' ld' wg' c).1 m ∧ (jm_cg cr gf gl ld wg c).2 m = (jm_cg cr gf' gl' ld' wg' c).2 m
  | 0, _, m, hm => hl m hm
  | c + 1, h, m, hm => by
    obtain ⟨a1, a2, a3⟩ := h c (by omega)
    have ih := jm_cg_cong (cr := cr) hl (c := c) (fun g hg => h g (by omega))
    rw [jm_cg, jm_cg, ← a1, ← a2]
    by_cases hlt : cr < gl c
    · rw [if_pos hlt, if_pos hlt]
      exact ih m hm
    · rw [if_neg hlt, if_neg hlt]
      dsimp only
      by_cases hin : (gf c).toNatClampNeg ≤ m ∧ m < (gf c).toNatClampNeg + (gl c).toNatClampNeg
      · rw [if_pos hin, if_pos hin, if_pos hin, if_pos hin]
        have i := ih ((gf c).toNatClampNeg - 1) (by omega)
        exact ⟨i.1, by rw [i.2]⟩
      · rw [if_neg hin, if_neg hin, if_neg hin, if_neg hin]
        exact ih m hm
/-- by, land and wage ahead of what is CREDITED; GAPS; land and wage -/
def jm_B (sp od : Nat → Int32) (n m : Nat) : Int32 := jm_by (jm_st sp od m n)
def jm_GP (sp od : Nat → Int32) (n : Nat) : Int32 × Nat × (Nat → Int32) × (Nat → Int32) := jm_fg (jm_B sp od n) 360
def jm_LW (sp od ix : Nat → Int32) (n : Nat) (cr : Int32) : (Nat → Int32) × (Nat → Int32) := jm_cg cr (jm_GP sp od n).2.2.1 (jm_GP sp od n).2.2.2 (fun m => jm_ld sp (jm_st sp od m n)) (fun m => jm_wg sp ix (jm_st sp od m n) m) (jm_GP sp od n).2.1
def jm_Mo (M : Nat → Nat → Int32) (p : Nat) (sp od ix : Nat → Int32) (n : Nat) (cr : Int32) (M' : Nat → Nat → Int32) : Prop := (∀ q, q < p ∨ p + 7 < q → M' q = M q) ∧ (∀ m, m < 360 → M' (p + 2) m = jm_cv sp m n ∧ M' (p + 3) m = jm_B sp od n m ∧ M' (p + 4) m = (jm_LW sp od ix n cr).1 m ∧ M' (p + 5) m = (jm_LW sp od ix n cr).2 m) ∧ M' p 7 = nI (jm_GP sp od n).2.1 ∧ ∀ g, g < (jm_GP sp od n).2.1 → M' (p + 6) g = (jm_GP sp od n).2.2.1 g ∧ M' (p + 7) g = (jm_GP sp od n).2.2.2 g
section Rck16_5
variable {X : Nat × (Nat → Int32)} {M : Nat → Nat → Int32} {L : Nat → Nat → Int64} {G : Nat → Nat → Option Nat} {Q : am_Q}
theorem ct_monthsReckon_16_5 {n : Nat} (hn : M 5 0 = nI n) (hn2 : 5 * n ≤ 100) (hok : jm_ok (M 9) n) (hc : ∀ m, m ≤ 360 → (jm_fg (jm_B (M 9) (M 7) n) m).2.1 < 44) (hQ : ∀ M', jm_Mo M 16 (M 9) (M 7) (M 8) n (M 5 5) M' → Q (some none) (jm_s M' L G)) : am_T X 10 0 [some (.ref 16), some (.ref 5)] [] (jm_s M L G) (0, 0) Q := by
  refine rg_X1_reckon_16_5_0 ⟨fun σ' => ∃ M1, σ' = jm_s M1 L G ∧ jm_I2 M 17 18 9 7 n M1, ct_cover_16_5 hn hn2 (jm_ok_ft hok) (fun M1 h => ⟨rfl, M1, rfl, h⟩), ?_⟩
  rintro _ ⟨M1, rfl, h1⟩
  have s1 : M1 9 = M 9 := h1.1 _ (by decide) (by decide)
  have x1 : M1 8 = M 8 := h1.1 _ (by decide) (by decide)
  refine rg_X1_reckon_16_5_5 ⟨fun σ' => ∃ M2, σ' = jm_s M2 L G ∧ jm_I4 M1 17 9 8 360 M2, ct_countCovered_16_5 (n := n) hn2 ?_ (fun M2 h => ⟨rfl, M2, rfl, h⟩), ?_⟩
  · intro m hm
    rw [(h1.2 m hm).1]
    exact jm_st_rem hok (by omega)
  rintro _ ⟨M2, rfl, h2⟩
  have b2 : ∀ m, m < 360 → M2 19 m = jm_B (M 9) (M 7) n m := by
    intro m hm
    have h := (h2.2 m hm).1
    rw [(h1.2 m hm).1] at h
    exact h
  have c2 : ∀ m, m < 360 → M2 20 m = jm_ld (M 9) (jm_st (M 9) (M 7) m n) ∧ M2 21 m = jm_wg (M 9) (M 8) (jm_st (M 9) (M 7) m n) m := by
    intro m hm
    have h := (h2.2 m hm).2
    rw [(h1.2 m hm).1, s1, x1] at h
    exact h
  have g2 : jm_fg (M2 19) 360 = jm_GP (M 9) (M 7) n := jm_fg_cong (fun k hk => b2 k hk)
  refine rg_X1_reckon_16_5_10 ⟨fun σ' => ∃ M3, σ' = jm_s M3 L G ∧ jm_I5 M2 16 7 22 23 (jm_GP (M 9) (M 7) n) M3, ct_findGaps_16 ?_ (fun M3 h => ⟨rfl, M3, rfl, by rw [← g2]; exact h⟩), ?_⟩
  · intro m hm
    rw [jm_fg_cong (fun k hk => b2 k (by omega))]
    exact hc m hm
  rintro _ ⟨M3, rfl, h3⟩
  have c3 : M3 5 5 = M 5 5 := by
    rw [h3.1 5 (by decide) (by decide) (by decide), h2.1 5 (by decide) (by decide) (by decide), h1.1 5 (by decide) (by decide)]
  have k3 := (jm_fg_ok (jm_B (M 9) (M 7) n) 360 (Nat.le_refl _)).2
  have l3 : M3 20 = M2 20 := h3.1 _ (by decide) (by decide) (by decide)
  have w3 : M3 21 = M2 21 := h3.1 _ (by decide) (by decide) (by decide)
  have n44 : (jm_GP (M 9) (M 7) n).2.1 < 44 := hc 360 (Nat.le_refl _)
  refine rg_X1_reckon_16_5_14 ⟨fun σ' => ∃ M4, σ' = jm_s M4 L G ∧ jm_I6 M3 20 21 (jm_cg (M3 5 5) (M3 22) (M3 23) (M3 20) (M3 21) (jm_GP (M 9) (M 7) n).2.1) M4, ct_creditGaps_16 h3.2.1 (by omega) ?_ (fun M4 h => ⟨rfl, M4, rfl, h⟩), ?_⟩
  · intro g hg
    rw [(h3.2.2 g hg).1, (h3.2.2 g hg).2]
    exact k3 g hg
  rintro _ ⟨M4, rfl, h4⟩
  refine rg_X1_reckon_16_5_22 (hQ M4 ⟨fun q hq => ?_, fun m hm => ?_, ?_, fun g hg => ?_⟩)
  · rw [h4.1 q (by omega) (by omega), h3.1 q (by omega) (by omega) (by omega), h2.1 q (by omega) (by omega) (by omega), h1.1 q (by omega) (by omega)]
  · have e1 : M4 18 m = jm_cv (M 9) m n := by
      rw [h4.1 18 (by decide) (by decide), h3.1 18 (by decide) (by decide) (by decide), h2.1 18 (by decide) (by decide) (by decide)]
      exact (h1.2 m hm).2
    have e2 : M4 19 m = jm_B (M 9) (M 7) n m := by
      rw [h4.1 19 (by decide) (by decide), h3.1 19 (by decide) (by decide) (by decide)]
      exact b2 m hm
    have e3 := h4.2 m hm
    have e4 := jm_cg_cong (cr := M 5 5) (gf := M3 22) (gl := M3 23) (ld := M3 20) (wg := M3 21) (gf' := (jm_GP (M 9) (M 7) n).2.2.1) (gl' := (jm_GP (M 9) (M 7) n).2.2.2) (ld' := fun m => jm_ld (M 9) (jm_st (M 9) (M 7) m n)) (wg' := fun m => jm_wg (M 9) (M 8) (jm_st (M 9) (M 7) m n) m) (fun m hm => by rw [l3, w3]; exact c2 m hm) (c := (jm_GP (M 9) (M 7) n).2.1) (fun g hg => ⟨(h3.2.2 g hg).1, (h3.2.2 g hg).2, by
      obtain ⟨a, b, ha, hb, hab⟩ := k3 g hg
      rw [(h3.2.2 g hg).1]
      rw [show (jm_GP (M 9) (M 7) n).2.2.1 g = nI (a + 1) from ha, nI_clamp (by omega)]
      omega⟩) m hm
    rw [c3] at e3
    exact ⟨e1, e2, e3.1.trans e4.1, e3.2.trans e4.2⟩
  · rw [h4.1 16 (by decide) (by decide)]
    exact h3.2.1
  · have f1 : M4 22 = M3 22 := h4.1 _ (by decide) (by decide)
    have f2 : M4 23 = M3 23 := h4.1 _ (by decide) (by decide)
    have h := h3.2.2 g hg
    rw [← f1, ← f2] at h
    exact h
end Rck16_5
section Rck32_10
variable {X : Nat × (Nat → Int32)} {M : Nat → Nat → Int32} {L : Nat → Nat → Int64} {G : Nat → Nat → Option Nat} {Q : am_Q}
theorem ct_monthsReckon_32_10 {n : Nat} (hn : M 10 0 = nI n) (hn2 : 5 * n ≤ 220) (hok : jm_ok (M 14) n) (hc : ∀ m, m ≤ 360 → (jm_fg (jm_B (M 14) (M 12) n) m).2.1 < 44) (hQ : ∀ M', jm_Mo M 32 (M 14) (M 12) (M 13) n (M 10 5) M' → Q (some none) (jm_s M' L G)) : am_T X 10 0 [some (.ref 32), some (.ref 10)] [] (jm_s M L G) (0, 0) Q := by
  refine rg_X1_reckon_32_10_0 ⟨fun σ' => ∃ M1, σ' = jm_s M1 L G ∧ jm_I2 M 33 34 14 12 n M1, ct_cover_32_10 hn hn2 (jm_ok_ft hok) (fun M1 h => ⟨rfl, M1, rfl, h⟩), ?_⟩
  rintro _ ⟨M1, rfl, h1⟩
  have s1 : M1 14 = M 14 := h1.1 _ (by decide) (by decide)
  have x1 : M1 13 = M 13 := h1.1 _ (by decide) (by decide)
  refine rg_X1_reckon_32_10_5 ⟨fun σ' => ∃ M2, σ' = jm_s M2 L G ∧ jm_I4 M1 33 14 13 360 M2, ct_countCovered_32_10 (n := n) hn2 ?_ (fun M2 h => ⟨rfl, M2, rfl, h⟩), ?_⟩
  · intro m hm
    rw [(h1.2 m hm).1]
    exact jm_st_rem hok (by omega)
  rintro _ ⟨M2, rfl, h2⟩
  have b2 : ∀ m, m < 360 → M2 35 m = jm_B (M 14) (M 12) n m := by
    intro m hm
    have h := (h2.2 m hm).1
    rw [(h1.2 m hm).1] at h
    exact h
  have c2 : ∀ m, m < 360 → M2 36 m = jm_ld (M 14) (jm_st (M 14) (M 12) m n) ∧ M2 37 m = jm_wg (M 14) (M 13) (jm_st (M 14) (M 12) m n) m := by
    intro m hm
    have h := (h2.2 m hm).2
    rw [(h1.2 m hm).1, s1, x1] at h
    exact h
  have g2 : jm_fg (M2 35) 360 = jm_GP (M 14) (M 12) n := jm_fg_cong (fun k hk => b2 k hk)
  refine rg_X1_reckon_32_10_10 ⟨fun σ' => ∃ M3, σ' = jm_s M3 L G ∧ jm_I5 M2 32 7 38 39 (jm_GP (M 14) (M 12) n) M3, ct_findGaps_32 ?_ (fun M3 h => ⟨rfl, M3, rfl, by rw [← g2]; exact h⟩), ?_⟩
  · intro m hm
    rw [jm_fg_cong (fun k hk => b2 k (by omega))]
    exact hc m hm
  rintro _ ⟨M3, rfl, h3⟩
  have c3 : M3 10 5 = M 10 5 := by
    rw [h3.1 10 (by decide) (by decide) (by decide), h2.1 10 (by decide) (by decide) (by decide), h1.1 10 (by decide) (by decide)]
  have k3 := (jm_fg_ok (jm_B (M 14) (M 12) n) 360 (Nat.le_refl _)).2
  have l3 : M3 36 = M2 36 := h3.1 _ (by decide) (by decide) (by decide)
  have w3 : M3 37 = M2 37 := h3.1 _ (by decide) (by decide) (by decide)
  have n44 : (jm_GP (M 14) (M 12) n).2.1 < 44 := hc 360 (Nat.le_refl _)
  refine rg_X1_reckon_32_10_14 ⟨fun σ' => ∃ M4, σ' = jm_s M4 L G ∧ jm_I6 M3 36 37 (jm_cg (M3 10 5) (M3 38) (M3 39) (M3 36) (M3 37) (jm_GP (M 14) (M 12) n).2.1) M4, ct_creditGaps_32 h3.2.1 (by omega) ?_ (fun M4 h => ⟨rfl, M4, rfl, h⟩), ?_⟩
  · intro g hg
    rw [(h3.2.2 g hg).1, (h3.2.2 g hg).2]
    exact k3 g hg
  rintro _ ⟨M4, rfl, h4⟩
  refine rg_X1_reckon_32_10_22 (hQ M4 ⟨fun q hq => ?_, fun m hm => ?_, ?_, fun g hg => ?_⟩)
  · rw [h4.1 q (by omega) (by omega), h3.1 q (by omega) (by omega) (by omega), h2.1 q (by omega) (by omega) (by omega), h1.1 q (by omega) (by omega)]
  · have e1 : M4 34 m = jm_cv (M 14) m n := by
      rw [h4.1 34 (by decide) (by decide), h3.1 34 (by decide) (by decide) (by decide), h2.1 34 (by decide) (by decide) (by decide)]
      exact (h1.2 m hm).2
    have e2 : M4 35 m = jm_B (M 14) (M 12) n m := by
      rw [h4.1 35 (by decide) (by decide), h3.1 35 (by decide) (by decide) (by decide)]
      exact b2 m hm
    have e3 := h4.2 m hm
    have e4 := jm_cg_cong (cr := M 10 5) (gf := M3 38) (gl := M3 39) (ld := M3 36) (wg := M3 37) (gf' := (jm_GP (M 14) (M 12) n).2.2.1) (gl' := (jm_GP (M 14) (M 12) n).2.2.2) (ld' := fun m => jm_ld (M 14) (jm_st (M 14) (M 12) m n)) (wg' := fun m => jm_wg (M 14) (M 13) (jm_st (M 14) (M 12) m n) m) (fun m hm => by rw [l3, w3]; exact c2 m hm) (c := (jm_GP (M 14) (M 12) n).2.1) (fun g hg => ⟨(h3.2.2 g hg).1, (h3.2.2 g hg).2, by
      obtain ⟨a, b, ha, hb, hab⟩ := k3 g hg
      rw [(h3.2.2 g hg).1]
      rw [show (jm_GP (M 14) (M 12) n).2.2.1 g = nI (a + 1) from ha, nI_clamp (by omega)]
      omega⟩) m hm
    rw [c3] at e3
    exact ⟨e1, e2, e3.1.trans e4.1, e3.2.trans e4.2⟩
  · rw [h4.1 32 (by decide) (by decide)]
    exact h3.2.1
  · have f1 : M4 38 = M3 38 := h4.1 _ (by decide) (by decide)
    have f2 : M4 39 = M3 39 := h4.1 _ (by decide) (by decide)
    have h := h3.2.2 g hg
    rw [← f1, ← f2] at h
    exact h
end Rck32_10
