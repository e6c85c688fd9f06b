/-! ===== GAPS (written by wip/gen/gen_months.py) ===== -/
/-- behind m MONTHS: the last COUNTED one, how many GAPS, where they begin, how long they are -/
def jm_fg (f : Nat → Int32) : Nat → Int32 × Nat × (Nat → Int32) × (Nat → Int32)
  | 0 => (-1, 0, fun _ => 0, fun _ => 0)
  | m + 1 => if f m = -1 then jm_fg f m else if (jm_fg f m).1 = -1 then (nI m, (jm_fg f m).2) else if nI m - (jm_fg f m).1 ≤ 1 then (nI m, (jm_fg f m).2) else (nI m, (jm_fg f m).2.1 + 1, upd (jm_fg f m).2.2.1 (jm_fg f m).2.1 ((jm_fg f m).1 + 1), upd (jm_fg f m).2.2.2 (jm_fg f m).2.1 (nI m - (jm_fg f m).1 - 1))
def jm_I5 (M : Nat → Nat → Int32) (p c a b : Nat) (r : Int32 × Nat × (Nat → Int32) × (Nat → Int32)) (M1 : Nat → Nat → Int32) : Prop := (∀ q, q ≠ p → q ≠ a → q ≠ b → M1 q = M q) ∧ M1 p c = nI r.2.1 ∧ ∀ g, g < r.2.1 → M1 a g = r.2.2.1 g ∧ M1 b g = r.2.2.2 g
theorem jm_I5_next {M M1 M2 : Nat → Nat → Int32} {p c a b : Nat} {r : Int32 × Nat × (Nat → Int32) × (Nat → Int32)} {x y z : Int32} (hpa : p ≠ a) (hpb : p ≠ b) (hab : a ≠ b) (h : jm_I5 M p c a b r M1) (e : M2 = wi_m (wi_m (wi_m M1 a r.2.1 x) b r.2.1 y) p c (nI (r.2.1 + 1))) : jm_I5 M p c a b (z, r.2.1 + 1, upd r.2.2.1 r.2.1 x, upd r.2.2.2 r.2.1 y) M2 := by
  subst e
  refine ⟨fun q h1 h2 h3 => ?_, ?_, fun g hg => ?_⟩
  · rw [← h.1 q h1 h2 h3]
    funext i
    rw [wi_m_eq, if_neg h1, wi_m_eq, if_neg h3, wi_m_eq, if_neg h2]
  · rw [wi_m_eq, if_pos rfl, if_pos rfl]
  · have hg2 : g < r.2.1 + 1 := hg
    rw [wi_m_eq, if_neg (Ne.symm hpa), wi_m_eq, if_neg hab, wi_m_eq, if_pos rfl, wi_m_eq, if_neg (Ne.symm hpb), wi_m_eq, if_pos rfl, wi_m_eq, if_neg (Ne.symm hab)]
    show _ = upd r.2.2.1 r.2.1 x g ∧ _ = upd r.2.2.2 r.2.1 y g
    by_cases hgr : g = r.2.1
    · subst hgr
      rw [if_pos rfl, if_pos rfl, pk_us, pk_us]
      exact ⟨rfl, rfl⟩
    · rw [if_neg hgr, if_neg hgr, pk_un hgr, pk_un hgr]
      exact h.2.2 g (by omega)
section Gap16
variable {X : Nat × (Nat → Int32)} {M : Nat → Nat → Int32} {L : Nat → Nat → Int64} {G : Nat → Nat → Option Nat} {Q : am_Q}
theorem ct_findGaps_16 (hc : ∀ m, m ≤ 360 → (jm_fg (M 19) m).2.1 < 44) (hQ : ∀ M', jm_I5 M 16 7 22 23 (jm_fg (M 19) 360) M' → Q (some none) (jm_s M' L G)) : am_T X 14 0 [some (.ref 16), none, none] [] (jm_s M L G) (0, 0) Q := by
  refine rg_X1_findGaps_16_0 ?_
  have l1 : ∀ j, j ≤ 360 → ∀ M1, jm_I5 M 16 7 22 23 (jm_fg (M 19) j) M1 → am_T X 14 9 [some (.ref 16), some (.int (jm_fg (M 19) j).1), some (.int (nI j))] [] (jm_s M1 L G) (0, 0) Q := by
    refine lp_dn 360 ?_ ?_
    · intro M1 hI
      exact rg_X1_findGaps_16_9 ⟨fun _ => hQ M1 hI, fun h => absurd jm_3e h⟩
    · intro j hj ih M1 hI
      have eB : M1 19 = M 19 := hI.1 19 (by decide) (by decide) (by decide)
      have h44 := hc j (by omega)
      refine rg_X1_findGaps_16_9 ⟨fun h => absurd h (jm_3 hj), fun _ => ⟨jm_in hj, ?_⟩⟩
      rw [jm_cl hj, eB, nI_1, hI.2.1, nI_clamp (show (jm_fg (M 19) j).2.1 < 2 ^ 31 by omega), nI_1]
      refine ⟨fun hne => ⟨fun ha => ?_, fun ha => ⟨fun hd => ?_, fun hd => ⟨fun h => absurd h (nI_ge h44 (by decide)), fun _ => ⟨vp_in_nI h44 (by decide), vp_in_nI h44 (by decide), ?_⟩⟩⟩⟩, fun he => ?_⟩
      · have e : jm_fg (M 19) (j + 1) = (nI j, (jm_fg (M 19) j).2) := by rw [jm_fg, if_neg hne, if_pos ha]
        rw [e] at ih
        exact ih M1 hI
      · have e : jm_fg (M 19) (j + 1) = (nI j, (jm_fg (M 19) j).2) := by rw [jm_fg, if_neg hne, if_neg ha, if_pos hd]
        rw [e] at ih
        exact ih M1 hI
      · have e : jm_fg (M 19) (j + 1) = (nI j, (jm_fg (M 19) j).2.1 + 1, upd (jm_fg (M 19) j).2.2.1 (jm_fg (M 19) j).2.1 ((jm_fg (M 19) j).1 + 1), upd (jm_fg (M 19) j).2.2.2 (jm_fg (M 19) j).2.1 (nI j - (jm_fg (M 19) j).1 - 1)) := by rw [jm_fg, if_neg hne, if_neg ha, if_neg hd]
        rw [e] at ih
        exact ih _ (jm_I5_next (by decide) (by decide) (by decide) hI rfl)
      · have e : jm_fg (M 19) (j + 1) = jm_fg (M 19) j := by rw [jm_fg, if_pos he]
        rw [e] at ih
        exact ih M1 hI
  refine l1 0 (Nat.zero_le _) _ ⟨fun q h1 h2 h3 => ?_, ?_, fun g hg => absurd hg (Nat.not_lt_zero g)⟩
  · funext i
    rw [wi_m_eq, if_neg h1]
  · rw [wi_m_eq, if_pos rfl, if_pos rfl]
    rfl
end Gap16
section Gap32
variable {X : Nat × (Nat → Int32)} {M : Nat → Nat → Int32} {L : Nat → Nat → Int64} {G : Nat → Nat → Option Nat} {Q : am_Q}
theorem ct_findGaps_32 (hc : ∀ m, m ≤ 360 → (jm_fg (M 35) m).2.1 < 44) (hQ : ∀ M', jm_I5 M 32 7 38 39 (jm_fg (M 35) 360) M' → Q (some none) (jm_s M' L G)) : am_T X 14 0 [some (.ref 32), none, none] [] (jm_s M L G) (0, 0) Q := by
  refine rg_X1_findGaps_32_0 ?_
  have l1 : ∀ j, j ≤ 360 → ∀ M1, jm_I5 M 32 7 38 39 (jm_fg (M 35) j) M1 → am_T X 14 9 [some (.ref 32), some (.int (jm_fg (M 35) j).1), some (.int (nI j))] [] (jm_s M1 L G) (0, 0) Q := by
    refine lp_dn 360 ?_ ?_
    · intro M1 hI
      exact rg_X1_findGaps_32_9 ⟨fun _ => hQ M1 hI, fun h => absurd jm_3e h⟩
    · intro j hj ih M1 hI
      have eB : M1 35 = M 35 := hI.1 35 (by decide) (by decide) (by decide)
      have h44 := hc j (by omega)
      refine rg_X1_findGaps_32_9 ⟨fun h => absurd h (jm_3 hj), fun _ => ⟨jm_in hj, ?_⟩⟩
      rw [jm_cl hj, eB, nI_1, hI.2.1, nI_clamp (show (jm_fg (M 35) j).2.1 < 2 ^ 31 by omega), nI_1]
      refine ⟨fun hne => ⟨fun ha => ?_, fun ha => ⟨fun hd => ?_, fun hd => ⟨fun h => absurd h (nI_ge h44 (by decide)), fun _ => ⟨vp_in_nI h44 (by decide), vp_in_nI h44 (by decide), ?_⟩⟩⟩⟩, fun he => ?_⟩
      · have e : jm_fg (M 35) (j + 1) = (nI j, (jm_fg (M 35) j).2) := by rw [jm_fg, if_neg hne, if_pos ha]
        rw [e] at ih
        exact ih M1 hI
      · have e : jm_fg (M 35) (j + 1) = (nI j, (jm_fg (M 35) j).2) := by rw [jm_fg, if_neg hne, if_neg ha, if_pos hd]
        rw [e] at ih
        exact ih M1 hI
      · have e : jm_fg (M 35) (j + 1) = (nI j, (jm_fg (M 35) j).2.1 + 1, upd (jm_fg (M 35) j).2.2.1 (jm_fg (M 35) j).2.1 ((jm_fg (M 35) j).1 + 1), upd (jm_fg (M 35) j).2.2.2 (jm_fg (M 35) j).2.1 (nI j - (jm_fg (M 35) j).1 - 1)) := by rw [jm_fg, if_neg hne, if_neg ha, if_neg hd]
        rw [e] at ih
        exact ih _ (jm_I5_next (by decide) (by decide) (by decide) hI rfl)
      · have e : jm_fg (M 35) (j + 1) = jm_fg (M 35) j := by rw [jm_fg, if_pos he]
        rw [e] at ih
        exact ih M1 hI
  refine l1 0 (Nat.zero_le _) _ ⟨fun q h1 h2 h3 => ?_, ?_, fun g hg => absurd hg (Nat.not_lt_zero g)⟩
  · funext i
    rw [wi_m_eq, if_neg h1]
  · rw [wi_m_eq, if_pos rfl, if_pos rfl]
    rfl
end Gap32
