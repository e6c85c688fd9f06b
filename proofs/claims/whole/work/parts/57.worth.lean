/-! ===== pairs: worth (written by wip/gen/gen_worth.py) ===== -/
def jg_l (w : Nat → Int32) (t : Int32) : Nat → Int32
  | 0 => -1
  | k + 1 => if (t >>> (nI k &&& 31)) &&& 1 = 0 then (if jg_l w t k = -1 then nI k else if w k ≤ w (jg_l w t k).toNatClampNeg then jg_l w t k else nI k) else jg_l w t k
theorem jg_l_ok (w : Nat → Int32) (t : Int32) : ∀ k, jg_l w t k = -1 ∨ ∃ c, c < k ∧ jg_l w t k = nI c
  | 0 => Or.inl rfl
  | k + 1 => by
    have ih : jg_l w t k = -1 ∨ ∃ c, c < k + 1 ∧ jg_l w t k = nI c := by
      rcases jg_l_ok w t k with h | ⟨c, hc, h⟩
      · exact Or.inl h
      · exact Or.inr ⟨c, by omega, h⟩
    have i2 : nI k = -1 ∨ ∃ c, c < k + 1 ∧ nI k = nI c := Or.inr ⟨k, by omega, rfl⟩
    unfold jg_l
    split
    · split
      · exact i2
      · split
        · exact ih
        · exact i2
    · exact ih
def jg_t (w : Nat → Int32) (n : Nat) : Nat → Int32
  | 0 => 0
  | i + 1 => jg_t w n i ||| ((1 : Int32) <<< (jg_l w (jg_t w n i) n &&& 31))
def jg_r (w : Nat → Int32) (n : Nat) : Nat → List Int64
  | 0 => []
  | i + 1 => jg_r w n i ++ [(jg_l w (jg_t w n i) n).toInt64]
theorem jg_r_len (w : Nat → Int32) (n : Nat) : ∀ i, (jg_r w n i).length = i
  | 0 => rfl
  | i + 1 => by
    show (jg_r w n i ++ [(jg_l w (jg_t w n i) n).toInt64]).length = i + 1
    rw [List.length_append, jg_r_len w n i]
    rfl
section Worth
variable {X : Nat × (Nat → Int32)} {M : Nat → Nat → Int32} {L : Nat → Nat → Int64} {G : Nat → Nat → Option Nat} {Q : am_Q} {s : jS} {a : jA}
theorem ct_greatestLoss (hS : jh M 5 s) (hn : jn s ≤ 20) {w : Nat → Int32} (hw : ∀ k, k < jn s → M 100 k = w k) {t : Int32} (hQ : Q (some (some (.int (jg_l w t (jn s))))) (jm_s M L G)) : am_T X 112 0 [some (.ref 0), some (.int t), none, none] [] (jm_s M L G) (0, 0) Q := by
  refine rg_X5_greatestLoss_0_0 ?_
  refine lp_dn (P := fun k => am_T X 112 4 [some (.ref 0), some (.int t), some (.int (jg_l w t k)), some (.int (nI k))] [] (jm_s M L G) (0, 0) Q) (jn s) ?_ ?_ 0 (Nat.zero_le _)
  · refine rn_X5_greatestLoss_0_4 ⟨fun _ => hQ, fun h => absurd ?_ h⟩
    rw [hS.1]
    exact nI_le (Nat.le_refl _) (by omega)
  · intro k hk ih
    unfold jg_l at ih
    refine rn_X5_greatestLoss_0_4 ⟨fun h => absurd h ?_, fun _ => ?_⟩
    · rw [hS.1]
      exact nI_ge hk (by omega)
    rw [nI_1, nI_clamp (show k < 2147483648 by omega), hw k hk]
    refine ⟨fun h1 => ⟨fun h2 => ?_, fun h2 => ⟨vp_in_nI (by omega) (by decide), ?_⟩⟩, fun h1 => ?_⟩
    · rw [if_pos h1, if_pos h2] at ih
      exact ih
    · rw [if_pos h1, if_neg h2] at ih
      rcases jg_l_ok w t k with e | ⟨c, hc, e⟩
      · exact absurd e h2
      · rw [e, nI_clamp (by omega)] at ih ⊢
        rw [hw c (by omega)]
        refine ⟨vp_in_nI (by omega) (by decide), fun h3 => ?_, fun h3 => ?_⟩
        · rw [if_pos h3] at ih
          exact ih
        · rw [if_neg h3] at ih
          exact ih
    · rw [if_neg h1] at ih
      exact ih
theorem pp_worth (hA : jAw a) (hC : jC M L G a) (hR : jRR M L a) : jpp X (jm_s M L G) 82 [some (.ref 0), none, none, none] 197 [some (.ref 101), none, none, none, none, none] := by
  have hn := hA.1.1
  have hw44 := jw_44 hA.1
  have hS := hC.1.1.1
  refine pp_wb (v := nI (jn (ja_s a))) (l := jg_r (fun k => jc_all (ja_s a) - jc_all (js_drop (ja_s a) k)) (jn (ja_s a)) (jn (ja_s a))) (by rw [jg_r_len]; omega) hA hC hR (fun Q hQ => ?_) (fun M1 L1 hR1 Q hQ => ?_)
  · refine rg_X5_worth_0_0 ?_
    refine lp_dn (P := fun k => ∀ M1, (∀ q, q < 10 ∨ (14 < q ∧ q < 31) ∨ (46 < q ∧ q ≠ 100) → M1 q = M q) → (∀ j, j < k → M1 100 j = jc_all (ja_s a) - jc_all (js_drop (ja_s a) j)) → am_T X 82 2 [some (.ref 0), some (.int (nI k)), none, none] [] (jm_s M1 L G) (0, 0) Q) (jn (ja_s a)) ?_ ?_ 0 (Nat.zero_le _) M (fun _ _ => rfl) (fun j h => absurd h (Nat.not_lt_zero j))
    · intro M1 f1 f2
      have h1 : jh M1 5 (ja_s a) := jh_f hS (fun q q1 q2 => f1 q (by omega))
      refine rn_X5_worth_0_2 ⟨fun _ => cl_v (ct_clear ⟨rfl, rg_X5_worth_0_78 ?_⟩), fun h => absurd ?_ h⟩
      · have hQ := hQ M1 f1
        refine lp_dn (P := fun i => am_T X 82 82 [some (.ref 0), some (.int (jg_t (fun k => jc_all (ja_s a) - jc_all (js_drop (ja_s a) k)) (jn (ja_s a)) i)), some (.int (nI i)), none] [] (jm_s (wi_m M1 3 1 (nI (jg_r (fun k => jc_all (ja_s a) - jc_all (js_drop (ja_s a) k)) (jn (ja_s a)) i).length)) (wls L 4 0 (jg_r (fun k => jc_all (ja_s a) - jc_all (js_drop (ja_s a) k)) (jn (ja_s a)) i)) G) (0, 0) Q) (jn (ja_s a)) ?_ ?_ 0 (Nat.zero_le _)
        · refine rn_X5_worth_0_82 ⟨fun _ => ?_, fun h => absurd ?_ h⟩
          · rw [wi_m_p _ _ (show 5 ≠ 3 by decide), h1.1]
            exact hQ
          · rw [wi_m_p _ _ (show 5 ≠ 3 by decide), h1.1]
            exact nI_le (Nat.le_refl _) (by omega)
        · intro i hi ih
          refine rn_X5_worth_0_82 ⟨fun h => absurd h ?_, fun _ => ?_⟩
          · rw [wi_m_p _ _ (show 5 ≠ 3 by decide), h1.1]
            exact nI_ge hi (by omega)
          refine cl_i (fun _ h => ct_greatestLoss (s := ja_s a) (jh_f h1 (fun q q1 q2 => wi_m_p _ _ (by omega))) hn (w := fun k => jc_all (ja_s a) - jc_all (js_drop (ja_s a) k)) (fun j hj => by rw [wi_m_p _ _ (show 100 ≠ 3 by decide)]; exact f2 j hj) h) (rg_X5_worth_0_98 (cl_v (ct_tell (by rw [jg_r_len]; omega) ⟨rfl, rg_X5_worth_0_114 ?_⟩)))
          rw [nI_1]
          exact ih
      · rw [h1.1]
        exact nI_le (Nat.le_refl _) (by omega)
    · intro k hk ih M1 f1 f2
      have h1 : jh M1 5 (ja_s a) := jh_f hS (fun q q1 q2 => f1 q (by omega))
      have hk1 : jk M1 15 (ja_s a) := jk_f hC.1.1.2 (fun q q1 q2 => f1 q (by omega))
      have ej : jo_drop (ja_s a) (nI k) = (nI (jn (ja_s a) - 1), js_drop (ja_s a) k) := by
        unfold jo_drop
        rw [if_pos ⟨nI_pos' (by omega), nI_lt hk (by omega)⟩, nI_clamp (by omega)]
      refine rn_X5_worth_0_2 ⟨fun h => absurd h ?_, fun _ => cl_v (ct_copy_10_5 h1 hn (fun M2 g2 h2 => ⟨rfl, rg_X5_worth_0_24 (cl_w (ct_drop h2 (by omega) (fun M3 g3 h3 => ⟨_, rfl, rg_X5_worth_0_32 ?_⟩)))⟩))⟩
      · rw [h1.1]
        exact nI_ge hk (by omega)
      rw [ej] at h3
      have h3' : jh M3 10 (js_drop (ja_s a) k) := h3
      refine cl_v (ct_reckon_31_10 h3' (jw_44 (jw_drop hA.1 hk)) (fun M4 g4 h4 => ⟨rfl, rn_X5_worth_0_44 ⟨vp_in_nI (by omega) (by decide), ?_⟩⟩))
      have e1 : M4 15 12 = jc_all (ja_s a) := by
        rw [g4 15 (by decide), g3 15 (by decide), g2 15 (by decide)]
        exact hk1.2.1.2.2.2.2
      have e2 : M4 31 12 = jc_all (js_drop (ja_s a) k) := h4.2.1.2.2.2.2
      rw [nI_clamp (show k < 2147483648 by omega), nI_1, e1, e2]
      refine ih _ (fun q hq => ?_) (fun j hj => ?_)
      · rw [wi_m_p _ _ (by omega), g4 q (by omega), g3 q (by omega), g2 q (by omega), f1 q hq]
      · rw [wi_m_eq, if_pos rfl]
        by_cases e : j = k
        · rw [if_pos e, e]
        · rw [if_neg e, g4 100 (by decide), g3 100 (by decide), g2 100 (by decide), f2 j (by omega)]
  · have hR0 : jR ((wi_m M1 101 5 0) 102) (ja_s a) := hR1.1.1
    refine rg_X6_worth_101_0 (cl_v (ct_layAside hR0 hw44 (fun M2 f1 f2 h22 h13 ht hL => ⟨rfl, rn_X6_worth_101_9 ?_⟩)))
    have e0 : M2 102 0 = nI (jn (ja_s a)) := by
      rw [f1 102 (by decide) (by decide)]
      exact hR0.1
    rw [e0]
    refine lp_dn (P := fun k => ∀ M3, (∀ q, q ≠ 101 → q ≠ 102 → q < 106 ∨ (112 < q ∧ q ≠ 117) → M3 q = M2 q) → (∀ i, i ≠ 15 → M3 101 i = M2 101 i) → jR (M3 102) (ja_s a) → (∀ j, j < k → M3 117 j = jc_all (ja_s a) - jc_all (js_drop (ja_s a) j)) → am_T X 197 18 [some (.ref 101), some (.int (nI (jn (ja_s a)))), some (.int (nI k)), none, none, none] [] (jm_s M3 L1 G) (0, 0) Q) (jn (ja_s a)) ?_ ?_ 0 (Nat.zero_le _) M2 (fun _ _ _ _ => rfl) (fun _ _ => rfl) (by rw [f1 102 (by decide) (by decide)]; exact hR0) (fun j h => absurd h (Nat.not_lt_zero j))
    · intro M3 g1 g2 g3 g4
      refine rn_X6_worth_101_18 ⟨fun _ => ?_, fun h => absurd (nI_le (Nat.le_refl _) (by omega)) h⟩
      have hQ := hQ (wi_m M3 101 4 (nI (jg_r (fun k => jc_all (ja_s a) - jc_all (js_drop (ja_s a) k)) (jn (ja_s a)) (jn (ja_s a))).length)) (fun q hq => by rw [wi_m_p _ _ (by omega), g1 q (by omega) (by omega) (by omega), f1 q (by omega) (by omega), wi_m_p _ _ (by omega)]) (jRR_wb hR1 (fun q q1 q2 q3 => by rw [wi_m_p _ _ q1, g1 q q1 q2 (by omega), f1 q q1 (by omega), wi_m_p _ _ q1]) (fun i q1 q2 q3 q4 _ => by rw [wi_m_eq, if_pos rfl, if_neg q1, g2 i q3, f2 i q3 q4, wi_m_eq, if_pos rfl, if_neg q2]) (wi_m_i _ _ _ _) (by rw [wi_m_p _ _ (show 102 ≠ 101 by decide)]; exact g3))
      refine lp_dn (P := fun i => am_T X 197 62 [some (.ref 101), some (.int (nI (jn (ja_s a)))), some (.int (jg_t (fun k => jc_all (ja_s a) - jc_all (js_drop (ja_s a) k)) (jn (ja_s a)) i)), some (.int (nI i)), none, none] [] (jm_s (wi_m M3 101 4 (nI (jg_r (fun k => jc_all (ja_s a) - jc_all (js_drop (ja_s a) k)) (jn (ja_s a)) i).length)) (wls L1 104 0 (jg_r (fun k => jc_all (ja_s a) - jc_all (js_drop (ja_s a) k)) (jn (ja_s a)) i)) G) (0, 0) Q) (jn (ja_s a)) ?_ ?_ 0 (Nat.zero_le _)
      · exact rn_X6_worth_101_62 ⟨fun _ => hQ, fun h => absurd (nI_le (Nat.le_refl _) (by omega)) h⟩
      · intro i hi ih
        refine rn_X6_worth_101_62 ⟨fun h => absurd h (nI_ge hi (by omega)), fun _ => ?_⟩
        refine lp_dn (P := fun k => am_T X 197 73 [some (.ref 101), some (.int (nI (jn (ja_s a)))), some (.int (jg_t (fun k => jc_all (ja_s a) - jc_all (js_drop (ja_s a) k)) (jn (ja_s a)) i)), some (.int (nI i)), some (.int (jg_l (fun k => jc_all (ja_s a) - jc_all (js_drop (ja_s a) k)) (jg_t (fun k => jc_all (ja_s a) - jc_all (js_drop (ja_s a) k)) (jn (ja_s a)) i) k)), some (.int (nI k))] [] (jm_s (wi_m M3 101 4 (nI (jg_r (fun k => jc_all (ja_s a) - jc_all (js_drop (ja_s a) k)) (jn (ja_s a)) i).length)) (wls L1 104 0 (jg_r (fun k => jc_all (ja_s a) - jc_all (js_drop (ja_s a) k)) (jn (ja_s a)) i)) G) (0, 0) Q) (jn (ja_s a)) ?_ ?_ 0 (Nat.zero_le _)
        · refine rn_X6_worth_101_73 ⟨fun _ => cl_v (ct_rtell (by rw [jg_r_len]; omega) ⟨rfl, rg_X6_worth_101_135 ?_⟩), fun h => absurd (nI_le (Nat.le_refl _) (by omega)) h⟩
          rw [nI_1]
          exact ih
        · intro k hk ih2
          rw [jg_l] at ih2
          refine rn_X6_worth_101_73 ⟨fun h => absurd h (nI_ge hk (by omega)), fun _ => ?_⟩
          rw [nI_1 k, nI_clamp (show k < 2147483648 by omega), wi_m_p _ _ (show 117 ≠ 101 by decide), g4 k hk]
          refine ⟨fun h1 => ⟨fun h2 => ?_, fun h2 => ⟨vp_in_nI (by omega) (by decide), ?_⟩⟩, fun h1 => ?_⟩
          · rw [if_pos h1, if_pos h2] at ih2
            exact ih2
          · rw [if_pos h1, if_neg h2] at ih2
            rcases jg_l_ok (fun k => jc_all (ja_s a) - jc_all (js_drop (ja_s a) k)) (jg_t (fun k => jc_all (ja_s a) - jc_all (js_drop (ja_s a) k)) (jn (ja_s a)) i) k with e | ⟨c, hc, e⟩
            · exact absurd e h2
            · rw [e, nI_clamp (by omega)] at ih2 ⊢
              rw [g4 c (by omega)]
              refine ⟨vp_in_nI (by omega) (by decide), fun h3 => ?_, fun h3 => ?_⟩
              · rw [if_pos h3] at ih2
                exact ih2
              · rw [if_neg h3] at ih2
                exact ih2
          · rw [if_neg h1] at ih2
            exact ih2
    · intro k hk ih M3 g1 g2 g3 g4
      refine rn_X6_worth_101_18 ⟨fun h => absurd h (nI_ge hk (by omega)), fun _ => cl_v (ct_rdrop g3 (by omega) hk (fun M4 k1 k2 => ⟨rfl, rg_X6_worth_101_28 (cl_w (ct_allOf k2 (jw_44 (jw_drop hA.1 hk)) (fun M5 u1 u2 hL5 => ⟨_, rfl, rn_X6_worth_101_41 ⟨vp_in_nI (by omega) (by decide), ?_⟩⟩)))⟩))⟩
      have e22 : M4 101 22 = jc_all (ja_s a) := by
        rw [k1 101 (by decide), g2 22 (by decide), h22]
      rw [nI_clamp (show k < 2147483648 by omega), e22]
      refine cl_v (ct_comesBack (fun M6 v1 v2 => ⟨rfl, rg_X6_worth_101_47 ?_⟩))
      rw [nI_1]
      have E : ∀ q, q ≠ 101 → q ≠ 102 → q < 106 ∨ (112 < q ∧ q ≠ 117) → M6 q = M3 q := fun q q1 q2 q3 => by rw [v1 q q2, wi_m_p _ _ (by omega), u1 q q1 (by omega), k1 q q2]
      refine ih M6 (fun q q1 q2 q3 => by rw [E q q1 q2 q3, g1 q q1 q2 q3]) (fun i hi => by rw [v1 101 (by decide), wi_m_p _ _ (by decide), u2 i hi, k1 101 (by decide), g2 i hi]) ?_ (fun j hj => ?_)
      · have e113 : (wi_m M5 117 k (jc_all (ja_s a) - jc_all (js_drop (ja_s a) k))) 113 = M2 113 := by
          rw [wi_m_p _ _ (by decide), u1 113 (by decide) (by decide), k1 113 (by decide), g1 113 (by decide) (by decide) (by decide)]
        refine jR_f h13 (fun i hi => ?_) (by omega)
        rw [v2 i hi, e113]
      · rw [v1 117 (by decide), wi_m_eq, if_pos rfl]
        by_cases e : j = k
        · rw [if_pos e, e]
        · rw [if_neg e, u1 117 (by decide) (by decide), k1 117 (by decide), g4 j (by omega)]
end Worth
