/-! ===== pairs: what would be (written by wip/gen/gen_would.py) ===== -/
def jm_df (s s2 : jS) : Nat → Int32 × Int32 × Int32
  | 0 => (0, -1, -1)
  | m + 1 => if jc_ld s m = jc_ld s2 m ∧ jc_wg s m = jc_wg s2 m then jm_df s s2 m else ((jm_df s s2 m).1 + 1, (if (jm_df s s2 m).2.1 = -1 then nI m else (jm_df s s2 m).2.1), nI m)
def jm_dl (s s2 : jS) : List Int64 := [(jm_df s s2 360).1.toInt64, (jm_df s s2 360).2.1.toInt64, (jm_df s s2 360).2.2.toInt64]
theorem rp_X6_tellChanged_101_20s {X : Nat × (Nat → Int32)} {M : Nat → Nat → Int32} {L : Nat → Nat → Int64} {G : Nat → Nat → Option Nat} {Q : am_Q} {x1 : Int32} {x2 : Int32} {x3 : Int32} {x4 : Int32} {m : Nat} (hk : m < 360) (h : (((M 107 m) = (M 114 m) → (((M 108 m) = (M 115 m) → (((M 106 m) ≤ 0 → (((M 116 m) ≤ 0 → (am_T X 186 20 [some (.ref 101), some (.int x1), some (.int x2), some (.int x3), some (.int x4), some (.int (nI (m + 1)))] [] (jm_s M L G) (0, 0) Q)) ∧ (¬ (M 116 m) ≤ 0 → ((x3 = (-1) → (am_T X 186 20 [some (.ref 101), some (.int x1), some (.int (x2 + 1)), some (.int (nI m)), some (.int (nI m)), some (.int (nI (m + 1)))] [] (jm_s M L G) (0, 0) Q)) ∧ (¬ x3 = (-1) → (am_T X 186 20 [some (.ref 101), some (.int x1), some (.int (x2 + 1)), some (.int x3), some (.int (nI m)), some (.int (nI (m + 1)))] [] (jm_s M L G) (0, 0) Q)))))) ∧ (¬ (M 106 m) ≤ 0 → (((M 116 m) ≤ 0 → ((x3 = (-1) → (am_T X 186 20 [some (.ref 101), some (.int x1), some (.int (x2 + 1)), some (.int (nI m)), some (.int (nI m)), some (.int (nI (m + 1)))] [] (jm_s M L G) (0, 0) Q)) ∧ (¬ x3 = (-1) → (am_T X 186 20 [some (.ref 101), some (.int x1), some (.int (x2 + 1)), some (.int x3), some (.int (nI m)), some (.int (nI (m + 1)))] [] (jm_s M L G) (0, 0) Q)))) ∧ (¬ (M 116 m) ≤ 0 → (am_T X 186 20 [some (.ref 101), some (.int x1), some (.int x2), some (.int x3), some (.int x4), some (.int (nI (m + 1)))] [] (jm_s M L G) (0, 0) Q)))))) ∧ (¬ (M 108 m) = (M 115 m) → ((x3 = (-1) → (am_T X 186 20 [some (.ref 101), some (.int x1), some (.int (x2 + 1)), some (.int (nI m)), some (.int (nI m)), some (.int (nI (m + 1)))] [] (jm_s M L G) (0, 0) Q)) ∧ (¬ x3 = (-1) → (am_T X 186 20 [some (.ref 101), some (.int x1), some (.int (x2 + 1)), some (.int x3), some (.int (nI m)), some (.int (nI (m + 1)))] [] (jm_s M L G) (0, 0) Q)))))) ∧ (¬ (M 107 m) = (M 114 m) → ((x3 = (-1) → (am_T X 186 20 [some (.ref 101), some (.int x1), some (.int (x2 + 1)), some (.int (nI m)), some (.int (nI m)), some (.int (nI (m + 1)))] [] (jm_s M L G) (0, 0) Q)) ∧ (¬ x3 = (-1) → (am_T X 186 20 [some (.ref 101), some (.int x1), some (.int (x2 + 1)), some (.int x3), some (.int (nI m)), some (.int (nI (m + 1)))] [] (jm_s M L G) (0, 0) Q)))))) : am_T X 186 20 [some (.ref 101), some (.int x1), some (.int x2), some (.int x3), some (.int x4), some (.int (nI m))] [] (jm_s M L G) (0, 0) Q := rg_X6_tellChanged_101_20 (by
  rw [nI_clamp (show m < 2147483648 by omega), nI_1 m]
  exact ⟨fun e => absurd e (nI_ge hk (by decide)), fun _ => ⟨(vp_in_nI hk (by decide)), ⟨(vp_in_nI hk (by decide)), ⟨fun e1 => ⟨fun e2 => ((h.2 e1).2 e2), fun e2 => ((h.2 e1).1 e2)⟩, fun e1 => ⟨(vp_in_nI hk (by decide)), ⟨(vp_in_nI hk (by decide)), ⟨fun e2 => ⟨fun e3 => (((h.1 e1).2 e2).2 e3), fun e3 => (((h.1 e1).2 e2).1 e3)⟩, fun e2 => ⟨(vp_in_nI hk (by decide)), ⟨fun e3 => ⟨(vp_in_nI hk (by decide)), ⟨fun e4 => ⟨fun e => absurd rfl e, fun _ => ((((h.1 e1).1 e2).1 e3).1 e4)⟩, fun e4 => ⟨fun _ => ⟨fun e5 => (((((h.1 e1).1 e2).1 e3).2 e4).2 e5), fun e5 => (((((h.1 e1).1 e2).1 e3).2 e4).1 e5)⟩, fun e => absurd e (by decide)⟩⟩⟩, fun e3 => ⟨(vp_in_nI hk (by decide)), ⟨fun e4 => ⟨fun _ => ⟨fun e5 => (((((h.1 e1).1 e2).2 e3).1 e4).2 e5), fun e5 => (((((h.1 e1).1 e2).2 e3).1 e4).1 e5)⟩, fun e => absurd e (by decide)⟩, fun e4 => ⟨fun e => absurd rfl e, fun _ => ((((h.1 e1).1 e2).2 e3).2 e4)⟩⟩⟩⟩⟩⟩⟩⟩⟩⟩⟩⟩)
theorem rp_X6_tellChanged_101_20e {X : Nat × (Nat → Int32)} {M : Nat → Nat → Int32} {L : Nat → Nat → Int64} {G : Nat → Nat → Option Nat} {Q : am_Q} {x1 : Int32} {x2 : Int32} {x3 : Int32} {x4 : Int32}  (h : ∃ K : am_S → Prop, am_T X 185 0 [some (.ref 101), none] [] (jm_s M L G) (0, 0) (am_qv K) ∧ ∀ σ', K σ' → am_T X 186 123 [some (.ref 101), some (.int x1), some (.int x2), some (.int x3), some (.int x4), none] [] σ' (0, 0) Q) : am_T X 186 20 [some (.ref 101), some (.int x1), some (.int x2), some (.int x3), some (.int x4), some (.int (nI 360))] [] (jm_s M L G) (0, 0) Q := rg_X6_tellChanged_101_20 (by
  rw [nI_clamp (show 360 < 2147483648 by omega), nI_1 360]
  exact ⟨fun _ => h, fun e => absurd (nI_le (Nat.le_refl 360) (by decide)) e⟩)
section Would
variable {X : Nat × (Nat → Int32)} {M : Nat → Nat → Int32} {L : Nat → Nat → Int64} {G : Nat → Nat → Option Nat} {Q : am_Q} {s : jS} {a : jA}
theorem ct_isLike {m : Nat} (hm : m < 360) (hQ : Q (some (some (.int (jb (decide (M 20 m = M 36 m ∧ M 21 m = M 37 m)))))) (jm_s M L G)) : am_T X 17 0 [some (.ref 16), some (.ref 32), some (.int (nI m))] [] (jm_s M L G) (0, 0) Q := by
  refine rn_X1_isLike_16_32_0 ⟨jm_in hm, ?_⟩
  rw [jm_cl hm]
  refine ⟨fun h1 => ⟨fun h2 => ?_, fun h2 => ?_⟩, fun h1 => ?_⟩
  · rw [jb_y (decide_eq_true ⟨h1, h2⟩)] at hQ
    exact hQ
  · rw [jb_n (decide_eq_false (fun e => h2 e.2))] at hQ
    exact hQ
  · rw [jb_n (decide_eq_false (fun e => h1 e.1))] at hQ
    exact hQ
theorem ct_tellTrial {s2 : jS} (hk : jk M 15 s) (hS : jh M 10 s2) (hw : jw s2 44) (hQ : ∀ M1, (∀ q, q < 31 ∨ 46 < q → M1 q = M q) → Q (some (some (.int (100000 + jc_all s2 - jc_all s)))) (jm_s (wi_m M1 3 1 (nI (jm_dl s s2).length)) (wls L 4 0 (jm_dl s s2)) G)) : am_T X 111 0 [some (.ref 0), none, none, none, none] [] (jm_s M L G) (0, 0) Q := by
  refine rg_X5_tellTrial_0_0 (cl_v (ct_reckon_31_10 hS hw (fun M1 f1 h2 => ⟨rfl, rg_X5_tellTrial_0_11 ?_⟩)))
  have h1 : jk M1 15 s := jk_f hk (fun q h1 h2 => f1 q (by omega))
  have hQ := hQ M1 f1
  have ea : M1 31 12 = jc_all s2 := h2.2.1.2.2.2.2
  have eb : M1 15 12 = jc_all s := h1.2.1.2.2.2.2
  refine lp_dn (P := fun m => am_T X 111 20 [some (.ref 0), some (.int (jm_df s s2 m).1), some (.int (jm_df s s2 m).2.1), some (.int (jm_df s s2 m).2.2), some (.int (nI m))] [] (jm_s M1 L G) (0, 0) Q) 360 ?_ ?_ 0 (by decide)
  · rw [← ea, ← eb] at hQ
    exact rn_X5_tellTrial_0_20 ⟨fun _ => cl_v (ct_clear ⟨rfl, rg_X5_tellTrial_0_84 (cl_v (ct_tell (l := []) (Nat.le_of_ble_eq_true rfl) ⟨rfl, rg_X5_tellTrial_0_93 (cl_v (ct_tell (l := [_]) (Nat.le_of_ble_eq_true rfl) ⟨rfl, rg_X5_tellTrial_0_102 (cl_v (ct_tell (l := [_, _]) (Nat.le_of_ble_eq_true rfl) ⟨rfl, rg_X5_tellTrial_0_111 hQ⟩))⟩))⟩))⟩), fun h => absurd jm_3e h⟩
  · intro m hm ih
    refine rn_X5_tellTrial_0_20 ⟨fun h => absurd h (jm_3 hm), fun _ => cl_i (fun _ h => ct_isLike hm h) (rn_X5_tellTrial_0_47 ?_)⟩
    rw [show M1 20 m = _ from (h1.1.1 m hm).2.2.1, show M1 36 m = _ from (h2.1.1 m hm).2.2.1, show M1 21 m = _ from (h1.1.1 m hm).2.2.2, show M1 37 m = _ from (h2.1.1 m hm).2.2.2, nI_1]
    rw [jm_df] at ih
    by_cases hd : jc_ld s m = jc_ld s2 m ∧ jc_wg s m = jc_wg s2 m
    · rw [jb_y (decide_eq_true hd)]
      rw [if_pos hd] at ih
      exact ⟨fun e => absurd e (by decide), fun _ => ih⟩
    · rw [jb_n (decide_eq_false hd)]
      rw [if_neg hd] at ih
      refine ⟨fun _ => ⟨fun h => ?_, fun h => ?_⟩, fun e => absurd rfl e⟩
      · rw [if_pos h] at ih
        exact ih
      · rw [if_neg h] at ih
        exact ih
theorem ct_tellChanged {s2 : jS} (hw : jw s 44) (hR2 : jR (M 102) s2) (hw2 : jw s2 44) (h22 : M 101 22 = jc_all s) (h13 : jR (M 113) s) (ht : ∀ m, m < 360 → M 114 m = jc_ld s m ∧ M 115 m = jc_wg s m ∧ M 116 m = jc_so s m) (hQ : ∀ M2, (∀ q, q ≠ 101 → q ≠ 102 → q < 106 ∨ 112 < q → M2 q = M q) → (∀ i, i ≠ 4 → i ≠ 15 → M2 101 i = M 101 i) → M2 101 4 = nI (jm_dl s s2).length → jR (M2 102) s → Q (some (some (.int (100000 + jc_all s2 - jc_all s)))) (jm_s M2 (wls L 104 0 (jm_dl s s2)) G)) : am_T X 186 0 [some (.ref 101), none, none, none, none, none] [] (jm_s M L G) (0, 0) Q := by
  refine rg_X6_tellChanged_101_0 (cl_w (ct_allOf hR2 hw2 (fun M1 f1 f2 hL => ⟨_, rfl, rg_X6_tellChanged_101_4 ?_⟩)))
  rw [f2 22 (by decide), h22]
  have e14 : M1 114 = M 114 := f1 114 (by decide) (by decide)
  have e15 : M1 115 = M 115 := f1 115 (by decide) (by decide)
  have e16 : M1 116 = M 116 := f1 116 (by decide) (by decide)
  have e13 : M1 113 = M 113 := f1 113 (by decide) (by decide)
  refine lp_dn (P := fun m => am_T X 186 20 [some (.ref 101), some (.int (jc_all s2 - jc_all s)), some (.int (jm_df s s2 m).1), some (.int (jm_df s s2 m).2.1), some (.int (jm_df s s2 m).2.2), some (.int (nI m))] [] (jm_s M1 L G) (0, 0) Q) 360 ?_ ?_ 0 (by decide)
  · refine rp_X6_tellChanged_101_20e (cl_v (ct_comesBack (fun M2 g1 g2 => ⟨rfl, ?_⟩)))
    have ev : (100000 : Int32) + jc_all s2 - jc_all s = 100000 + (jc_all s2 - jc_all s) := by
      rw [Int32.sub_eq_add_neg, Int32.sub_eq_add_neg, Int32.add_assoc]
    have hQ := hQ (wi_m M2 101 4 (nI (jm_dl s s2).length)) (fun q h1 h2 h3 => by rw [wi_m_p _ _ h1, g1 q h2, f1 q h1 h3]) (fun i h1 h2 => by rw [wi_m_eq, if_pos rfl, if_neg h1, g1 101 (by decide), f2 i h2]) (wi_m_i _ _ _ _) (by
      rw [wi_m_p _ _ (show 102 ≠ 101 by decide)]
      exact jR_f h13 (fun i hi => by rw [g2 i hi, e13]) hw.1)
    rw [ev] at hQ
    exact rg_X6_tellChanged_101_123 (cl_v (ct_rtell (l := []) (Nat.le_of_ble_eq_true rfl) ⟨rfl, rg_X6_tellChanged_101_134 (cl_v (ct_rtell (l := [_]) (Nat.le_of_ble_eq_true rfl) ⟨rfl, rg_X6_tellChanged_101_140 (cl_v (ct_rtell (l := [_, _]) (Nat.le_of_ble_eq_true rfl) ⟨rfl, rg_X6_tellChanged_101_147 hQ⟩))⟩))⟩))
  · intro m hm ih
    rw [jm_df] at ih
    have z1 := jc_so_0 hw (by decide) hm
    have z2 := jc_so_0 hw2 (by decide) hm
    refine rp_X6_tellChanged_101_20s hm ?_
    rw [(hL.1 m hm).2.1, (hL.1 m hm).2.2.1, (hL.1 m hm).1, e14, e15, e16, (ht m hm).1, (ht m hm).2.1, (ht m hm).2.2]
    have no : ¬ (jc_ld s m = jc_ld s2 m ∧ jc_wg s m = jc_wg s2 m) → (((jm_df s s2 m).2.1 = (-1) → (am_T X 186 20 [some (.ref 101), some (.int (jc_all s2 - jc_all s)), some (.int ((jm_df s s2 m).1 + 1)), some (.int (nI m)), some (.int (nI m)), some (.int (nI (m + 1)))] [] (jm_s M1 L G) (0, 0) Q)) ∧ (¬ (jm_df s s2 m).2.1 = (-1) → (am_T X 186 20 [some (.ref 101), some (.int (jc_all s2 - jc_all s)), some (.int ((jm_df s s2 m).1 + 1)), some (.int (jm_df s s2 m).2.1), some (.int (nI m)), some (.int (nI (m + 1)))] [] (jm_s M1 L G) (0, 0) Q))) := by
      intro hd
      rw [if_neg hd] at ih
      refine ⟨fun h => ?_, fun h => ?_⟩
      · rw [if_pos h] at ih
        exact ih
      · rw [if_neg h] at ih
        exact ih
    refine ⟨fun h1 => ⟨fun h2 => ⟨fun h3 => ⟨fun h4 => ?_, fun h4 => ?_⟩, fun h3 => ⟨fun h4 => ?_, fun h4 => ?_⟩⟩, fun h2 => no (fun e => h2 e.2.symm)⟩, fun h1 => no (fun e => h1 e.1.symm)⟩
    · rw [if_pos ⟨h1.symm, h2.symm⟩] at ih
      exact ih
    · exact absurd (z1.mpr (h1.symm.trans (z2.mp h3))) h4
    · exact absurd (z2.mpr (h1.trans (z1.mp h4))) h3
    · rw [if_pos ⟨h1.symm, h2.symm⟩] at ih
      exact ih
/-- a pair of what would be -/
theorem pp_wb {y z : Nat} {lo lp : am_L} {v : Int32} {l : List Int64} (hl : l.length ≤ 120) (hA : jAw a) (hC : jC M L G a) (hR : jRR M L a) (c : ∀ Q : am_Q, (∀ M1, (∀ q, q < 10 ∨ (14 < q ∧ q < 31) ∨ (46 < q ∧ q ≠ 100) → M1 q = M q) → Q (some (some (.int v))) (jm_s (wi_m M1 3 1 (nI l.length)) (wls L 4 0 l) G)) → am_T X y 0 lo [] (jm_s M L G) (0, 0) Q) (rr : ∀ M1 L1, jRR M1 L1 a → ∀ Q : am_Q, (∀ M2, (∀ q, q < 101 → M2 q = M1 q) → jRR M2 (wls L1 104 0 l) (ja_w a l) → Q (some (some (.int v))) (jm_s M2 (wls L1 104 0 l) G)) → am_T X z 0 lp [] (jm_s M1 L1 G) (0, 0) Q) : jpp X (jm_s M L G) y lo z lp := by
  refine ⟨v, c _ (fun M1 f => ⟨v, rfl, rfl, ?_⟩)⟩
  have hC1 : jC M1 L G a := jC_t hC f
  have hR1 : jRR (wi_m M1 3 1 (nI l.length)) (wls L 4 0 l) a := jRR_f hR (fun q h1 h2 => by rw [wi_m_p _ _ (by omega), f q (by omega)]) (wls_q (by decide) l L 0)
  refine rr _ _ hR1 _ (fun M2 g hR2 => ⟨v, rfl, rfl, ?_⟩)
  exact jI_mk (jAw_w hA hl) (jC_row hC1 l) g (wls_q (by decide) l _ 0) hR2
/-- what the reference's way leaves -/
theorem jRR_wb {M2 : Nat → Nat → Int32} {l : List Int64} (hR : jRR M L a) (e : ∀ q, q ≠ 101 → q ≠ 102 → q < 106 ∨ 118 < q → M2 q = M q) (e1 : ∀ i, i ≠ 4 → i ≠ 5 → i ≠ 15 → i ≠ 22 → i ≠ 28 → M2 101 i = M 101 i) (e2 : M2 101 4 = nI l.length) (h : jR (M2 102) (ja_s a)) : jRR M2 (wls L 104 0 l) (ja_w a l) := by
  unfold jRR jR0 jRt at *
  rw [e1 2 (by decide) (by decide) (by decide) (by decide) (by decide), e1 27 (by decide) (by decide) (by decide) (by decide) (by decide), e 103 (by decide) (by decide) (by decide), e 119 (by decide) (by decide) (by decide), e 121 (by decide) (by decide) (by decide), e 122 (by decide) (by decide) (by decide)]
  refine ⟨⟨h, hR.1.2⟩, hR.2.1, e2, fun i hi => ?_⟩
  have := wls_at (p := 104) l L 0 i hi
  rw [Nat.zero_add] at this
  exact this
/-- aside, changed, told -/
theorem ct_aside {y pc : Nat} {lo : am_L} (hA : jAw a) (hR : jRR M L a) {s2 : jS} (hw2 : jw s2 44) (hQ : ∀ M1, (∀ q, q ≠ 101 → q < 106 ∨ 116 < q → M1 q = M q) → jR (M1 102) (ja_s a) → (∀ M2, (∀ q, q ≠ 102 → M2 q = M1 q) → jR (M2 102) s2 → ∀ Q' : am_Q, (∀ M3, (∀ q, q < 101 → M3 q = M q) → jRR M3 (wls L 104 0 (jm_dl (ja_s a) s2)) (ja_w a (jm_dl (ja_s a) s2)) → Q' (some (some (.int (100000 + jc_all s2 - jc_all (ja_s a))))) (jm_s M3 (wls L 104 0 (jm_dl (ja_s a) s2)) G)) → am_T X 186 0 [some (.ref 101), none, none, none, none, none] [] (jm_s M2 L G) (0, 0) Q') → am_T X y pc lo [] (jm_s M1 L G) (0, 0) Q) : ∃ K : am_S → Prop, am_T X 184 0 [some (.ref 101), none] [] (jm_s (wi_m M 101 5 0) L G) (0, 0) (am_qv K) ∧ ∀ σ', K σ' → am_T X y pc lo [] σ' (0, 0) Q := by
  have hw := jw_44 hA.1
  have hR0 : jR ((wi_m M 101 5 0) 102) (ja_s a) := hR.1.1
  refine cl_v (ct_layAside hR0 hw (fun M1 f1 f2 h22 h13 ht hL => ⟨rfl, hQ M1 (fun q h1 h2 => by rw [f1 q h1 h2, wi_m_p _ _ h1]) (by rw [f1 102 (by decide) (by decide)]; exact hR0) (fun M2 g h2 Q' hQ' => ?_)⟩))
  refine ct_tellChanged hw h2 hw2 (by rw [g 101 (by decide)]; exact h22) (by rw [g 113 (by decide)]; exact h13) (fun m hm => by rw [g 114 (by decide), g 115 (by decide), g 116 (by decide)]; exact ht m hm) (fun M3 k1 k2 k3 k4 => hQ' M3 (fun q hq => ?_) (jRR_wb hR (fun q h1 h2 h3 => ?_) (fun i h1 h2 h3 h4 _ => ?_) k3 k4))
  · rw [k1 q (by omega) (by omega) (by omega), g q (by omega), f1 q (by omega) (by omega), wi_m_p _ _ (by omega)]
  · rw [k1 q h1 h2 (by omega), g q h2, f1 q h1 (by omega), wi_m_p _ _ h1]
  · rw [k2 i h1 h3, g 101 (by decide), f2 i h3 h4, wi_m_eq, if_pos rfl, if_neg h2]
theorem pp_late (hA : jAw a) (hC : jC M L G a) (hR : jRR M L a) (x1 x2 x3 x4 x5 : Int32) : jpp X (jm_s M L G) 77 [some (.ref 0), some (.int x1), some (.int x2), some (.int x3), some (.int x4), some (.int x5), none] 190 [some (.ref 101), some (.int x1), some (.int x2), some (.int x3), some (.int x4), some (.int x5), none] := by
  have hn := hA.1.1
  have hwB := jo_bring_w (x1 := x1) (x2 := x2) (x3 := x3) (x4 := x4) (x5 := x5) hA.1
  by_cases h0 : 0 ≤ (jo_bring (ja_s a) x1 x2 x3 x4 x5).1
  · have hv : jvB x1 x2 x3 x4 x5 = true := by
      apply Classical.byContradiction
      intro h
      unfold jo_bring at h0
      rw [if_neg h] at h0
      exact absurd h0 (show ¬ (0 : Int32) ≤ -1 by decide)
    have hn20 : ¬ 20 ≤ jn (ja_s a) := by
      intro h
      unfold jo_bring at h0
      rw [if_pos hv, if_pos h] at h0
      exact absurd h0 (show ¬ (0 : Int32) ≤ -3 by decide)
    have ej : jo_bring (ja_s a) x1 x2 x3 x4 x5 = (nI (jn (ja_s a) + 1), js_put (ja_s a) x1 x2 x3 x4 x5) := by
      unfold jo_bring
      rw [if_pos hv, if_neg hn20]
    rw [ej] at hwB
    refine pp_wb (v := 100000 + jc_all (js_put (ja_s a) x1 x2 x3 x4 x5) - jc_all (ja_s a)) (l := jm_dl (ja_s a) (js_put (ja_s a) x1 x2 x3 x4 x5)) (Nat.le_of_ble_eq_true rfl) hA hC hR (fun Q hQ => ?_) (fun M1 L1 hR1 Q hQ => ?_)
    · refine rg_X5_late_0_0 (cl_v (ct_copy_10_5 hC.1.1.1 hn (fun M1 f1 h1 => ⟨rfl, rg_X5_late_0_11 (cl_w (ct_bring h1 hn (fun M2 f2 h2 => ⟨_, rfl, rn_X5_late_0_25 ⟨fun _ => ?_, fun e => absurd h0 e⟩⟩)))⟩)))
      rw [ej] at h2
      exact cl_w (ct_tellTrial (s2 := js_put (ja_s a) x1 x2 x3 x4 x5) (jk_f hC.1.1.2 (fun q q1 q2 => by rw [f2 q (by omega), f1 q (by omega)])) h2 (jw_44 hwB) (fun M3 f3 => ⟨_, rfl, rg_X5_late_0_41 (hQ M3 (fun q hq => by rw [f3 q (by omega), f2 q (by omega), f1 q (by omega)]))⟩))
    · have hR0 : jR ((wi_m M1 101 5 0) 102) (ja_s a) := hR1.1.1
      refine rg_X6_late_101_0 (cl_i (fun _ h => ct_refusesSpan hR0 hn h) ?_)
      rw [if_pos hv, if_neg hn20]
      refine rn_X6_late_101_16 ⟨fun _ => ct_aside hA hR1 (jw_44 hwB) (fun M2 f2 hR2 T => rg_X6_late_101_30 (cl_v (ct_put hR2 (by omega) (fun M3 f3 h3 => ⟨rfl, rg_X6_late_101_41 (cl_w (T M3 f3 h3 _ (fun M4 f4 h4 => ⟨_, rfl, rg_X6_late_101_45 (hQ M4 f4 h4)⟩)))⟩)))), fun e => absurd (by decide) e⟩
  · have e2 : (jo_bring (ja_s a) x1 x2 x3 x4 x5).1 = (if jvB x1 x2 x3 x4 x5 = true then (if 20 ≤ jn (ja_s a) then -3 else 0) else -1) ∧ (jo_bring (ja_s a) x1 x2 x3 x4 x5).2 = ja_s a := by
      unfold jo_bring at h0 ⊢
      by_cases hv : jvB x1 x2 x3 x4 x5 = true
      · rw [if_pos hv] at h0
        rw [if_pos hv, if_pos hv]
        by_cases hn : 20 ≤ jn (ja_s a)
        · rw [if_pos hn, if_pos hn]
          exact ⟨rfl, rfl⟩
        · rw [if_neg hn] at h0
          exact absurd (nI_pos' (by omega)) h0
      · rw [if_neg hv, if_neg hv]
        exact ⟨rfl, rfl⟩
    refine ⟨(jo_bring (ja_s a) x1 x2 x3 x4 x5).1, rg_X5_late_0_0 (cl_v (ct_copy_10_5 hC.1.1.1 hn (fun M1 f1 h1 => ⟨rfl, rg_X5_late_0_11 (cl_w (ct_bring h1 hn (fun M2 f2 h2 => ⟨_, rfl, rn_X5_late_0_25 ⟨fun e => absurd e h0, fun _ => rg_X5_late_0_41 ⟨_, rfl, rfl, ?_⟩⟩⟩)))⟩)))⟩
    have hR2 : jRR M2 L a := jRR_f hR (fun q h1 h2 => by rw [f2 q (by omega), f1 q (by omega)]) rfl
    have hR0 : jR ((wi_m M2 101 5 0) 102) (ja_s a) := hR2.1.1
    refine rg_X6_late_101_0 (cl_i (fun _ h => ct_refusesSpan hR0 hn h) ?_)
    rw [← e2.1]
    refine rn_X6_late_101_16 ⟨fun e => absurd e h0, fun _ => ⟨_, rfl, rfl, ?_⟩⟩
    exact jI_mk hA (jC_t hC (fun q hq => by rw [f2 q (by omega), f1 q (by omega)])) (fun q hq => wi_m_p _ _ (by omega)) rfl (jRR_id hR2 (jfr_0 M2 0).1 (jfr_0 M2 0).2)
/-- refused: only the trial has changed -/
theorem jI_no {M2 : Nat → Nat → Int32} (hA : jAw a) (hC : jC M L G a) (hR : jRR M L a) (f : ∀ q, q < 10 ∨ 14 < q → M2 q = M q) : jI (jm_s (wi_m M2 101 5 0) L G) :=
  jI_mk hA (jC_t hC (fun q hq => f q (by omega))) (fun q hq => wi_m_p _ _ (by omega)) rfl (jRR_id (jRR_f hR (fun q h1 h2 => f q (by omega)) rfl) (jfr_0 M2 0).1 (jfr_0 M2 0).2)
theorem pp_without (hA : jAw a) (hC : jC M L G a) (hR : jRR M L a) (x1 : Int32) : jpp X (jm_s M L G) 78 [some (.ref 0), some (.int x1)] 191 [some (.ref 101), some (.int x1)] := by
  have hn := hA.1.1
  by_cases hv : 0 ≤ x1 ∧ x1 < nI (jn (ja_s a))
  · obtain ⟨k, hk, rfl⟩ := nI_of (Int32.not_lt.mpr hv.1)
    have hkn := (nI_lt_iff (by omega) (by omega)).mp hv.2
    have ej : jo_drop (ja_s a) (nI k) = (nI (jn (ja_s a) - 1), js_drop (ja_s a) k) := by
      unfold jo_drop
      rw [if_pos hv, nI_clamp hk]
    have hwB : jw (js_drop (ja_s a) k) 20 := jw_drop hA.1 hkn
    have h0 : 0 ≤ (jo_drop (ja_s a) (nI k)).1 := by
      rw [ej]
      exact nI_pos' (by omega)
    refine pp_wb (v := 100000 + jc_all (js_drop (ja_s a) k) - jc_all (ja_s a)) (l := jm_dl (ja_s a) (js_drop (ja_s a) k)) (Nat.le_of_ble_eq_true rfl) hA hC hR (fun Q hQ => ?_) (fun M1 L1 hR1 Q hQ => ?_)
    · refine rg_X5_without_0_0 (cl_v (ct_copy_10_5 hC.1.1.1 hn (fun M1 f1 h1 => ⟨rfl, rg_X5_without_0_11 (cl_w (ct_drop h1 (by omega) (fun M2 f2 h2 => ⟨_, rfl, rn_X5_without_0_19 ⟨fun _ => ?_, fun e => absurd h0 e⟩⟩)))⟩)))
      rw [ej] at h2
      exact cl_w (ct_tellTrial (s2 := js_drop (ja_s a) k) (jk_f hC.1.1.2 (fun q q1 q2 => by rw [f2 q (by omega), f1 q (by omega)])) h2 (jw_44 hwB) (fun M3 f3 => ⟨_, rfl, rg_X5_without_0_30 (hQ M3 (fun q hq => by rw [f3 q (by omega), f2 q (by omega), f1 q (by omega)]))⟩))
    · have hR0 : jR ((wi_m M1 101 5 0) 102) (ja_s a) := hR1.1.1
      refine rg_X6_without_101_0 (cl_i (fun _ h => ct_isSpanB hR0 (by omega) h) ?_)
      rw [jb_y (decide_eq_true hv)]
      refine rn_X6_without_101_10 ⟨fun e => absurd e (by decide), fun _ => ct_aside hA hR1 (jw_44 hwB) (fun M2 f2 hR2 T => rg_X6_without_101_19 (cl_v (ct_rdrop hR2 (by omega) hkn (fun M3 f3 h3 => ⟨rfl, rg_X6_without_101_24 (cl_w (T M3 f3 h3 _ (fun M4 f4 h4 => ⟨_, rfl, rg_X6_without_101_28 (hQ M4 f4 h4)⟩)))⟩))))⟩
  · have ej : jo_drop (ja_s a) x1 = (-1, ja_s a) := by
      unfold jo_drop
      rw [if_neg hv]
    have h0 : ¬ 0 ≤ (jo_drop (ja_s a) x1).1 := by
      rw [ej]
      exact (by decide : ¬ (0 : Int32) ≤ -1)
    refine ⟨-1, rg_X5_without_0_0 (cl_v (ct_copy_10_5 hC.1.1.1 hn (fun M1 f1 h1 => ⟨rfl, rg_X5_without_0_11 (cl_w (ct_drop h1 (by omega) (fun M2 f2 h2 => ⟨_, rfl, rn_X5_without_0_19 ⟨fun e => absurd e h0, fun _ => rg_X5_without_0_30 ⟨_, rfl, rfl, ?_⟩⟩⟩)))⟩)))⟩
    have hR2 : jRR M2 L a := jRR_f hR (fun q h1 h2 => by rw [f2 q (by omega), f1 q (by omega)]) rfl
    have hR0 : jR ((wi_m M2 101 5 0) 102) (ja_s a) := hR2.1.1
    refine rg_X6_without_101_0 (cl_i (fun _ h => ct_isSpanB hR0 (by omega) h) ?_)
    rw [jb_n (decide_eq_false hv)]
    exact rn_X6_without_101_10 ⟨fun _ => ⟨_, rfl, rfl, jI_no hA hC hR (fun q hq => by rw [f2 q hq, f1 q hq])⟩, fun e => absurd rfl e⟩
theorem js_law_id {i : Nat} : js_law s i (jlw s i) = s := by
  unfold js_law
  have : (fun j => if j = i then jlw s i else jlw s j) = jlw s := by
    funext j
    by_cases e : j = i
    · rw [if_pos e, e]
    · rw [if_neg e]
  rw [this]
theorem pp_lawful (hA : jAw a) (hC : jC M L G a) (hR : jRR M L a) (x1 x2 x3 : Int32) : jpp X (jm_s M L G) 79 [some (.ref 0), some (.int x1), some (.int x2), some (.int x3)] 193 [some (.ref 101), some (.int x1), some (.int x2), some (.int x3)] := by
  have hn := hA.1.1
  by_cases hv : (0 ≤ x1 ∧ x1 ≤ 4) ∧ (0 ≤ x2 ∧ x2 ≤ 3) ∧ (jm_ll x2 ≤ x3 ∧ x3 ≤ jm_lm x2)
  · obtain ⟨c, hc, rfl⟩ := nI_of2 (n := 4) (M := 4) (by decide) (Int32.not_lt.mpr hv.1.1) hv.1.2
    obtain ⟨w, hw, rfl⟩ := nI_of2 (n := 3) (M := 3) (by decide) (Int32.not_lt.mpr hv.2.1.1) hv.2.1.2
    have hwB0 := jo_law_w (c := nI c) (w := nI w) (v := x3) hA.1
    obtain ⟨k, hk, ek⟩ := hA.1.2.2.2.1 (4 * c + w) (by omega)
    have ej : (jo_law (ja_s a) (nI c) (nI w) x3).2 = js_law (ja_s a) (4 * c + w) x3 ∧ (jo_law (ja_s a) (nI c) (nI w) x3).1 ≠ -1 := by
      unfold jo_law
      rw [if_pos hv, nI_clamp (show c < 2147483648 by omega), nI_clamp (show w < 2147483648 by omega)]
      by_cases hs : jlw (ja_s a) (4 * c + w) = x3
      · rw [if_pos hs, ← hs, js_law_id]
        exact ⟨rfl, show (-2 : Int32) ≠ -1 by decide⟩
      · rw [if_neg hs]
        refine ⟨rfl, ?_⟩
        show jlw (ja_s a) (4 * c + w) ≠ -1
        rw [ek]
        exact jm_ne1 (by omega)
    rw [ej.1] at hwB0
    refine pp_wb (v := 100000 + jc_all (js_law (ja_s a) (4 * c + w) x3) - jc_all (ja_s a)) (l := jm_dl (ja_s a) (js_law (ja_s a) (4 * c + w) x3)) (Nat.le_of_ble_eq_true rfl) hA hC hR (fun Q hQ => ?_) (fun M1 L1 hR1 Q hQ => ?_)
    · refine rg_X5_lawful_0_0 (cl_v (ct_copy_10_5 hC.1.1.1 hn (fun M1 f1 h1 => ⟨rfl, rg_X5_lawful_0_11 (cl_w (ct_amend h1 (fun M2 f2 h2 => ⟨_, rfl, rn_X5_lawful_0_21 ⟨fun e => absurd e ej.2, fun _ => ?_⟩⟩)))⟩)))
      rw [ej.1] at h2
      exact cl_w (ct_tellTrial (s2 := js_law (ja_s a) (4 * c + w) x3) (jk_f hC.1.1.2 (fun q q1 q2 => by rw [f2 q (by omega), f1 q (by omega)])) h2 (jw_44 hwB0) (fun M3 f3 => ⟨_, rfl, rg_X5_lawful_0_33 (hQ M3 (fun q hq => by rw [f3 q (by omega), f2 q (by omega), f1 q (by omega)]))⟩))
    · refine rg_X6_lawful_101_0 (cl_i (fun _ h => ct_canLaw h) ?_)
      rw [jb_y (decide_eq_true hv)]
      refine rn_X6_lawful_101_11 ⟨fun e => absurd e (by decide), fun _ => ct_aside hA hR1 (jw_44 hwB0) (fun M2 f2 hR2 T => rn_X6_lawful_101_20 ?_)⟩
      rw [jr_law c w, nI_clamp (show 221 + (4 * c + w) < 2147483648 by omega)]
      refine ⟨vp_in_nI (by omega) (by decide), cl_w (T _ (fun q hq => wi_m_p _ _ hq) ?_ _ (fun M4 f4 h4 => ⟨_, rfl, rg_X6_lawful_101_39 (hQ M4 f4 h4)⟩))⟩
      rw [wi_m_f]
      exact jR_law hR2 (by omega) (by omega)
  · have ej : jo_law (ja_s a) x1 x2 x3 = (-1, ja_s a) := by
      unfold jo_law
      rw [if_neg hv]
    have h0 : (jo_law (ja_s a) x1 x2 x3).1 = -1 := by rw [ej]
    refine ⟨-1, rg_X5_lawful_0_0 (cl_v (ct_copy_10_5 hC.1.1.1 hn (fun M1 f1 h1 => ⟨rfl, rg_X5_lawful_0_11 (cl_w (ct_amend h1 (fun M2 f2 h2 => ⟨_, rfl, rn_X5_lawful_0_21 ⟨fun _ => rg_X5_lawful_0_33 ⟨_, rfl, rfl, ?_⟩, fun e => absurd h0 e⟩⟩)))⟩)))⟩
    refine rg_X6_lawful_101_0 (cl_i (fun _ h => ct_canLaw h) ?_)
    rw [jb_n (decide_eq_false hv)]
    exact rn_X6_lawful_101_11 ⟨fun _ => ⟨_, rfl, rfl, jI_no hA hC hR (fun q hq => by rw [f2 q hq, f1 q hq])⟩, fun e => absurd rfl e⟩
theorem jo_cr {v : Int32} (h : jcs 0 v = true) {k : Nat} (hk : jcr s = nI k) (hk2 : k ≤ 24) : (jo_set s 0 v).2 = js_cr s v ∧ (jo_set s 0 v).1 ≠ -1 := by
  rw [jo_set_eq, if_pos h]
  by_cases e : jcr s = v
  · rw [if_pos (by rw [if_pos rfl]; exact e)]
    refine ⟨?_, show (-2 : Int32) ≠ -1 by decide⟩
    rw [← e]
    rfl
  · rw [if_neg (by rw [if_pos rfl]; exact e)]
    refine ⟨rfl, ?_⟩
    show jcr s ≠ -1
    rw [hk]
    exact jm_ne1 (by omega)
theorem jo_le {v : Int32} (h : jcs 1 v = true) {k : Nat} (hk : jle s = nI k) (hk2 : k ≤ 60) : (jo_set s 1 v).2 = js_le s v ∧ (jo_set s 1 v).1 ≠ -1 := by
  have h01 : ¬ (1 : Int32) = 0 := by decide
  rw [jo_set_eq, if_pos h]
  by_cases e : jle s = v
  · rw [if_pos (by rw [if_neg h01]; exact e)]
    refine ⟨?_, show (-2 : Int32) ≠ -1 by decide⟩
    rw [← e]
    rfl
  · rw [if_neg (by rw [if_neg h01]; exact e)]
    refine ⟨rfl, ?_⟩
    show jle s ≠ -1
    rw [hk]
    exact jm_ne1 (by omega)
theorem pp_settled (hA : jAw a) (hC : jC M L G a) (hR : jRR M L a) (x1 x2 : Int32) : jpp X (jm_s M L G) 80 [some (.ref 0), some (.int x1), some (.int x2)] 195 [some (.ref 101), some (.int x1), some (.int x2)] := by
  have hn := hA.1.1
  obtain ⟨kc, hkc, ekc⟩ := hA.1.2.2.2.2.2.1
  obtain ⟨kl, hkl, ekl⟩ := hA.1.2.2.2.2.2.2
  by_cases hv : jcs 0 x1 = true
  · obtain ⟨j1, j2⟩ := jo_cr (s := ja_s a) hv ekc hkc
    have hw1 := jo_set_w (w := 0) (v := x1) hA.1
    rw [j1] at hw1
    by_cases hv2 : jcs 1 x2 = true
    · obtain ⟨i1, i2⟩ := jo_le (s := js_cr (ja_s a) x1) hv2 ekl hkl
      have hw2 := jo_set_w (w := 1) (v := x2) hw1
      rw [i1] at hw2
      refine pp_wb (v := 100000 + jc_all (js_le (js_cr (ja_s a) x1) x2) - jc_all (ja_s a)) (l := jm_dl (ja_s a) (js_le (js_cr (ja_s a) x1) x2)) (Nat.le_of_ble_eq_true rfl) hA hC hR (fun Q hQ => ?_) (fun M1 L1 hR1 Q hQ => ?_)
      · refine rg_X5_settled_0_0 (cl_v (ct_copy_10_5 hC.1.1.1 hn (fun M1 f1 h1 => ⟨rfl, rg_X5_settled_0_11 (cl_w (ct_adjust h1 (fun M2 f2 h2 => ⟨_, rfl, rn_X5_settled_0_20 ⟨fun e => absurd e j2, fun _ => ?_⟩⟩)))⟩)))
        rw [j1] at h2
        refine cl_w (ct_adjust h2 (fun M3 f3 h3 => ⟨_, rfl, rn_X5_settled_0_33 ⟨fun e => absurd e i2, fun _ => ?_⟩⟩))
        rw [i1] at h3
        exact cl_w (ct_tellTrial (s2 := js_le (js_cr (ja_s a) x1) x2) (jk_f hC.1.1.2 (fun q q1 q2 => by rw [f3 q (by omega), f2 q (by omega), f1 q (by omega)])) h3 (jw_44 hw2) (fun M4 f4 => ⟨_, rfl, rg_X5_settled_0_43 (hQ M4 (fun q hq => by rw [f4 q (by omega), f3 q (by omega), f2 q (by omega), f1 q (by omega)]))⟩))
      · refine rg_X6_settled_101_0 (cl_i (fun _ h => ct_canSet h) ?_)
        rw [jb_y hv]
        refine rn_X6_settled_101_10 ⟨fun e => absurd e (by decide), fun _ => cl_i (fun _ h => ct_canSet h) ?_⟩
        rw [jb_y hv2]
        refine rn_X6_settled_101_18 ⟨fun e => absurd e (by decide), fun _ => ct_aside hA hR1 (jw_44 hw2) (fun M2 f2 hR2 T => rn_X6_settled_101_27 (cl_w (T _ (fun q hq => by rw [wi_m_p _ _ hq, wi_m_p _ _ hq]) ?_ _ (fun M4 f4 h4 => ⟨_, rfl, rg_X6_settled_101_49 (hQ M4 f4 h4)⟩))))⟩
        rw [wi_m_f, wi_m_f]
        exact jR_le (jR_cr hR2 (by omega)) (by show jn (ja_s a) ≤ 44; omega)
    · have ej : jo_set (js_cr (ja_s a) x1) 1 x2 = (-1, js_cr (ja_s a) x1) := by
        rw [jo_set_eq, if_neg hv2]
      have h0 : (jo_set (js_cr (ja_s a) x1) 1 x2).1 = -1 := by rw [ej]
      refine ⟨-1, rg_X5_settled_0_0 (cl_v (ct_copy_10_5 hC.1.1.1 hn (fun M1 f1 h1 => ⟨rfl, rg_X5_settled_0_11 (cl_w (ct_adjust h1 (fun M2 f2 h2 => ⟨_, rfl, rn_X5_settled_0_20 ⟨fun e => absurd e j2, fun _ => ?_⟩⟩)))⟩)))⟩
      rw [j1] at h2
      refine cl_w (ct_adjust h2 (fun M3 f3 h3 => ⟨_, rfl, rn_X5_settled_0_33 ⟨fun _ => ⟨_, rfl, rfl, ?_⟩, fun e => absurd h0 e⟩⟩))
      refine rg_X6_settled_101_0 (cl_i (fun _ h => ct_canSet h) ?_)
      rw [jb_y hv]
      refine rn_X6_settled_101_10 ⟨fun e => absurd e (by decide), fun _ => cl_i (fun _ h => ct_canSet h) ?_⟩
      rw [jb_n (Bool.eq_false_iff.mpr hv2)]
      exact rn_X6_settled_101_18 ⟨fun _ => ⟨_, rfl, rfl, jI_no hA hC hR (fun q hq => by rw [f3 q hq, f2 q hq, f1 q hq])⟩, fun e => absurd rfl e⟩
  · have ej : jo_set (ja_s a) 0 x1 = (-1, ja_s a) := by
      rw [jo_set_eq, if_neg hv]
    have h0 : (jo_set (ja_s a) 0 x1).1 = -1 := by rw [ej]
    refine ⟨-1, rg_X5_settled_0_0 (cl_v (ct_copy_10_5 hC.1.1.1 hn (fun M1 f1 h1 => ⟨rfl, rg_X5_settled_0_11 (cl_w (ct_adjust h1 (fun M2 f2 h2 => ⟨_, rfl, rn_X5_settled_0_20 ⟨fun _ => ⟨_, rfl, rfl, ?_⟩, fun e => absurd h0 e⟩⟩)))⟩)))⟩
    refine rg_X6_settled_101_0 (cl_i (fun _ h => ct_canSet h) ?_)
    rw [jb_n (Bool.eq_false_iff.mpr hv)]
    exact rn_X6_settled_101_10 ⟨fun _ => ⟨_, rfl, rfl, jI_no hA hC hR (fun q hq => by rw [f2 q hq, f1 q hq])⟩, fun e => absurd rfl e⟩
theorem pp_instead (hA : jAw a) (hC : jC M L G a) (hR : jRR M L a) (x1 x2 x3 x4 x5 x6 : Int32) : jpp X (jm_s M L G) 81 [some (.ref 0), some (.int x1), some (.int x2), some (.int x3), some (.int x4), some (.int x5), some (.int x6)] 196 [some (.ref 101), some (.int x1), some (.int x2), some (.int x3), some (.int x4), some (.int x5), some (.int x6)] := by
  have hn := hA.1.1
  by_cases hv : 0 ≤ x1 ∧ x1 < nI (jn (ja_s a))
  · obtain ⟨k, hk, rfl⟩ := nI_of (Int32.not_lt.mpr hv.1)
    have hkn := (nI_lt_iff (by omega) (by omega)).mp hv.2
    have ej : jo_drop (ja_s a) (nI k) = (nI (jn (ja_s a) - 1), js_drop (ja_s a) k) := by
      unfold jo_drop
      rw [if_pos hv, nI_clamp hk]
    have hwB : jw (js_drop (ja_s a) k) 20 := jw_drop hA.1 hkn
    have hnd : jn (js_drop (ja_s a) k) = jn (ja_s a) - 1 := rfl
    have h0 : ¬ (jo_drop (ja_s a) (nI k)).1 < 0 := by
      rw [ej]
      exact nI_pos (by omega)
    by_cases hb : jvB x2 x3 x4 x5 x6 = true
    · have eb : jo_bring (js_drop (ja_s a) k) x2 x3 x4 x5 x6 = (nI (jn (js_drop (ja_s a) k) + 1), js_put (js_drop (ja_s a) k) x2 x3 x4 x5 x6) := by
        unfold jo_bring
        rw [if_pos hb, if_neg (by rw [hnd]; omega)]
      have hwC := jo_bring_w (x1 := x2) (x2 := x3) (x3 := x4) (x4 := x5) (x5 := x6) hwB
      rw [eb] at hwC
      have h1p : 0 ≤ (jo_bring (js_drop (ja_s a) k) x2 x3 x4 x5 x6).1 := by
        rw [eb]
        exact nI_pos' (by rw [hnd]; omega)
      refine pp_wb (v := 100000 + jc_all (js_put (js_drop (ja_s a) k) x2 x3 x4 x5 x6) - jc_all (ja_s a)) (l := jm_dl (ja_s a) (js_put (js_drop (ja_s a) k) x2 x3 x4 x5 x6)) (Nat.le_of_ble_eq_true rfl) hA hC hR (fun Q hQ => ?_) (fun M1 L1 hR1 Q hQ => ?_)
      · refine rg_X5_instead_0_0 (cl_v (ct_copy_10_5 hC.1.1.1 hn (fun M1 f1 h1 => ⟨rfl, rg_X5_instead_0_11 (cl_w (ct_drop h1 (by omega) (fun M2 f2 h2 => ⟨_, rfl, rn_X5_instead_0_19 ⟨fun e => absurd e h0, fun _ => ?_⟩⟩)))⟩)))
        rw [ej] at h2
        refine cl_w (ct_bring h2 hwB.1 (fun M3 f3 h3 => ⟨_, rfl, rn_X5_instead_0_37 ⟨fun _ => ?_, fun e => absurd h1p e⟩⟩))
        rw [eb] at h3
        exact cl_w (ct_tellTrial (s2 := js_put (js_drop (ja_s a) k) x2 x3 x4 x5 x6) (jk_f hC.1.1.2 (fun q q1 q2 => by rw [f3 q (by omega), f2 q (by omega), f1 q (by omega)])) h3 (jw_44 hwC) (fun M4 f4 => ⟨_, rfl, rg_X5_instead_0_46 (hQ M4 (fun q hq => by rw [f4 q (by omega), f3 q (by omega), f2 q (by omega), f1 q (by omega)]))⟩))
      · have hR0 : jR ((wi_m M1 101 5 0) 102) (ja_s a) := hR1.1.1
        refine rg_X6_instead_101_0 (cl_i (fun _ h => ct_canBe h) ?_)
        rw [jb_y hb]
        refine rn_X6_instead_101_16 ⟨fun e => absurd e (by decide), fun _ => cl_i (fun _ h => ct_isSpanB hR0 (by omega) h) ?_⟩
        rw [jb_y (decide_eq_true hv)]
        refine rn_X6_instead_101_24 ⟨fun e => absurd e (by decide), fun _ => ct_aside hA hR1 (jw_44 hwC) (fun M2 f2 hR2 T => rg_X6_instead_101_33 (cl_v (ct_rdrop hR2 (by omega) hkn (fun M3 f3 h3 => ⟨rfl, rg_X6_instead_101_38 (cl_v (ct_put h3 (by rw [hnd]; omega) (fun M4 f4 h4 => ⟨rfl, rg_X6_instead_101_50 (cl_w (T M4 (fun q hq => by rw [f4 q hq, f3 q hq]) h4 _ (fun M5 f5 h5 => ⟨_, rfl, rg_X6_instead_101_54 (hQ M5 f5 h5)⟩)))⟩)))⟩))))⟩
    · have eb : jo_bring (js_drop (ja_s a) k) x2 x3 x4 x5 x6 = (-1, js_drop (ja_s a) k) := by
        unfold jo_bring
        rw [if_neg hb]
      have h1n : ¬ 0 ≤ (jo_bring (js_drop (ja_s a) k) x2 x3 x4 x5 x6).1 := by
        rw [eb]
        exact (by decide : ¬ (0 : Int32) ≤ -1)
      refine ⟨-1, rg_X5_instead_0_0 (cl_v (ct_copy_10_5 hC.1.1.1 hn (fun M1 f1 h1 => ⟨rfl, rg_X5_instead_0_11 (cl_w (ct_drop h1 (by omega) (fun M2 f2 h2 => ⟨_, rfl, rn_X5_instead_0_19 ⟨fun e => absurd e h0, fun _ => ?_⟩⟩)))⟩)))⟩
      rw [ej] at h2
      refine cl_w (ct_bring h2 hwB.1 (fun M3 f3 h3 => ⟨_, rfl, rn_X5_instead_0_37 ⟨fun e => absurd e h1n, fun _ => ⟨_, rfl, rfl, ?_⟩⟩⟩))
      refine rg_X6_instead_101_0 (cl_i (fun _ h => ct_canBe h) ?_)
      rw [jb_n (Bool.eq_false_iff.mpr hb)]
      exact rn_X6_instead_101_16 ⟨fun _ => ⟨_, rfl, rfl, jI_no hA hC hR (fun q hq => by rw [f3 q hq, f2 q hq, f1 q hq])⟩, fun e => absurd rfl e⟩
  · have ej : jo_drop (ja_s a) x1 = (-1, ja_s a) := by
      unfold jo_drop
      rw [if_neg hv]
    have h0 : (jo_drop (ja_s a) x1).1 < 0 := by
      rw [ej]
      exact (by decide : (-1 : Int32) < 0)
    refine ⟨-1, rg_X5_instead_0_0 (cl_v (ct_copy_10_5 hC.1.1.1 hn (fun M1 f1 h1 => ⟨rfl, rg_X5_instead_0_11 (cl_w (ct_drop h1 (by omega) (fun M2 f2 h2 => ⟨_, rfl, rn_X5_instead_0_19 ⟨fun _ => ⟨_, rfl, rfl, ?_⟩, fun e => absurd h0 e⟩⟩)))⟩)))⟩
    have hR2 : jRR M2 L a := jRR_f hR (fun q h1 h2 => by rw [f2 q (by omega), f1 q (by omega)]) rfl
    have hR0 : jR ((wi_m M2 101 5 0) 102) (ja_s a) := hR2.1.1
    refine rg_X6_instead_101_0 (cl_i (fun _ h => ct_canBe h) (rn_X6_instead_101_16 ?_))
    have fin : jI (jm_s (wi_m M2 101 5 0) L G) := jI_no hA hC hR (fun q hq => by rw [f2 q hq, f1 q hq])
    refine ⟨fun _ => ⟨_, rfl, rfl, fin⟩, fun _ => cl_i (fun _ h => ct_isSpanB hR0 (by omega) h) ?_⟩
    rw [jb_n (decide_eq_false hv)]
    exact rn_X6_instead_101_24 ⟨fun _ => ⟨_, rfl, rfl, fin⟩, fun e => absurd rfl e⟩
end Would
