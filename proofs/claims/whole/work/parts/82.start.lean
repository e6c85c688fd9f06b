/-! ===== the class's constructor, the reference's, the law up to its loop (written by wip/gen/gen_ctor2.py) ===== -/
/-- what holds inside of the class's constructor: n1 states of the past, n2 of the shelf are there -/
def zI (n1 n2 : Nat) (M : Nat → Nat → Int32) (G : Nat → Nat → Option Nat) : Prop := (M 0 7 = 0 ∧ M 1 1 = 0 ∧ M 3 1 = 0 ∧ jh M 5 z0) ∧ (∀ j, j < n1 → G 47 j = some (48 + 5 * j)) ∧ ∀ j, j < n2 → G 88 j = some (89 + 5 * j)
section Facts
variable {M M' : Nat → Nat → Int32} {G G' : Nat → Nat → Option Nat} {n1 n2 p i : Nat}
theorem zI_f (h : zI n1 n2 M G) (f : zfr 10 M M') (g : 0 < n1 → G' 47 = G 47) (g2 : 0 < n2 → G' 88 = G 88) : zI n1 n2 M' G' := by
  obtain ⟨⟨a1, a2, a3, a4⟩, a5, a6⟩ := h
  refine ⟨⟨?_, ?_, ?_, jh_f a4 (fun q _ h2 => f q (by omega))⟩, fun j hj => ?_, fun j hj => ?_⟩
  · rw [f 0 (by decide)]
    exact a1
  · rw [f 1 (by decide)]
    exact a2
  · rw [f 3 (by decide)]
    exact a3
  · rw [g (by omega)]
    exact a5 j hj
  · rw [g2 (by omega)]
    exact a6 j hj
theorem zI_n1 (h : zI i 0 M G) : zI (i + 1) 0 M (wr_m G 47 i (some (48 + 5 * i))) := by
  refine ⟨h.1, fun j hj => ?_, fun j hj => absurd hj (Nat.not_lt_zero j)⟩
  rw [wr_m_eq, if_pos rfl]
  by_cases e : j = i
  · rw [if_pos e, e]
  · rw [if_neg e]
    exact h.2.1 j (by omega)
theorem zI_n2 (h : zI 8 i M G) : zI 8 (i + 1) M (wr_m G 88 i (some (89 + 5 * i))) := by
  refine ⟨h.1, fun j hj => ?_, fun j hj => ?_⟩
  · rw [wr_m_eq, if_neg (by decide)]
    exact h.2.1 j hj
  · rw [wr_m_eq, if_pos rfl]
    by_cases e : j = i
    · rw [if_pos e, e]
    · rw [if_neg e]
      exact h.2.2 j (by omega)
theorem zI_07 (h : zI n1 n2 M G) : zI n1 n2 (wi_m M 0 7 0) G := by
  obtain ⟨⟨a1, a2, a3, a4⟩, a5⟩ := h
  refine ⟨⟨wi_m_i _ _ _ _, ?_, ?_, jh_f a4 (fun q h1 _ => wi_m_p _ _ (by omega))⟩, a5⟩
  · rw [wi_m_p _ _ (show 1 ≠ 0 by decide)]
    exact a2
  · rw [wi_m_p _ _ (show 3 ≠ 0 by decide)]
    exact a3
end Facts
theorem zw0 : jw z0 20 := by
  refine ⟨Nat.zero_le 20, fun k hk => absurd hk (Nat.not_lt_zero k), fun d hd => ⟨d, hd, rfl⟩, fun i hi => ?_, fun i hi => ⟨100, by decide, rfl⟩, ⟨6, by decide, rfl⟩, ⟨12, by decide, rfl⟩⟩
  show ∃ k, k ≤ 359 ∧ zlw i = nI k
  unfold zlw
  by_cases h0 : i % 4 = 0
  · exact ⟨60, by decide, by rw [if_pos h0]; rfl⟩
  · by_cases h1 : i % 4 = 1
    · exact ⟨10, by decide, by rw [if_neg h0, if_pos h1]; rfl⟩
    · by_cases h2 : i % 4 = 2
      · exact ⟨20, by decide, by rw [if_neg h0, if_neg h1, if_pos h2]; rfl⟩
      · exact ⟨300, by decide, by rw [if_neg h0, if_neg h1, if_neg h2]; rfl⟩
section Ctor2
variable {X : Nat × (Nat → Int32)} {M : Nat → Nat → Int32} {L : Nat → Nat → Int64} {G : Nat → Nat → Option Nat} {Q : am_Q}
theorem cz_X5i (h0 : M 0 = fun _ => 0) (hQ : ∀ M' L' G', zI 8 2 M' G' → (∀ i, M' 99 i = 0) → jk M' 15 z0 → Q (some none) (jm_z M' L' G')) : am_T X 55 0 [some (.ref 0), none] [] (zs_0, M, L, G, 0) (0, 0) Q := by
  refine rz_X5i_0 (cl_v (rz_X4i_0 ⟨by decide, ⟨rfl, ?_⟩⟩))
  refine rz_X5i_12 (cl_v (rz_X2i_0 ⟨by decide, ⟨rfl, ?_⟩⟩))
  refine rz_X5i_23 (cl_v (cz_st_5 (fun M1 L1 G1 f1 g1 k1 => ⟨rfl, ?_⟩)))
  have i1 : zI 0 0 M1 G1 := by
    refine ⟨⟨?_, ?_, ?_, k1⟩, fun j hj => absurd hj (Nat.not_lt_zero j), fun j hj => absurd hj (Nat.not_lt_zero j)⟩
    · rw [f1 0 (by decide), zn_m_ne (show 0 ≠ 5 by decide), wi_m_p _ _ (show 0 ≠ 3 by decide), zn_m_ne (show 0 ≠ 4 by decide), zn_m_ne (show 0 ≠ 3 by decide), wi_m_p _ _ (show 0 ≠ 1 by decide), wi_m_p _ _ (show 0 ≠ 1 by decide), wi_m_p _ _ (show 0 ≠ 1 by decide), zn_m_ne (show 0 ≠ 2 by decide), zn_m_ne (show 0 ≠ 1 by decide), h0]
    · rw [f1 1 (by decide), zn_m_ne (show 1 ≠ 5 by decide), wi_m_p _ _ (show 1 ≠ 3 by decide), zn_m_ne (show 1 ≠ 4 by decide), zn_m_ne (show 1 ≠ 3 by decide), wi_m_eq, if_pos rfl, if_neg (by decide), wi_m_eq, if_pos rfl, if_neg (by decide), wi_m_eq, if_pos rfl, if_pos rfl]
    · rw [f1 3 (by decide), zn_m_ne (show 3 ≠ 5 by decide), wi_m_i]
  clear f1 g1 k1 h0
  refine rz_X5i_36 (cl_v (cz_st_10 (fun M2 L2 G2 f2 g2 _ => ⟨rfl, ?_⟩)))
  have i2 : zI 0 0 M2 G2 := zI_f i1 (zfr_tr (zfr_zn zfr_rf (by decide)) f2) (fun h => absurd h (by decide)) (fun h => absurd h (by decide))
  clear f2 g2 i1
  refine rz_X5i_49 (cl_v (cz_cl_15 (fun M3 L3 G3 f3 g3 => ⟨rfl, ?_⟩)))
  have i3 : zI 0 0 M3 G3 := zI_f i2 (zfr_tr (zfr_zn zfr_rf (by decide)) (zfr_le f3 (by decide))) (fun h => absurd h (by decide)) (fun h => absurd h (by decide))
  clear f3 g3 i2
  refine rz_X5i_60 (cl_v (cz_cl_31 (fun M4 L4 G4 f4 g4 => ⟨rfl, ?_⟩)))
  have i4 : zI 0 0 M4 G4 := zI_f i3 (zfr_tr (zfr_zn zfr_rf (by decide)) (zfr_le f4 (by decide))) (fun h => absurd h (by decide)) (fun h => absurd h (by decide))
  clear f4 g4 i3
  refine rz_X5i_71 ⟨by decide, ?_⟩
  have j0 : zI 0 0 (zn_m M4 47) (zn_g G4 47) := zI_f i4 (zfr_zn zfr_rf (by decide)) (fun h => absurd h (by decide)) (fun h => absurd h (by decide))
  clear i4
  refine rz_X5i_0_85 ⟨fun h => absurd h (by decide), fun _ => cl_v (cz_st_48 (fun M10 L10 G10 f g _ => ⟨rfl, ?_⟩))⟩
  refine rz_X5i_0_105 ⟨vp_in_nI (n := 0) (N := 8) (by decide) (by decide), rfl, ?_⟩
  rw [show (0 : Int32) + 1 = 1 from by decide]
  have j1 : zI 1 0 M10 (wr_m G10 47 0 (some 48)) := zI_n1 (i := 0) (zI_f j0 (zfr_tr (zfr_zn zfr_rf (by decide)) (zfr_le f (by decide))) (fun _ => (g 47 (by decide)).trans (zn_g_ne (by decide))) (fun h => absurd h (by decide)))
  clear f g j0
  refine rz_X5i_1_85 ⟨fun h => absurd h (by decide), fun _ => cl_v (cz_st_53 (fun M11 L11 G11 f g _ => ⟨rfl, ?_⟩))⟩
  refine rz_X5i_1_105 ⟨vp_in_nI (n := 1) (N := 8) (by decide) (by decide), rfl, ?_⟩
  rw [show (1 : Int32) + 1 = 2 from by decide]
  have j2 : zI 2 0 M11 (wr_m G11 47 1 (some 53)) := zI_n1 (i := 1) (zI_f j1 (zfr_tr (zfr_zn zfr_rf (by decide)) (zfr_le f (by decide))) (fun _ => (g 47 (by decide)).trans (zn_g_ne (by decide))) (fun h => absurd h (by decide)))
  clear f g j1
  refine rz_X5i_2_85 ⟨fun h => absurd h (by decide), fun _ => cl_v (cz_st_58 (fun M12 L12 G12 f g _ => ⟨rfl, ?_⟩))⟩
  refine rz_X5i_2_105 ⟨vp_in_nI (n := 2) (N := 8) (by decide) (by decide), rfl, ?_⟩
  rw [show (2 : Int32) + 1 = 3 from by decide]
  have j3 : zI 3 0 M12 (wr_m G12 47 2 (some 58)) := zI_n1 (i := 2) (zI_f j2 (zfr_tr (zfr_zn zfr_rf (by decide)) (zfr_le f (by decide))) (fun _ => (g 47 (by decide)).trans (zn_g_ne (by decide))) (fun h => absurd h (by decide)))
  clear f g j2
  refine rz_X5i_3_85 ⟨fun h => absurd h (by decide), fun _ => cl_v (cz_st_63 (fun M13 L13 G13 f g _ => ⟨rfl, ?_⟩))⟩
  refine rz_X5i_3_105 ⟨vp_in_nI (n := 3) (N := 8) (by decide) (by decide), rfl, ?_⟩
  rw [show (3 : Int32) + 1 = 4 from by decide]
  have j4 : zI 4 0 M13 (wr_m G13 47 3 (some 63)) := zI_n1 (i := 3) (zI_f j3 (zfr_tr (zfr_zn zfr_rf (by decide)) (zfr_le f (by decide))) (fun _ => (g 47 (by decide)).trans (zn_g_ne (by decide))) (fun h => absurd h (by decide)))
  clear f g j3
  refine rz_X5i_4_85 ⟨fun h => absurd h (by decide), fun _ => cl_v (cz_st_68 (fun M14 L14 G14 f g _ => ⟨rfl, ?_⟩))⟩
  refine rz_X5i_4_105 ⟨vp_in_nI (n := 4) (N := 8) (by decide) (by decide), rfl, ?_⟩
  rw [show (4 : Int32) + 1 = 5 from by decide]
  have j5 : zI 5 0 M14 (wr_m G14 47 4 (some 68)) := zI_n1 (i := 4) (zI_f j4 (zfr_tr (zfr_zn zfr_rf (by decide)) (zfr_le f (by decide))) (fun _ => (g 47 (by decide)).trans (zn_g_ne (by decide))) (fun h => absurd h (by decide)))
  clear f g j4
  refine rz_X5i_5_85 ⟨fun h => absurd h (by decide), fun _ => cl_v (cz_st_73 (fun M15 L15 G15 f g _ => ⟨rfl, ?_⟩))⟩
  refine rz_X5i_5_105 ⟨vp_in_nI (n := 5) (N := 8) (by decide) (by decide), rfl, ?_⟩
  rw [show (5 : Int32) + 1 = 6 from by decide]
  have j6 : zI 6 0 M15 (wr_m G15 47 5 (some 73)) := zI_n1 (i := 5) (zI_f j5 (zfr_tr (zfr_zn zfr_rf (by decide)) (zfr_le f (by decide))) (fun _ => (g 47 (by decide)).trans (zn_g_ne (by decide))) (fun h => absurd h (by decide)))
  clear f g j5
  refine rz_X5i_6_85 ⟨fun h => absurd h (by decide), fun _ => cl_v (cz_st_78 (fun M16 L16 G16 f g _ => ⟨rfl, ?_⟩))⟩
  refine rz_X5i_6_105 ⟨vp_in_nI (n := 6) (N := 8) (by decide) (by decide), rfl, ?_⟩
  rw [show (6 : Int32) + 1 = 7 from by decide]
  have j7 : zI 7 0 M16 (wr_m G16 47 6 (some 78)) := zI_n1 (i := 6) (zI_f j6 (zfr_tr (zfr_zn zfr_rf (by decide)) (zfr_le f (by decide))) (fun _ => (g 47 (by decide)).trans (zn_g_ne (by decide))) (fun h => absurd h (by decide)))
  clear f g j6
  refine rz_X5i_7_85 ⟨fun h => absurd h (by decide), fun _ => cl_v (cz_st_83 (fun M17 L17 G17 f g _ => ⟨rfl, ?_⟩))⟩
  refine rz_X5i_7_105 ⟨vp_in_nI (n := 7) (N := 8) (by decide) (by decide), rfl, ?_⟩
  rw [show (7 : Int32) + 1 = 8 from by decide]
  have j8 : zI 8 0 M17 (wr_m G17 47 7 (some 83)) := zI_n1 (i := 7) (zI_f j7 (zfr_tr (zfr_zn zfr_rf (by decide)) (zfr_le f (by decide))) (fun _ => (g 47 (by decide)).trans (zn_g_ne (by decide))) (fun h => absurd h (by decide)))
  clear f g j7
  refine rz_X5i_8_85 ⟨fun _ => ?_, fun h => absurd (by decide) h⟩
  refine rz_X5i_112 ⟨by decide, ?_⟩
  have s0 : zI 8 0 (zn_m (wi_m M17 0 7 0) 88) (zn_g (wr_m G17 47 7 (some 83)) 88) := zI_f (zI_07 j8) (zfr_zn zfr_rf (by decide)) (fun _ => zn_g_ne (by decide)) (fun h => absurd h (by decide))
  clear j8
  refine rz_X5i_0_127 ⟨fun h => absurd h (by decide), fun _ => cl_v (cz_st_89 (fun M20 L20 G20 f g _ => ⟨rfl, ?_⟩))⟩
  refine rz_X5i_0_146 ⟨vp_in_nI (n := 0) (N := 2) (by decide) (by decide), rfl, ?_⟩
  rw [show (0 : Int32) + 1 = 1 from by decide]
  have s1 : zI 8 1 M20 (wr_m G20 88 0 (some 89)) := zI_n2 (i := 0) (zI_f s0 (zfr_tr (zfr_zn zfr_rf (by decide)) (zfr_le f (by decide))) (fun _ => (g 47 (by decide)).trans (zn_g_ne (by decide))) (fun _ => (g 88 (by decide)).trans (zn_g_ne (by decide))))
  clear f g s0
  refine rz_X5i_1_127 ⟨fun h => absurd h (by decide), fun _ => cl_v (cz_st_94 (fun M21 L21 G21 f g _ => ⟨rfl, ?_⟩))⟩
  refine rz_X5i_1_146 ⟨vp_in_nI (n := 1) (N := 2) (by decide) (by decide), rfl, ?_⟩
  rw [show (1 : Int32) + 1 = 2 from by decide]
  have s2 : zI 8 2 M21 (wr_m G21 88 1 (some 94)) := zI_n2 (i := 1) (zI_f s1 (zfr_tr (zfr_zn zfr_rf (by decide)) (zfr_le f (by decide))) (fun _ => (g 47 (by decide)).trans (zn_g_ne (by decide))) (fun _ => (g 88 (by decide)).trans (zn_g_ne (by decide))))
  clear f g s1
  refine rz_X5i_2_127 ⟨fun _ => ?_, fun h => absurd (by decide) h⟩
  refine rz_X5i_153 ⟨by decide, by decide, ?_⟩
  have e0 : zI 8 2 (zn_m (zn_m M21 99) 100) (zn_g (zn_g (wr_m G21 88 1 (some 94)) 99) 100) := zI_f s2 (zfr_zn (zfr_zn zfr_rf (by decide)) (by decide)) (fun _ => (zn_g_ne (by decide)).trans (zn_g_ne (by decide))) (fun _ => (zn_g_ne (by decide)).trans (zn_g_ne (by decide)))
  have e9 : ∀ i, zn_m (zn_m M21 99) 100 99 i = 0 := fun i => by
    rw [zn_m_ne (show 99 ≠ 100 by decide), zn_m_at]
  clear s2
  refine cl_v (cz_reckon_15_5 (s := z0) e0.1.2.2.2 zw0 (fun M' f hk => ⟨rfl, rz_X5i_179 (hQ M' _ _ ?_ (fun i => ?_) hk)⟩))
  · exact zI_f e0 (fun q hq => f q (by omega)) (fun _ => rfl) (fun _ => rfl)
  · rw [f 99 (by decide)]
    exact e9 i
/-- the reference's constructor -/
theorem cz_X6i (hQ : ∀ M' L' G', zfr 101 M M' → zgr 101 G G' → M' 101 = M 101 → jR (M' 102) z0 → M' 122 = (fun _ => 0) → Q (some none) (zs_61, M', L', G', 0)) : am_T X 122 0 [some (.ref 101), none] [] (zs_55, M, L, G, 0) (0, 0) Q := by
  refine rz_X6i_0 ⟨by decide, by decide, by decide, by decide, ?_⟩
  refine rz_X6i_39 ⟨by decide, by decide, by decide, ?_⟩
  refine rz_X6i_66 ⟨by decide, by decide, by decide, ?_⟩
  refine rz_X6i_93 ⟨by decide, by decide, by decide, ?_⟩
  refine rz_X6i_120 ⟨by decide, by decide, by decide, by decide, ?_⟩
  refine rz_X6i_153 ⟨by decide, by decide, by decide, by decide, ?_⟩
  have u1 : zfr 102 M (zn_m (zn_m (zn_m (zn_m (zn_m (zn_m (zn_m (zn_m (zn_m (zn_m (zn_m (zn_m (zn_m (zn_m (zn_m (zn_m (zn_m (zn_m (zn_m (zn_m (zn_m M 102) 103) 104) 105) 106) 107) 108) 109) 110) 111) 112) 113) 114) 115) 116) 117) 118) 119) 120) 121) 122) := by
    (repeat (first | exact zfr_rf | refine zfr_wi ?_ (by decide) | refine zfr_zn ?_ (by decide)))
  have u2 : zgr 101 G (zn_g (zn_g (zn_g (zn_g (zn_g (zn_g (zn_g (zn_g (zn_g (zn_g (zn_g (zn_g (zn_g (zn_g (zn_g (zn_g (zn_g (zn_g (zn_g (zn_g (zn_g G 102) 103) 104) 105) 106) 107) 108) 109) 110) 111) 112) 113) 114) 115) 116) 117) 118) 119) 120) 121) 122) := by
    (repeat (first | exact zgr_rf | refine zgr_zn ?_ (by decide)))
  have u3 : (zn_m (zn_m (zn_m (zn_m (zn_m (zn_m (zn_m (zn_m (zn_m (zn_m (zn_m (zn_m (zn_m (zn_m (zn_m (zn_m (zn_m (zn_m (zn_m (zn_m (zn_m M 102) 103) 104) 105) 106) 107) 108) 109) 110) 111) 112) 113) 114) 115) 116) 117) 118) 119) 120) 121) 122) 122 = fun _ => 0 := zn_m_at
  have u4 : (zn_m (zn_m (zn_m (zn_m (zn_m (zn_m (zn_m (zn_m (zn_m (zn_m (zn_m (zn_m (zn_m (zn_m (zn_m (zn_m (zn_m (zn_m (zn_m (zn_m (zn_m M 102) 103) 104) 105) 106) 107) 108) 109) 110) 111) 112) 113) 114) 115) 116) 117) 118) 119) 120) 121) 122) 102 = fun _ => 0 := by
    rw [zn_m_ne (show 102 ≠ 122 by decide), zn_m_ne (show 102 ≠ 121 by decide), zn_m_ne (show 102 ≠ 120 by decide), zn_m_ne (show 102 ≠ 119 by decide), zn_m_ne (show 102 ≠ 118 by decide), zn_m_ne (show 102 ≠ 117 by decide), zn_m_ne (show 102 ≠ 116 by decide), zn_m_ne (show 102 ≠ 115 by decide), zn_m_ne (show 102 ≠ 114 by decide), zn_m_ne (show 102 ≠ 113 by decide), zn_m_ne (show 102 ≠ 112 by decide), zn_m_ne (show 102 ≠ 111 by decide), zn_m_ne (show 102 ≠ 110 by decide), zn_m_ne (show 102 ≠ 109 by decide), zn_m_ne (show 102 ≠ 108 by decide), zn_m_ne (show 102 ≠ 107 by decide), zn_m_ne (show 102 ≠ 106 by decide), zn_m_ne (show 102 ≠ 105 by decide), zn_m_ne (show 102 ≠ 104 by decide), zn_m_ne (show 102 ≠ 103 by decide), zn_m_at]
  generalize (zn_m (zn_m (zn_m (zn_m (zn_m (zn_m (zn_m (zn_m (zn_m (zn_m (zn_m (zn_m (zn_m (zn_m (zn_m (zn_m (zn_m (zn_m (zn_m (zn_m (zn_m M 102) 103) 104) 105) 106) 107) 108) 109) 110) 111) 112) 113) 114) 115) 116) 117) 118) 119) 120) 121) 122) = M0 at u1 u3 u4 ⊢
  generalize (zn_g (zn_g (zn_g (zn_g (zn_g (zn_g (zn_g (zn_g (zn_g (zn_g (zn_g (zn_g (zn_g (zn_g (zn_g (zn_g (zn_g (zn_g (zn_g (zn_g (zn_g G 102) 103) 104) 105) 106) 107) 108) 109) 110) 111) 112) 113) 114) 115) 116) 117) 118) 119) 120) 121) 122) = G0 at u2 ⊢
  generalize (zn_l (zn_l (zn_l (zn_l (zn_l (zn_l (zn_l (zn_l (zn_l (zn_l (zn_l (zn_l (zn_l (zn_l (zn_l (zn_l (zn_l (zn_l (zn_l (zn_l (zn_l L 102) 103) 104) 105) 106) 107) 108) 109) 110) 111) 112) 113) 114) 115) 116) 117) 118) 119) 120) 121) 122) = L0
  have l3 : ∀ M1, (∀ M', zF M1 M' 102 247 30 (fun _ => 100) → Q (some none) (zs_61, M', L0, G0, 0)) → am_T X 122 311 [some (.ref 101), some (.int 0)] [] (zs_61, M1, L0, G0, 0) (21, 8107) Q := by
    intro M1 h
    have t : ∀ r k M2, k + r = 30 → zF M1 M2 102 247 k (fun _ => 100) → am_T X 122 311 [some (.ref 101), some (.int (nI k))] [] (zs_61, M2, L0, G0, 0) (21, 8107) Q := by
      intro r
      induction r with
      | zero =>
        intro k M2 e hk
        have e2 : k = 30 := e
        subst e2
        exact rz_X6i_311 ⟨fun _ => h M2 hk, fun hn => absurd (nI_le (Nat.le_refl 30) (by decide)) hn⟩
      | succ r ih =>
        intro k M2 e hk
        have n0 : 247 + nI k = nI (247 + k) := nI_add 247 k
        refine rz_X6i_311 ⟨fun hle => absurd hle (nI_ge (show k < 30 by omega) (by decide)), fun _ => ?_⟩
        rw [n0, nI_clamp (show 247 + k < 2147483648 by omega), nI_1]
        exact ⟨vp_in_nI (by omega) (by decide), ih (k + 1) _ (by omega) (zF_s hk (v := 100) rfl)⟩
    have t0 := t 30 0 M1 rfl zF_0
    rw [nI_0] at t0
    exact t0
  have l2 : ∀ M1, (∀ M', zF M1 M' 102 241 4 (fun i => nI i) → am_T X 122 289 [some (.ref 101), none] [] (zs_61, M', L0, G0, 0) (21, 8107) Q) → am_T X 122 267 [some (.ref 101), some (.int 0)] [] (zs_61, M1, L0, G0, 0) (21, 8107) Q := by
    intro M1 h
    have t : ∀ r k M2, k + r = 4 → zF M1 M2 102 241 k (fun i => nI i) → am_T X 122 267 [some (.ref 101), some (.int (nI k))] [] (zs_61, M2, L0, G0, 0) (21, 8107) Q := by
      intro r
      induction r with
      | zero =>
        intro k M2 e hk
        have e2 : k = 4 := e
        subst e2
        exact rz_X6i_267 ⟨fun _ => h M2 hk, fun hn => absurd (nI_le (Nat.le_refl 4) (by decide)) hn⟩
      | succ r ih =>
        intro k M2 e hk
        have n0 : 241 + nI k = nI (241 + k) := nI_add 241 k
        refine rz_X6i_267 ⟨fun hle => absurd hle (nI_ge (show k < 4 by omega) (by decide)), fun _ => ?_⟩
        rw [n0, nI_clamp (show 241 + k < 2147483648 by omega), nI_1]
        exact ⟨vp_in_nI (by omega) (by decide), ih (k + 1) _ (by omega) (zF_s hk (v := nI k) rfl)⟩
    have t0 := t 4 0 M1 rfl zF_0
    rw [nI_0] at t0
    exact t0
  have l1 : ∀ M1, (∀ M', zF M1 M' 102 221 20 zlw → am_T X 122 267 [some (.ref 101), some (.int 0)] [] (zs_61, M', L0, G0, 0) (21, 8107) Q) → am_T X 122 189 [some (.ref 101), some (.int 0)] [] (zs_61, M1, L0, G0, 0) (21, 8107) Q := by
    intro M1 h
    have t : ∀ r k M2, k + r = 5 → zF M1 M2 102 221 (4 * k) zlw → am_T X 122 189 [some (.ref 101), some (.int (nI k))] [] (zs_61, M2, L0, G0, 0) (21, 8107) Q := by
      intro r
      induction r with
      | zero =>
        intro k M2 e hk
        have e2 : k = 5 := e
        subst e2
        exact rz_X6i_189 ⟨fun _ => h M2 hk, fun hn => absurd (nI_le (Nat.le_refl 5) (by decide)) hn⟩
      | succ r ih =>
        intro k M2 e hk
        have hz := zF_4 hk
        have m4 : 4 * nI k = nI (4 * k) := pk_mul 4 k
        have m5 : 221 + nI (4 * k) = nI (221 + 4 * k) := nI_add 221 (4 * k)
        have n0 : nI (221 + 4 * k) + 0 = nI (221 + 4 * k + 0) := nI_add _ 0
        have n1 : nI (221 + 4 * k) + 1 = nI (221 + 4 * k + 1) := nI_add _ 1
        have n2 : nI (221 + 4 * k) + 2 = nI (221 + 4 * k + 2) := nI_add _ 2
        have n3 : nI (221 + 4 * k) + 3 = nI (221 + 4 * k + 3) := nI_add _ 3
        refine rz_X6i_189 ⟨fun hle => absurd hle (nI_ge (show k < 5 by omega) (by decide)), fun _ => ?_⟩
        rw [m4, m5, n0, n1, n2, n3, nI_1, nI_clamp (show 221 + 4 * k + 0 < 2147483648 by omega), nI_clamp (show 221 + 4 * k + 1 < 2147483648 by omega), nI_clamp (show 221 + 4 * k + 2 < 2147483648 by omega), nI_clamp (show 221 + 4 * k + 3 < 2147483648 by omega)]
        exact ⟨vp_in_nI (by omega) (by decide), vp_in_nI (by omega) (by decide), vp_in_nI (by omega) (by decide), vp_in_nI (by omega) (by decide), ih (k + 1) _ (by omega) hz⟩
    have t0 := t 5 0 M1 rfl zF_0
    rw [nI_0] at t0
    exact t0
  refine l1 M0 (fun M1 h1 => l2 M1 (fun M2 h2 => rz_X6i_289 ⟨vp_in_nI (n := 245) (N := 277) (by decide) (by decide), vp_in_nI (n := 246) (N := 277) (by decide) (by decide), l3 _ (fun M3 h3 => hQ M3 L0 G0 (fun q hq => ?_) u2 ?_ ⟨?_, fun i hi => absurd hi (Nat.not_lt_zero i), fun i hi => ?_, fun i hi => ?_, ?_, ?_, fun i hi => h3.2.1 i hi⟩ ?_)⟩))
  · rw [h3.1 q (by omega), wi_m_p _ _ (show q ≠ 102 by omega), wi_m_p _ _ (show q ≠ 102 by omega), h2.1 q (by omega), h1.1 q (by omega)]
    exact u1 q (by omega)
  · rw [h3.1 101 (by decide), wi_m_p _ _ (show 101 ≠ 102 by decide), wi_m_p _ _ (show 101 ≠ 102 by decide), h2.1 101 (by decide), h1.1 101 (by decide)]
    exact u1 101 (by decide)
  · rw [h3.2.2 0 (by decide), wi_m_eq, if_pos rfl, if_neg (by decide), wi_m_eq, if_pos rfl, if_neg (by decide), h2.2.2 0 (by decide), h1.2.2 0 (by decide), u4]
    exact nI_0.symm
  · rw [h3.2.2 (221 + i) (by omega), wi_m_eq, if_pos rfl, if_neg (by omega), wi_m_eq, if_pos rfl, if_neg (by omega), h2.2.2 (221 + i) (by omega)]
    exact h1.2.1 i hi
  · rw [h3.2.2 (241 + i) (by omega), wi_m_eq, if_pos rfl, if_neg (by omega), wi_m_eq, if_pos rfl, if_neg (by omega)]
    exact h2.2.1 i hi
  · rw [h3.2.2 245 (by decide), wi_m_eq, if_pos rfl, if_neg (by decide), wi_m_eq, if_pos rfl, if_pos rfl]
    rfl
  · rw [h3.2.2 246 (by decide), wi_m_eq, if_pos rfl, if_pos rfl]
    rfl
  · rw [h3.1 122 (by decide), wi_m_p _ _ (show 122 ≠ 102 by decide), wi_m_p _ _ (show 122 ≠ 102 by decide), h2.1 122 (by decide), h1.1 122 (by decide)]
    exact u3
/-- a new object -/
def za0 : jA := (z0, (0, fun _ => z0), (fun _ => false, fun _ => z0), (0, fun _ => 0), [])
theorem zaw : jAw za0 := ⟨zw0, ⟨Nat.zero_le 8, fun j hj => absurd hj (Nat.not_lt_zero j)⟩, fun i _ h => absurd h Bool.false_ne_true, ⟨Nat.zero_le 80, fun j hj => absurd hj (Nat.not_lt_zero j)⟩, Nat.zero_le 120⟩
theorem z_jI (h : zI 8 2 M G) (h9 : ∀ i, M 99 i = 0) (hk : jk M 15 z0) (h1 : M 101 = fun _ => 0) (hr : jR (M 102) z0) (h2 : M 122 = fun _ => 0) : jI (jm_s M L G) := by
  obtain ⟨⟨a1, a2, a3, a4⟩, a5, a6⟩ := h
  refine ⟨M, L, G, za0, rfl, zaw, ⟨⟨⟨a4, hk⟩, ⟨a1.trans nI_0.symm, Nat.zero_le 8, fun j => j, fun j hj => ⟨hj, a5 j hj⟩, fun j i _ _ e => e, fun j hj => absurd hj (Nat.not_lt_zero j)⟩, a6 0 (by decide), a6 1 (by decide), fun i _ => ⟨(h9 i).trans rfl, fun e => absurd e Bool.false_ne_true⟩⟩, ⟨a2.trans nI_0.symm, fun i hi => absurd hi (Nat.not_lt_zero i)⟩, ⟨a3.trans nI_0.symm, fun i hi => absurd hi (Nat.not_lt_zero i)⟩⟩, ⟨⟨hr, ⟨?_, Nat.zero_le 8, fun j hj => absurd hj (Nat.not_lt_zero j)⟩, fun i _ => ⟨?_, fun e => absurd e Bool.false_ne_true⟩⟩, ⟨?_, fun i hi => absurd hi (Nat.not_lt_zero i)⟩, ⟨?_, fun i hi => absurd hi (Nat.not_lt_zero i)⟩⟩⟩
  · rw [h1]
    exact nI_0.symm
  · rw [h2]
    rfl
  · rw [h1]
    exact nI_0.symm
  · rw [h1]
    exact nI_0.symm
/-- from the law's entry to its loop -/
theorem lw_ctor (h : ∀ σ, jI σ → am_T X 230 23 [some (.ref 1000), some (.ref 0), some (.ref 101), some (.ref 123), some (.int (nI 0)), none, none, none] [] σ (183, 26043) Q) : am_T X 230 0 [some (.ref 1000), none, none, none, none, none, none, none] [] ([], M, L, G, 0) (0, 0) Q := by
  refine rz_LWi_0 (cl_v (cz_X5i zn_m_at (fun M1 L1 G1 e0 e9 ek => ⟨rfl, ?_⟩)))
  refine rz_LWi_7 (cl_v (cz_X6i (fun M2 L2 G2 f g f1 hr h2 => ⟨rfl, ?_⟩)))
  refine rz_LWi_15 ⟨by decide, am_T_gb ?_⟩
  have fa : zfr 101 M1 (zn_m M2 123) := zfr_zn (zfr_tr (zfr_zn zfr_rf (by decide)) f) (by decide)
  have ga : zgr 101 G1 (zn_g G2 123) := zgr_zn (zgr_tr (zgr_zn zgr_rf (by decide)) g) (by decide)
  have hI : jI (jm_s (zn_m M2 123) (zn_l L2 123) (zn_g G2 123)) := by
    refine z_jI (zI_f e0 (zfr_le fa (by decide)) (fun _ => ga 47 (by decide)) (fun _ => ga 88 (by decide))) (fun i => ?_) (jk_f ek (fun q _ hq => fa q (by omega))) ?_ ?_ ?_
    · rw [fa 99 (by decide)]
      exact e9 i
    · rw [zn_m_ne (show 101 ≠ 123 by decide), f1, zn_m_at]
    · rw [zn_m_ne (show 102 ≠ 123 by decide)]
      exact hr
    · rw [zn_m_ne (show 122 ≠ 123 by decide)]
      exact h2
  have hh := h _ hI
  rw [nI_0] at hh
  exact hh
end Ctor2
