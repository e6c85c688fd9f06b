/-! ===== pairs: undo, keep, again, sheet (written by wip/gen/gen_undo.py) ===== -/
section Undo
variable {X : Nat × (Nat → Int32)} {M : Nat → Nat → Int32} {L : Nat → Nat → Int64} {G : Nat → Nat → Option Nat} {Q : am_Q} {s : jS} {a : jA}
theorem ct_und41 {p : Nat} (hp : p < 8) (hS : jh M (48 + 5 * p) s) (hn : jn s ≤ 20) (hQ : ∀ M', (∀ q, q < 5 ∨ 9 < q → M' q = M q) → jh M' 5 s → am_T X 95 44 [some (.ref 0)] [] (jm_s M' L G) (0, 0) Q) : am_T X 95 41 [some (.ref 0)] [(.ref (48 + 5 * p)), (.ref 5)] (jm_s M L G) (0, 0) Q := by
  have h8 : p = 0 ∨ p = 1 ∨ p = 2 ∨ p = 3 ∨ p = 4 ∨ p = 5 ∨ p = 6 ∨ p = 7 := by omega
  rcases h8 with e | e | e | e | e | e | e | e <;> subst e
  · exact rg_X5_undo_0_41_v9 (cl_v (ct_copy_5_48 hS hn (fun M1 f h => ⟨rfl, hQ M1 f h⟩)))
  · exact rg_X5_undo_0_41_v8 (cl_v (ct_copy_5_53 hS hn (fun M1 f h => ⟨rfl, hQ M1 f h⟩)))
  · exact rg_X5_undo_0_41_v7 (cl_v (ct_copy_5_58 hS hn (fun M1 f h => ⟨rfl, hQ M1 f h⟩)))
  · exact rg_X5_undo_0_41_v6 (cl_v (ct_copy_5_63 hS hn (fun M1 f h => ⟨rfl, hQ M1 f h⟩)))
  · exact rg_X5_undo_0_41_v5 (cl_v (ct_copy_5_68 hS hn (fun M1 f h => ⟨rfl, hQ M1 f h⟩)))
  · exact rg_X5_undo_0_41_v4 (cl_v (ct_copy_5_73 hS hn (fun M1 f h => ⟨rfl, hQ M1 f h⟩)))
  · exact rg_X5_undo_0_41_v3 (cl_v (ct_copy_5_78 hS hn (fun M1 f h => ⟨rfl, hQ M1 f h⟩)))
  · exact rg_X5_undo_0_41_v2 (cl_v (ct_copy_5_83 hS hn (fun M1 f h => ⟨rfl, hQ M1 f h⟩)))
/-- now is s, the past n long -/
abbrev ja_at (a : jA) (s : jS) (n : Nat) : jA := (s, (n, ja_pa a), a.2.2)
theorem jC_at {M2 M3 : Nat → Nat → Int32} {n : Nat} (hC : jC M L G a) (hn : n ≤ ja_pn a) (h0 : M3 0 7 = nI n) (f : ∀ q, q ≠ 0 → q < 5 ∨ 30 < q → M3 q = M q) (hS : jh M3 5 s) (hk : jk M3 15 s) : jC M3 L G (ja_at a s n) := by
  obtain ⟨⟨⟨c1, c2⟩, ⟨p1, p2, π, p3, p4, p5⟩, c4, c5, c6⟩, ct, cr⟩ := hC
  refine ⟨⟨⟨hS, hk⟩, ⟨h0, Nat.le_trans hn p2, π, p3, p4, fun j hj => jh_f (p5 j (Nat.lt_of_lt_of_le hj hn)) (fun q h1 h2 => f q (by omega) (by omega))⟩, c4, c5, fun i hi => ⟨?_, fun hv => jh_f ((c6 i hi).2 hv) (fun q h1 h2 => f q (by omega) (by omega))⟩⟩, ?_, ?_⟩
  · rw [f 99 (by decide) (by decide)]
    exact (c6 i hi).1
  · unfold jCt at *
    rw [f 1 (by decide) (by decide), f 2 (by decide) (by decide)]
    exact ct
  · unfold jCr at *
    rw [f 3 (by decide) (by decide)]
    exact cr
theorem jRR_at {M3 : Nat → Nat → Int32} {n : Nat} (hR : jRR M L a) (hn : n ≤ ja_pn a) (h0 : M3 101 27 = nI n) (f : ∀ q, q ≠ 101 → q ≠ 102 → M3 q = M q) (f1 : ∀ i, i ≠ 5 → i ≠ 27 → M3 101 i = M 101 i) (hS : jR (M3 102) s) : jRR M3 L (ja_at a s n) := by
  obtain ⟨⟨r1, ⟨r2, r3, r4⟩, r5⟩, rt, rr⟩ := hR
  refine ⟨⟨hS, ⟨h0, Nat.le_trans hn r3, fun j hj => ?_⟩, fun i hi => ?_⟩, ?_, ?_⟩
  · rw [f 119 (by decide) (by decide)]
    exact r4 j (Nat.lt_of_lt_of_le hj hn)
  · rw [f 122 (by decide) (by decide), f 121 (by decide) (by decide)]
    exact r5 i hi
  · unfold jRt at *
    rw [f 103 (by decide) (by decide), f1 2 (by decide) (by decide)]
    exact rt
  · unfold jRr at *
    rw [f1 4 (by decide) (by decide)]
    exact rr
theorem pp_undo (hA : jAw a) (hC : jC M L G a) (hR : jRR M L a) : jpp X (jm_s M L G) 95 [some (.ref 0)] 217 [some (.ref 101), none] := by
  obtain ⟨p1, p2, π, p3, p4, p5⟩ := hC.1.2.1
  have r2 := hR.1.2.1.1
  by_cases hz : ja_pn a = 0
  · have e0 : M 0 7 ≤ 0 := by
      rw [p1, hz]
      decide
    have e1 : M 101 27 = 0 := by
      rw [r2, hz]
      rfl
    exact pp_rd hA hC hR (v := -1) (fun Q hQ => rn_X5_undo_0_0 ⟨fun _ => hQ, fun e => absurd e0 e⟩) (fun Q hQ => rn_X6_undo_101_0 ⟨fun _ => hQ _ (jfr_0 M 0), fun e => absurd e1 e⟩)
  · have hpos : 0 < ja_pn a := by omega
    have hj : ja_pn a - 1 < 8 := by omega
    have hwp := hA.2.1.2 (ja_pn a - 1) (by omega)
    have en : nI (ja_pn a) - 1 = nI (ja_pn a - 1) := pk_sub (b := 1) (by omega)
    refine ⟨nI (ja_pn a - 1), rg_X5_undo_0_0 ⟨fun h => ?_, fun _ => ⟨fun _ => ⟨?_, 48 + 5 * π (ja_pn a - 1), ?_, ?_⟩, fun h => absurd ?_ h⟩⟩⟩
    · rw [p1] at h
      have := (nI_le0 (show ja_pn a < 2147483648 by omega)).mp h
      omega
    · rw [p1, en]
      exact vp_in_nI hj (by decide)
    · rw [p1, en, nI_clamp (by omega)]
      exact (p3 (ja_pn a - 1) hj).2
    · rw [p1, en]
      have hS0 : jh (wi_m M 0 7 (nI (ja_pn a - 1))) (48 + 5 * π (ja_pn a - 1)) (ja_pa a (ja_pn a - 1)) := jh_f (p5 (ja_pn a - 1) (by omega)) (fun q h1 h2 => wi_m_p _ _ (by omega))
      refine ct_und41 (p3 (ja_pn a - 1) hj).1 hS0 hwp.1 (fun M1 f1 h1 => ?_)
      refine rg_X5_undo_0_44 (cl_v (ct_reckon_15_5 h1 hwp (fun M2 f2 hk => ⟨rfl, rg_X5_undo_0_55 ?_⟩)))
      have E : ∀ q, q < 5 ∨ 30 < q → M2 q = (wi_m M 0 7 (nI (ja_pn a - 1))) q := fun q hq => by rw [f2 q (by omega), f1 q (by omega)]
      have e07 : M2 0 7 = nI (ja_pn a - 1) := by rw [E 0 (by decide), wi_m_i]
      rw [e07]
      refine ⟨_, rfl, rfl, ?_⟩
      have hC2 : jC M2 L G (ja_at a (ja_pa a (ja_pn a - 1)) (ja_pn a - 1)) := jC_at (M2 := M2) hC (by omega) e07 (fun q h1 h2 => by rw [E q h2, wi_m_p _ _ h1]) (jh_f h1 (fun q h1 h2 => f2 q (by omega))) hk
      have hR2 : jRR M2 L a := jRR_f hR (fun q h1 h2 => by rw [E q (by omega), wi_m_p _ _ (by omega)]) rfl
      have r2' := hR2.1.2.1.1
      have hA2 : jAw (ja_at a (ja_pa a (ja_pn a - 1)) (ja_pn a - 1)) := ⟨hwp, ⟨by show ja_pn a - 1 ≤ 8; omega, fun j hj => hA.2.1.2 j (by have hj2 : j < ja_pn a - 1 := hj; omega)⟩, hA.2.2⟩
      refine rn_X6_undo_101_0 ⟨fun h => ?_, fun _ => ?_⟩
      · rw [r2'] at h
        have := (nI_eq0 (show ja_pn a < 2147483648 by omega)).mp h
        omega
      rw [r2', en]
      have em : (277 : Int32) * nI (ja_pn a - 1) = nI (277 * (ja_pn a - 1)) := pk_mul 277 (ja_pn a - 1)
      refine lp_dn (P := fun k => ∀ M3, (∀ q, q ≠ 101 → q ≠ 102 → M3 q = M2 q) → (∀ i, i ≠ 5 → i ≠ 27 → M3 101 i = M2 101 i) → M3 101 27 = nI (ja_pn a - 1) → (∀ i, i < k → M3 102 i = M2 119 (277 * (ja_pn a - 1) + i)) → am_T X 217 26 [some (.ref 101), some (.int (nI k))] [] (jm_s M3 L G) (0, 0) _) 277 ?_ ?_ 0 (by decide) _ ?_ ?_ ?_ (fun i h => absurd h (Nat.not_lt_zero i))
      · intro M3 g1 g2 g3 g4
        refine rn_X6_undo_101_26 ⟨fun _ => ?_, fun h => absurd (nI_le (Nat.le_refl 277) (by decide)) h⟩
        rw [g3]
        refine ⟨_, rfl, rfl, jI_mk hA2 hC2 (fun q hq => g1 q (by omega) (by omega)) rfl (jRR_at hR2 (by omega) g3 g1 g2 ?_)⟩
        exact jR_f (hR2.1.2.1.2.2 (ja_pn a - 1) (by omega)) (fun i hi => g4 i hi) (Nat.le_trans hwp.1 (by decide))
      · intro k hk ih M3 g1 g2 g3 g4
        refine rn_X6_undo_101_26 ⟨fun h => absurd h (nI_ge hk (by decide)), fun _ => ?_⟩
        rw [g3, em, nI_add, nI_clamp (show 277 * (ja_pn a - 1) + k < 2147483648 by omega), nI_clamp (show k < 2147483648 by omega), nI_1, g1 119 (by decide) (by decide)]
        refine ⟨vp_in_nI (by omega) (by decide), vp_in_nI hk (by decide), ih _ (fun q h1 h2 => by rw [wi_m_p _ _ h2, g1 q h1 h2]) (fun i h1 h2 => by rw [wi_m_p _ _ (by decide), g2 i h1 h2]) (by rw [wi_m_p _ _ (by decide), g3]) (fun i hi => ?_)⟩
        rw [wi_m_eq, if_pos rfl]
        by_cases e : i = k
        · rw [if_pos e, e]
        · rw [if_neg e, g4 i (by omega)]
      · intro q h1 h2
        rw [wi_m_p _ _ h1, wi_m_p _ _ h1]
      · intro i h1 h2
        rw [wi_m_eq, if_pos rfl, if_neg h2, wi_m_eq, if_pos rfl, if_neg h1]
      · exact wi_m_i _ _ _ _
    · rw [p1]
      exact nI_le p2 (by decide)
/-- one that is kept -/
abbrev ja_kp (a : jA) (i : Nat) : jA := (ja_s a, a.2.1, (fun j => if j = i then true else ja_sv a j, fun j => if j = i then ja_s a else ja_sh a j), a.2.2.2)
theorem pp_keep (hA : jAw a) (hC : jC M L G a) (hR : jRR M L a) (x : Int32) : jpp X (jm_s M L G) 97 [some (.ref 0), some (.int x)] 220 [some (.ref 101), some (.int x), none] := by
  rcases jx_case 2 (by decide) x with h | ⟨i, hi, rfl⟩
  · refine pp_rd hA hC hR (v := 0) (fun Q hQ => rn_X5_keep_0_0 ⟨fun _ => hQ, fun h0 => ⟨fun h2 => ?_, fun _ => hQ⟩⟩) (fun Q hQ => rg_X6_keep_101_0 (cl_i (fun _ h' => ct_in h') ?_))
    · rcases h with h | h
      · exact absurd h h0
      · exact absurd h2 (Int32.not_lt.mpr h)
    have hn : jb (decide (0 ≤ x ∧ x ≤ 1)) = 0 := ri_n (h.imp id (fun h => nI_lt_of (b := 1) (by decide) h))
    rw [hn]
    exact rn_X6_keep_101_11 ⟨fun _ => hQ _ (jfr_0 M 0), fun e => absurd rfl e⟩
  · have hS := hC.1.1.1
    have hn := hA.1.1
    obtain ⟨⟨⟨c1, c2⟩, c3, c4, c5, c6⟩, ct, cr⟩ := hC
    have hA2 : jAw (ja_kp a i) := by
      refine ⟨hA.1, hA.2.1, fun j hj hv => ?_, hA.2.2.2⟩
      show jw (if j = i then ja_s a else ja_sh a j) 20
      by_cases e : j = i
      · rw [if_pos e]
        exact hA.1
      · rw [if_neg e]
        have hv2 : (if j = i then true else ja_sv a j) = true := hv
        rw [if_neg e] at hv2
        exact hA.2.2.1 j hj hv2
    have fin : ∀ M1, (∀ q, q < 89 + 5 * i ∨ 89 + 5 * i + 4 < q → M1 q = M q) → jh M1 (89 + 5 * i) (ja_s a) → am_T X 97 24 [some (.ref 0), some (.int (nI i))] [] (jm_s M1 L G) (0, 0) (am_qi (fun v' σ1 => (v', σ1.1, σ1.2.2.2.2) = (1, am_SH, 1) ∧ am_T X 220 0 [some (.ref 101), some (.int (nI i)), none] [] σ1 (0, 0) (am_qi (fun v'' σ2 => v'' = 1 ∧ jI σ2)))) := by
      intro M1 f1 h1
      refine rn_X5_keep_0_24 ⟨vp_in_nI hi (by decide), ?_⟩
      rw [nI_clamp (show i < 2147483648 by omega), show vp_nar .boolean 1 = (1 : Int32) from rfl]
      refine ⟨_, rfl, rfl, ?_⟩
      have E : ∀ q, q ≠ 99 → q < 89 ∨ 98 < q → (wi_m M1 99 i 1) q = M q := fun q h1 h2 => by rw [wi_m_p _ _ h1, f1 q (by omega)]
      have hC2 : jC (wi_m M1 99 i 1) L G (ja_kp a i) := by
        refine ⟨⟨⟨jh_f c1 (fun q h1 h2 => E q (by omega) (by omega)), jk_f c2 (fun q h1 h2 => E q (by omega) (by omega))⟩, ?_, c4, c5, fun j hj => ⟨?_, fun hv => ?_⟩⟩, ?_, ?_⟩
        · obtain ⟨q1, q2, π, q3, q4, q5⟩ := c3
          refine ⟨by rw [E 0 (by decide) (by decide)]; exact q1, q2, π, q3, q4, fun j hj => jh_f (q5 j hj) (fun q h1 h2 => E q ?_ ?_)⟩
          · have := (q3 j (Nat.lt_of_lt_of_le hj q2)).1
            omega
          · have := (q3 j (Nat.lt_of_lt_of_le hj q2)).1
            omega
        · show wi_m M1 99 i 1 99 j = jb (if j = i then true else ja_sv a j)
          rw [wi_m_eq, if_pos rfl]
          by_cases e : j = i
          · rw [if_pos e, if_pos e]
            rfl
          · rw [if_neg e, if_neg e, f1 99 (by omega)]
            exact (c6 j hj).1
        · show jh _ (89 + 5 * j) (if j = i then ja_s a else ja_sh a j)
          by_cases e : j = i
          · subst e
            rw [if_pos rfl]
            exact jh_f h1 (fun q h1 h2 => wi_m_p _ _ (by omega))
          · rw [if_neg e]
            have hv2 : (if j = i then true else ja_sv a j) = true := hv
            rw [if_neg e] at hv2
            exact jh_f ((c6 j hj).2 hv2) (fun q h1 h2 => by rw [wi_m_p _ _ (by omega), f1 q (by omega)])
        · unfold jCt at *
          rw [E 1 (by decide) (by decide), E 2 (by decide) (by decide)]
          exact ct
        · unfold jCr at *
          rw [E 3 (by decide) (by decide)]
          exact cr
      have hR2 : jRR (wi_m M1 99 i 1) L a := jRR_f hR (fun q h1 h2 => E q (by omega) (by omega)) rfl
      obtain ⟨⟨r1, r2, r5⟩, rt, rr⟩ := hR2
      refine rg_X6_keep_101_0 (cl_i (fun _ h' => ct_in h') ?_)
      have hy1 : jb (decide (0 ≤ nI i ∧ nI i ≤ 1)) = 1 := ri_y (nI_pos' (by omega)) (nI_le (show i ≤ 1 by omega) (by decide))
      rw [hy1]
      refine rn_X6_keep_101_11 ⟨fun e => absurd e (by decide), fun _ => ⟨vp_in_nI hi (by decide), ?_⟩⟩
      rw [nI_clamp (show i < 2147483648 by omega), show vp_nar .boolean 1 = (1 : Int32) from rfl]
      have em : (277 : Int32) * nI i = nI (277 * i) := pk_mul 277 i
      refine lp_dn (P := fun k => ∀ M3, (∀ q, q ≠ 121 → M3 q = (wi_m (wi_m (wi_m M1 99 i 1) 101 5 0) 122 i 1) q) → (∀ j, M3 121 j = if 277 * i ≤ j ∧ j < 277 * i + k then (wi_m M1 99 i 1) 102 (j - 277 * i) else (wi_m M1 99 i 1) 121 j) → am_T X 220 25 [some (.ref 101), some (.int (nI i)), some (.int (nI k))] [] (jm_s M3 L G) (0, 0) _) 277 ?_ ?_ 0 (by decide) _ (fun _ _ => rfl) (fun j => ?_)
      · intro M3 g1 g2
        refine rn_X6_keep_101_25 ⟨fun _ => ⟨_, rfl, rfl, ?_⟩, fun h => absurd (nI_le (Nat.le_refl 277) (by decide)) h⟩
        have E2 : ∀ q, q ≠ 121 → q ≠ 122 → q ≠ 101 → M3 q = (wi_m M1 99 i 1) q := fun q h1 h2 h3 => by rw [g1 q h1, wi_m_p _ _ h2, wi_m_p _ _ h3]
        refine jI_mk hA2 hC2 (fun q hq => E2 q (by omega) (by omega) (by omega)) rfl ⟨⟨?_, ?_, fun j hj => ⟨?_, fun hv => ?_⟩⟩, ?_, ?_⟩
        · rw [E2 102 (by decide) (by decide) (by decide)]
          exact r1
        · rw [E2 119 (by decide) (by decide) (by decide), g1 101 (by decide)]
          exact r2
        · show M3 122 j = jb (if j = i then true else ja_sv a j)
          rw [g1 122 (by decide), wi_m_eq, if_pos rfl]
          by_cases e : j = i
          · rw [if_pos e, if_pos e]
            rfl
          · rw [if_neg e, if_neg e]
            exact (r5 j hj).1
        · show jR _ (if j = i then ja_s a else ja_sh a j)
          by_cases e : j = i
          · rw [if_pos e]
            refine jR_f r1 (fun k hk => ?_) (by omega)
            show M3 121 (277 * j + k) = _
            rw [g2, if_pos (by omega), show 277 * j + k - 277 * i = k by omega]
          · rw [if_neg e]
            have hv2 : (if j = i then true else ja_sv a j) = true := hv
            rw [if_neg e] at hv2
            refine jR_f ((r5 j hj).2 hv2) (fun k hk => ?_) (Nat.le_trans (hA.2.2.1 j hj hv2).1 (by decide))
            show M3 121 (277 * j + k) = _
            rw [g2, if_neg (by omega)]
        · unfold jRt at *
          rw [E2 103 (by decide) (by decide) (by decide), g1 101 (by decide)]
          exact rt
        · unfold jRr at *
          rw [g1 101 (by decide)]
          exact rr
      · intro k hk ih M3 g1 g2
        refine rn_X6_keep_101_25 ⟨fun h => absurd h (nI_ge hk (by decide)), fun _ => ?_⟩
        rw [em, nI_add, nI_clamp (show 277 * i + k < 2147483648 by omega), nI_clamp (show k < 2147483648 by omega), nI_1]
        refine ⟨vp_in_nI hk (by decide), vp_in_nI (by omega) (by decide), ih _ (fun q hq => by rw [wi_m_p _ _ hq, g1 q hq]) (fun j => ?_)⟩
        have e2 : M3 102 k = (wi_m M1 99 i 1) 102 k := by rw [g1 102 (by decide), wi_m_p _ _ (by decide), wi_m_p _ _ (by decide)]
        rw [wi_m_eq, if_pos rfl, g2 j]
        by_cases e : j = 277 * i + k
        · rw [if_pos e, if_pos (by omega), e2, show j - 277 * i = k by omega]
        · rw [if_neg e]
          by_cases e3 : 277 * i ≤ j ∧ j < 277 * i + k
          · rw [if_pos e3, if_pos (by omega)]
          · rw [if_neg e3, if_neg (by omega)]
      · rw [if_neg (by omega), wi_m_p _ _ (show 121 ≠ 122 by decide), wi_m_p _ _ (show 121 ≠ 101 by decide)]
    have i2 : i = 0 ∨ i = 1 := by omega
    have hlt : nI i < 2 := nI_lt hi (by decide)
    refine ⟨1, rn_X5_keep_0_0 ⟨fun h => absurd h (nI_pos (by omega)), fun _ => ⟨fun _ => ⟨vp_in_nI hi (by decide), 89 + 5 * i, ?_, ?_⟩, fun h => absurd hlt h⟩⟩⟩
    · rw [nI_clamp (show i < 2147483648 by omega)]
      rcases i2 with rfl | rfl
      · exact c4
      · exact c5
    · rcases i2 with rfl | rfl
      · exact rg_X5_keep_0_17_v3 (cl_v (ct_copy_89_5 hS hn (fun M1 f1 h1 => ⟨rfl, fin M1 f1 h1⟩)))
      · exact rg_X5_keep_0_17_v2 (cl_v (ct_copy_94_5 hS hn (fun M1 f1 h1 => ⟨rfl, fin M1 f1 h1⟩)))
theorem pp_again (hA : jAw a) (hC : jC M L G a) (hR : jRR M L a) (x : Int32) : jpp X (jm_s M L G) 98 [some (.ref 0), some (.int x)] 221 [some (.ref 101), some (.int x), none] := by
  rcases jx_case 2 (by decide) x with h | ⟨i, hi, rfl⟩
  · refine pp_rd hA hC hR (v := 0) (fun Q hQ => rn_X5_again_0_0 ⟨fun _ => hQ, fun h0 => ⟨fun _ => hQ, fun h2 => ?_⟩⟩) (fun Q hQ => rg_X6_again_101_0 (cl_i (fun _ h' => ct_in h') ?_))
    · rcases h with h | h
      · exact absurd h h0
      · exact absurd h h2
    have hn : jb (decide (0 ≤ x ∧ x ≤ 1)) = 0 := ri_n (h.imp id (fun h => nI_lt_of (b := 1) (by decide) h))
    rw [hn]
    exact rn_X6_again_101_11 ⟨fun _ => hQ _ (jfr_0 M 0), fun e => absurd rfl e⟩
  · have c6 := hC.1.2.2.2.2 i hi
    have r5 := hR.1.2.2 i hi
    have c4 := hC.1.2.2.1
    have c5 := hC.1.2.2.2.1
    have hy1 : jb (decide (0 ≤ nI i ∧ nI i ≤ 1)) = 1 := ri_y (nI_pos' (by omega)) (nI_le (show i ≤ 1 by omega) (by decide))
    have ecl : (nI i).toNatClampNeg = i := nI_clamp (by omega)
    have hge : ¬ 2 ≤ nI i := nI_ge hi (by decide)
    by_cases hsv : ja_sv a i = true
    · have hwp := hA.2.2.1 i hi hsv
      have e1 : M 99 i = 1 := by rw [c6.1, hsv]; rfl
      have hA2 : jAw (ja_at a (ja_sh a i) 0) := ⟨hwp, ⟨Nat.zero_le _, fun j hj => absurd hj (Nat.not_lt_zero j)⟩, hA.2.2⟩
      have fin : ∀ M1, (∀ q, q < 5 ∨ 9 < q → M1 q = M q) → jh M1 5 (ja_sh a i) → am_T X 98 33 [some (.ref 0), none] [] (jm_s M1 L G) (0, 0) (am_qi (fun v' σ1 => (v', σ1.1, σ1.2.2.2.2) = (1, am_SH, 1) ∧ am_T X 221 0 [some (.ref 101), some (.int (nI i)), none] [] σ1 (0, 0) (am_qi (fun v'' σ2 => v'' = 1 ∧ jI σ2)))) := by
        intro M1 f1 h1
        refine rg_X5_again_0_33 (cl_v (ct_reckon_15_5 h1 hwp (fun M2 f2 hk => ⟨rfl, rn_X5_again_0_44 ⟨_, rfl, rfl, ?_⟩⟩)))
        have E : ∀ q, q ≠ 0 → q < 5 ∨ 30 < q → (wi_m M2 0 7 0) q = M q := fun q h1 h2 => by rw [wi_m_p _ _ h1, f2 q (by omega), f1 q (by omega)]
        have hC2 : jC (wi_m M2 0 7 0) L G (ja_at a (ja_sh a i) 0) := jC_at (M2 := M2) hC (Nat.zero_le _) (wi_m_i _ _ _ _) E (jh_f h1 (fun q h1 h2 => by rw [wi_m_p _ _ (by omega), f2 q (by omega)])) (jk_f hk (fun q h1 h2 => wi_m_p _ _ (by omega)))
        have hR2 : jRR (wi_m M2 0 7 0) L a := jRR_f hR (fun q h1 h2 => E q (by omega) (by omega)) rfl
        have r5' := hR2.1.2.2 i hi
        have e2 : (wi_m M2 0 7 0) 122 i = 1 := by rw [r5'.1, hsv]; rfl
        refine rg_X6_again_101_0 (cl_i (fun _ h' => ct_in h') ?_)
        rw [hy1]
        refine rn_X6_again_101_11 ⟨fun e => absurd e (by decide), fun _ => ⟨vp_in_nI hi (by decide), ?_⟩⟩
        rw [ecl, show (wi_m (wi_m M2 0 7 0) 101 5 0) 122 i = 1 from e2]
        refine ⟨fun e => absurd e (by decide), fun _ => ?_⟩
        have em : (277 : Int32) * nI i = nI (277 * i) := pk_mul 277 i
        refine lp_dn (P := fun k => ∀ M3, (∀ q, q ≠ 102 → M3 q = (wi_m (wi_m M2 0 7 0) 101 5 0) q) → (∀ j, j < k → M3 102 j = (wi_m M2 0 7 0) 121 (277 * i + j)) → am_T X 221 27 [some (.ref 101), some (.int (nI i)), some (.int (nI k))] [] (jm_s M3 L G) (0, 0) _) 277 ?_ ?_ 0 (by decide) _ (fun _ _ => rfl) (fun j h => absurd h (Nat.not_lt_zero j))
        · intro M3 g1 g2
          refine rn_X6_again_101_27 ⟨fun _ => ⟨_, rfl, rfl, ?_⟩, fun h => absurd (nI_le (Nat.le_refl 277) (by decide)) h⟩
          refine jI_mk hA2 hC2 (fun q hq => by rw [wi_m_p _ _ (by omega), g1 q (by omega), wi_m_p _ _ (by omega)]) rfl (jRR_at hR2 (Nat.zero_le _) (wi_m_i _ _ _ _) (fun q q1 q2 => ?_) (fun j q1 q2 => ?_) ?_)
          · rw [wi_m_p _ _ q1, g1 q q2, wi_m_p _ _ q1]
          · rw [wi_m_eq, if_pos rfl, if_neg q2, g1 101 (by decide), wi_m_eq, if_pos rfl, if_neg q1]
          · rw [wi_m_p _ _ (show 102 ≠ 101 by decide)]
            exact jR_f (r5'.2 hsv) (fun j hj => g2 j hj) (Nat.le_trans hwp.1 (by decide))
        · intro k hk ih M3 g1 g2
          refine rn_X6_again_101_27 ⟨fun h => absurd h (nI_ge hk (by decide)), fun _ => ?_⟩
          rw [em, nI_add, nI_clamp (show 277 * i + k < 2147483648 by omega), nI_clamp (show k < 2147483648 by omega), nI_1]
          refine ⟨vp_in_nI (by omega) (by decide), vp_in_nI hk (by decide), ih _ (fun q hq => by rw [wi_m_p _ _ hq, g1 q hq]) (fun j hj => ?_)⟩
          rw [wi_m_eq, if_pos rfl]
          by_cases e : j = k
          · rw [if_pos e, e, g1 121 (by decide), wi_m_p _ _ (by decide)]
          · rw [if_neg e, g2 j (by omega)]
      have i2 : i = 0 ∨ i = 1 := by omega
      refine ⟨1, rn_X5_again_0_0 ⟨fun h => absurd h (nI_pos (by omega)), fun _ => ⟨fun h => absurd h hge, fun _ => ⟨vp_in_nI hi (by decide), fun h => ?_, fun _ => ⟨89 + 5 * i, ?_, ?_⟩⟩⟩⟩⟩
      · rw [ecl, e1] at h
        exact absurd h (by decide)
      · rw [ecl]
        rcases i2 with rfl | rfl
        · exact c4
        · exact c5
      · rcases i2 with rfl | rfl
        · exact rg_X5_again_0_30_v3 (cl_v (ct_copy_5_89 (c6.2 hsv) hwp.1 (fun M1 f1 h1 => ⟨rfl, fin M1 f1 h1⟩)))
        · exact rg_X5_again_0_30_v2 (cl_v (ct_copy_5_94 (c6.2 hsv) hwp.1 (fun M1 f1 h1 => ⟨rfl, fin M1 f1 h1⟩)))
    · have hf : ja_sv a i = false := Bool.eq_false_iff.mpr hsv
      have e1 : M 99 i = 0 := by rw [c6.1, hf]; rfl
      have e2 : M 122 i = 0 := by rw [r5.1, hf]; rfl
      refine pp_rd hA hC hR (v := 0) (fun Q hQ => rn_X5_again_0_0 ⟨fun _ => hQ, fun _ => ⟨fun _ => hQ, fun _ => ⟨vp_in_nI hi (by decide), fun _ => hQ, fun h => absurd ?_ h⟩⟩⟩) (fun Q hQ => rg_X6_again_101_0 (cl_i (fun _ h' => ct_in h') ?_))
      · rw [ecl, e1]
      rw [hy1]
      refine rn_X6_again_101_11 ⟨fun _ => hQ _ (jfr_0 M 0), fun _ => ⟨vp_in_nI hi (by decide), fun _ => hQ _ (jfr_0 M 0), fun h => absurd ?_ h⟩⟩
      rw [ecl]
      exact e2
/-- what a sheet makes of the PAY -/
def jh_en (kind v : Int32) : Int32 := if kind = 0 then v.toInt8.toInt32 else if kind = 1 then v.toInt16.toInt32 else v
def jh_py (kind v : Int32) : Int32 := if 1 < (if jh_en kind v < 999 then jh_en kind v else 999) then (if jh_en kind v < 999 then jh_en kind v else 999) else 1
def jh_sh (kind f st : Int32) (s : jS) : Nat → Int32 × jS
  | 0 => (0, s)
  | k + 1 => (if jm_of (jsp s) k 4 = jh_py kind (f + nI k * st) then (jh_sh kind f st s k).1 else (jh_sh kind f st s k).1 + 1, js_pay (jh_sh kind f st s k).2 k (jh_py kind (f + nI k * st)))
theorem jh_py_nat (kind v : Int32) : ∃ p, 1 ≤ p ∧ p ≤ 999 ∧ jh_py kind v = nI p := by
  have h1 : (1 : Int32) ≤ jh_py kind v := by
    unfold jh_py
    by_cases h : 1 < (if jh_en kind v < 999 then jh_en kind v else 999)
    · rw [if_pos h]
      exact Int32.le_of_lt h
    · rw [if_neg h]
      exact Int32.le_refl 1
  have h2 : jh_py kind v ≤ 999 := by
    unfold jh_py
    by_cases h : 1 < (if jh_en kind v < 999 then jh_en kind v else 999)
    · rw [if_pos h]
      by_cases h' : jh_en kind v < 999
      · rw [if_pos h']
        exact Int32.le_of_lt h'
      · rw [if_neg h']
        exact Int32.le_refl 999
    · rw [if_neg h]
      decide
  obtain ⟨p, hp, e⟩ := nI_of2 (n := 999) (M := 999) (by decide) (Int32.not_lt.mpr (Int32.le_trans (by decide) h1)) h2
  rw [e] at h1
  have h3 := (nI_le_iff (show 1 < 2147483648 by decide) (by omega)).mp h1
  exact ⟨p, h3, hp, e⟩
theorem jh_sh_w {kind f st : Int32} {s : jS} (h : jw s 20) : ∀ k, k ≤ jn s → jw (jh_sh kind f st s k).2 20 ∧ jn (jh_sh kind f st s k).2 = jn s
  | 0, _ => ⟨h, rfl⟩
  | k + 1, hk => by
    obtain ⟨i1, i2⟩ := jh_sh_w (kind := kind) (f := f) (st := st) h k (by omega)
    obtain ⟨p, p1, p2, e⟩ := jh_py_nat kind (f + nI k * st)
    refine ⟨?_, i2⟩
    show jw (js_pay (jh_sh kind f st s k).2 k (jh_py kind (f + nI k * st))) 20
    rw [e]
    exact jw_pay i1 (by rw [i2]; omega) p1 p2
/-- behind k the PAY is as it was -/
theorem jh_sh_of {kind f st : Int32} {s : jS} : ∀ k j, k ≤ j → jm_of (jsp (jh_sh kind f st s k).2) j 4 = jm_of (jsp s) j 4
  | 0, _, _ => rfl
  | k + 1, j, h => by
    show (if 5 * j + 4 = 5 * k + 4 then jh_py kind (f + nI k * st) else jsp (jh_sh kind f st s k).2 (5 * j + 4)) = _
    rw [if_neg (by omega)]
    exact jh_sh_of k j (by omega)
theorem js_pay_id {k : Nat} {p : Int32} (h : jm_of (jsp s) k 4 = p) : js_pay s k p = s := by
  unfold js_pay
  have : (fun i => if i = 5 * k + 4 then p else jsp s i) = jsp s := by
    funext j
    by_cases e : j = 5 * k + 4
    · rw [if_pos e, e, ← h]
      rfl
    · rw [if_neg e]
  rw [this]
theorem ct_sheetEntry {kind v : Int32} (hQ : Q (some (some (.int (jh_en kind v)))) (jm_s M L G)) : am_T X 105 0 [some (.int kind), some (.int v)] [] (jm_s M L G) (0, 0) Q := by
  unfold jh_en at hQ
  refine rn_X5_sheetEntry_0 ⟨fun h => ?_, fun h => ⟨fun h2 => ?_, fun h2 => ?_⟩⟩
  · rw [if_pos h] at hQ
    exact hQ
  · rw [if_neg h, if_pos h2] at hQ
    exact hQ
  · rw [if_neg h, if_neg h2] at hQ
    exact hQ
theorem ct_putPay (hS : jh M 5 s) (hn : jn s ≤ 20) {k : Nat} (hk : k < jn s) {p : Int32} (hQ : ∀ M', (∀ q, q ≠ 9 → M' q = M q) → jh M' 5 (js_pay s k p) → Q (some none) (jm_s M' L G)) : am_T X 36 0 [some (.ref 5), some (.int (nI k)), some (.int p)] [] (jm_s M L G) (0, 0) Q := by
  have e4 : nI k * 5 + 4 = nI (5 * k + 4) := by
    rw [show nI k * 5 = nI (5 * k) from (pk_mul k 5).trans (congrArg nI (by omega))]
    exact nI_add _ 4
  refine rn_X3_putPay_5_0 ?_
  rw [e4, nI_clamp (show 5 * k + 4 < 2147483648 by omega)]
  refine ⟨vp_in_nI (by omega) (by decide), hQ _ (fun q hq => wi_m_p _ _ hq) ?_⟩
  obtain ⟨g1, g2, g3, g4, g5, g6, g7⟩ := hS
  refine ⟨g1, fun i hi => ?_, g3, g4, g5, g6, g7⟩
  have hi2 : i < 5 * jn s := hi
  show _ = (if i = 5 * k + 4 then p else jsp s i)
  have := g2 i hi2
  simp only [wi_m_eq]
  grind
theorem jR_pay {f : Nat → Int32} (hR : jR f s) (hn : jn s ≤ 44) {k : Nat} (hk : k < jn s) {p : Int32} : jR (fun i => if i = 1 + (5 * k + 4) then p else f i) (js_pay s k p) := by
  obtain ⟨h1, h2, h3, h4, h5, h6, h7⟩ := hR
  refine ⟨?_, fun i hi => ?_, fun i hi => ?_, fun i hi => ?_, ?_, ?_, fun i hi => ?_⟩
  · show (if 0 = 1 + (5 * k + 4) then p else f 0) = _
    rw [if_neg (by omega)]; exact h1
  · have hi2 : i < 5 * jn s := hi
    show (if 1 + i = 1 + (5 * k + 4) then p else f (1 + i)) = if i = 5 * k + 4 then p else jsp s i
    have := h2 i hi2
    grind
  · show (if 221 + i = 1 + (5 * k + 4) then p else f (221 + i)) = _
    rw [if_neg (by omega)]; exact h3 i hi
  · show (if 241 + i = 1 + (5 * k + 4) then p else f (241 + i)) = _
    rw [if_neg (by omega)]; exact h4 i hi
  · show (if 245 = 1 + (5 * k + 4) then p else f 245) = _
    rw [if_neg (by omega)]; exact h5
  · show (if 246 = 1 + (5 * k + 4) then p else f 246) = _
    rw [if_neg (by omega)]; exact h6
  · show (if 247 + i = 1 + (5 * k + 4) then p else f (247 + i)) = _
    rw [if_neg (by omega)]; exact h7 i hi
theorem pp_sheet (hA : jAw a) (hC : jC M L G a) (hR : jRR M L a) (x1 x2 x3 x4 : Int32) : jpp X (jm_s M L G) 61 [some (.ref 0), some (.int x1), some (.int x2), some (.int x3), some (.int x4), none, none, none] 147 [some (.ref 101), some (.int x1), some (.int x2), some (.int x3), some (.int x4), none, none, none, none, none] := by
  have hn := hA.1.1
  have hR0 : jR ((wi_m M 101 5 0) 102) (ja_s a) := hR.1.1
  have bad : ∀ v : Int32, (∀ Q : am_Q, Q (some (some (.int v))) (jm_s M L G) → am_T X 61 0 [some (.ref 0), some (.int x1), some (.int x2), some (.int x3), some (.int x4), none, none, none] [] (jm_s M L G) (0, 0) Q) → (∀ Q : am_Q, Q (some (some (.int v))) (jm_s (wi_m M 101 5 0) L G) → am_T X 147 11 [some (.ref 101), some (.int x1), some (.int x2), some (.int x3), some (.int x4), none, none, none, none, none] [(.int (jb (decide (0 ≤ x1 ∧ x1 ≤ 3))))] (jm_s (wi_m M 101 5 0) L G) (0, 0) Q) → jpp X (jm_s M L G) 61 [some (.ref 0), some (.int x1), some (.int x2), some (.int x3), some (.int x4), none, none, none] 147 [some (.ref 101), some (.int x1), some (.int x2), some (.int x3), some (.int x4), none, none, none, none, none] := fun v c r => pp_rd hA hC hR (v := v) c (fun Q hQ => rg_X6_sheet_101_0 (cl_i (fun _ h' => ct_in h') (r Q (hQ _ (jfr_0 M 0)))))
  by_cases hk : 0 ≤ x1 ∧ x1 ≤ 3
  · have hk1 : ¬ x1 < 0 := Int32.not_lt.mpr hk.1
    have hk2 : ¬ 3 < x1 := Int32.not_lt.mpr hk.2
    by_cases h20 : x2 ≤ 20
    · by_cases h3 : x1 = 3
      · refine bad (-3) (fun Q hQ => rn_X5_sheet_0_0 ⟨fun e => absurd e hk1, fun _ => ⟨fun e => absurd e hk2, fun _ => ⟨fun _ => ⟨fun _ => hQ, fun e => absurd h3 e⟩, fun e => absurd h20 e⟩⟩⟩) (fun Q hQ => ?_)
        rw [jb_y (decide_eq_true hk)]
        exact rn_X6_sheet_101_11 ⟨fun e => absurd e (by decide), fun _ => ⟨fun _ => ⟨fun _ => hQ, fun e => absurd h3 e⟩, fun e => absurd h20 e⟩⟩
      by_cases h0 : 0 ≤ x2
      · obtain ⟨n, hn20, rfl⟩ := nI_of2 (n := 20) (M := 20) (by decide) (Int32.not_lt.mpr h0) h20
        -- how many there are to go through
        have hmin : ∃ m, m ≤ jn (ja_s a) ∧ m ≤ n ∧ (m = jn (ja_s a) ∨ m = n) := by
          by_cases e : n ≤ jn (ja_s a)
          · exact ⟨n, e, Nat.le_refl _, Or.inr rfl⟩
          · exact ⟨jn (ja_s a), Nat.le_refl _, by omega, Or.inl rfl⟩
        obtain ⟨m, hm1, hm2, hm3⟩ := hmin
        obtain ⟨w1, w2⟩ := jh_sh_w (kind := x1) (f := x3) (st := x4) hA.1 m hm1
        refine ⟨(jh_sh x1 x3 x4 (ja_s a) m).1, rn_X5_sheet_0_0 ⟨fun e => absurd e hk1, fun _ => ⟨fun e => absurd e hk2, fun _ => ⟨fun _ => ⟨fun e => absurd e h3, fun _ => ⟨fun _ => ?_, fun e => absurd h0 e⟩⟩, fun e => absurd h20 e⟩⟩⟩⟩
        refine lp_dn (P := fun k => ∀ M1, (∀ q, q ≠ 9 → M1 q = M q) → jh M1 5 (jh_sh x1 x3 x4 (ja_s a) k).2 → am_T X 61 38 [some (.ref 0), some (.int x1), some (.int (nI n)), some (.int x3), some (.int x4), some (.int (jh_sh x1 x3 x4 (ja_s a) k).1), some (.int (nI k)), none] [] (jm_s M1 L G) (0, 0) _) m ?_ ?_ 0 (Nat.zero_le _) M (fun _ _ => rfl) hC.1.1.1
        · intro M1 f1 h1
          have fin : ∃ K : am_S → Prop, am_T X 1 0 [some (.ref 15), some (.ref 5), none] [] (jm_s M1 L G) (0, 0) (am_qv K) ∧ ∀ σ', K σ' → am_T X 61 125 [none, none, none, none, none, some (.int (jh_sh x1 x3 x4 (ja_s a) m).1), none, none] [] σ' (0, 0) (am_qi (fun v' σ1 => (v', σ1.1, σ1.2.2.2.2) = ((jh_sh x1 x3 x4 (ja_s a) m).1, am_SH, 1) ∧ am_T X 147 0 [some (.ref 101), some (.int x1), some (.int (nI n)), some (.int x3), some (.int x4), none, none, none, none, none] [] σ1 (0, 0) (am_qi (fun v'' σ2 => v'' = (jh_sh x1 x3 x4 (ja_s a) m).1 ∧ jI σ2)))) := by
            refine cl_v (ct_reckon_15_5 h1 w1 (fun M2 f2 hk' => ⟨rfl, rg_X5_sheet_0_125 ⟨_, rfl, rfl, ?_⟩⟩))
            have hC2 : jC M2 L G (ja_at a (jh_sh x1 x3 x4 (ja_s a) m).2 (ja_pn a)) := jC_at (M2 := M2) hC (Nat.le_refl _) (by rw [f2 0 (by decide), f1 0 (by decide)]; exact hC.1.2.1.1) (fun q q1 q2 => by rw [f2 q (by omega), f1 q (by omega)]) (jh_f h1 (fun q q1 q2 => f2 q (by omega))) hk'
            have hR2 : jRR M2 L a := jRR_f hR (fun q q1 q2 => by rw [f2 q (by omega), f1 q (by omega)]) rfl
            have hA2 : jAw (ja_at a (jh_sh x1 x3 x4 (ja_s a) m).2 (ja_pn a)) := ⟨w1, hA.2⟩
            refine rg_X6_sheet_101_0 (cl_i (fun _ h' => ct_in h') ?_)
            rw [jb_y (decide_eq_true hk)]
            refine rn_X6_sheet_101_11 ⟨fun e => absurd e (by decide), fun _ => ⟨fun _ => ⟨fun e => absurd e h3, fun _ => ⟨fun _ => ?_, fun e => absurd h0 e⟩⟩, fun e => absurd h20 e⟩⟩
            have e0 : x3 = x3 + nI 0 * x4 := by
              rw [show (nI 0 : Int32) = 0 from rfl, Int32.zero_mul, Int32.add_zero]
            suffices st : am_T X 147 46 [some (.ref 101), some (.int x1), some (.int (nI n)), none, some (.int x4), some (.int 0), some (.int (x3 + nI 0 * x4)), some (.int 0), none, none] [] (jm_s (wi_m M2 101 5 0) L G) (0, 0) (am_qi (fun v'' σ2 => v'' = (jh_sh x1 x3 x4 (ja_s a) m).1 ∧ jI σ2)) by
              rw [← e0] at st
              exact st
            refine lp_dn (P := fun k => ∀ M3, (∀ q, q ≠ 102 → M3 q = (wi_m M2 101 5 0) q) → jR (M3 102) (jh_sh x1 x3 x4 (ja_s a) k).2 → am_T X 147 46 [some (.ref 101), some (.int x1), some (.int (nI n)), none, some (.int x4), some (.int (jh_sh x1 x3 x4 (ja_s a) k).1), some (.int (x3 + nI k * x4)), some (.int (nI k)), none, none] [] (jm_s M3 L G) (0, 0) _) m ?_ ?_ 0 (Nat.zero_le _) _ (fun _ _ => rfl) hR2.1.1
            · intro M3 g1 g2
              have fin2 : am_qi (fun v'' σ2 => v'' = (jh_sh x1 x3 x4 (ja_s a) m).1 ∧ jI σ2) (some (some (.int (jh_sh x1 x3 x4 (ja_s a) m).1))) (jm_s M3 L G) := by
                refine ⟨_, rfl, rfl, jI_mk hA2 hC2 (fun q hq => by rw [g1 q (by omega), wi_m_p _ _ (by omega)]) rfl (jRR_at hR2 (Nat.le_refl _) (by rw [g1 101 (by decide)]; exact hR2.1.2.1.1) (fun q q1 q2 => by rw [g1 q q2, wi_m_p _ _ q1]) (fun i q1 q2 => by rw [g1 101 (by decide), wi_m_eq, if_pos rfl, if_neg q1]) g2)⟩
              refine rn_X6_sheet_101_46 ⟨fun _ => fin2, fun h => ⟨fun _ => fin2, fun h2 => ?_⟩⟩
              rcases hm3 with e | e
              · rw [g2.1, w2, e] at h2
                exact absurd (nI_le (Nat.le_refl _) (by omega)) h2
              · rw [e] at h
                exact absurd (nI_le (Nat.le_refl _) (by omega)) h
            · intro k hk5 ih M3 g1 g2
              obtain ⟨v1, v2⟩ := jh_sh_w (kind := x1) (f := x3) (st := x4) hA.1 k (by omega)
              have hkn : k < jn (jh_sh x1 x3 x4 (ja_s a) k).2 := by rw [v2]; omega
              have body : ∃ K : Int32 → am_S → Prop, am_T X 127 0 [some (.ref 101), some (.int (nI k)), some (.int 4)] [] (jm_s M3 L G) (0, 0) (am_qi K) ∧ ∀ v σ', K v σ' → am_T X 147 111 [some (.ref 101), some (.int x1), some (.int (nI n)), none, some (.int x4), none, some (.int (x3 + nI k * x4)), some (.int (nI k)), none, some (.int (jh_py x1 (x3 + nI k * x4)))] [(.int v), (.int (jh_sh x1 x3 x4 (ja_s a) k).1)] σ' (0, 0) (am_qi (fun v'' σ2 => v'' = (jh_sh x1 x3 x4 (ja_s a) m).1 ∧ jI σ2)) := by
                refine cl_i (fun _ h => ct_of_s g2 (by rw [v2]; omega) (w := 4) hkn (by decide) h) (rn_X6_sheet_101_111 ?_)
                rw [jh_sh_of k k (Nat.le_refl _), show ((1 : Int32) + 5 * nI k) + 4 = nI (1 + (5 * k + 4)) from jr_sp k 4, nI_clamp (show 1 + (5 * k + 4) < 2147483648 by omega), nI_1]
                have es : x3 + nI k * x4 + x4 = x3 + nI (k + 1) * x4 := by
                  rw [← nI_1, Int32.add_mul, Int32.one_mul, Int32.add_assoc]
                rw [es]
                have nx := ih (wi_m M3 102 (1 + (5 * k + 4)) (jh_py x1 (x3 + nI k * x4))) (fun q hq => by rw [wi_m_p _ _ hq, g1 q hq]) (by
                  rw [wi_m_f]
                  exact jR_pay g2 (by rw [v2]; omega) hkn)
                rw [jh_sh] at nx
                refine ⟨fun h => ⟨vp_in_nI (by omega) (by decide), ?_⟩, fun h => ⟨vp_in_nI (by omega) (by decide), ?_⟩⟩
                · rw [if_pos h] at nx
                  rw [Int32.add_zero]
                  exact nx
                · rw [if_neg h] at nx
                  exact nx
              unfold jh_py jh_en at body
              refine rn_X6_sheet_101_46 ⟨fun h => absurd h (nI_ge (by omega) (by omega)), fun _ => ⟨fun h => absurd h ?_, fun _ => ⟨fun h5 => ?_, fun h5 => ⟨fun h6 => ?_, fun h6 => ?_⟩⟩⟩⟩
              · rw [g2.1, v2]
                exact nI_ge (by omega) (by omega)
              · simp only [if_pos h5] at body
                exact body
              · simp only [if_neg h5, if_pos h6] at body
                exact body
              · simp only [if_neg h5, if_neg h6] at body
                exact body
          refine rn_X5_sheet_0_38 ⟨fun _ => fin, fun h => ⟨fun _ => fin, fun h2 => ?_⟩⟩
          rcases hm3 with e | e
          · rw [h1.1, w2, e] at h2
            exact absurd (nI_le (Nat.le_refl _) (by omega)) h2
          · rw [e] at h
            exact absurd (nI_le (Nat.le_refl _) (by omega)) h
        · intro k hk5 ih M1 f1 h1
          obtain ⟨v1, v2⟩ := jh_sh_w (kind := x1) (f := x3) (st := x4) hA.1 k (by omega)
          have hkn : k < jn (jh_sh x1 x3 x4 (ja_s a) k).2 := by rw [v2]; omega
          refine rn_X5_sheet_0_38 ⟨fun h => absurd h (nI_ge (by omega) (by omega)), fun _ => ⟨fun h => absurd h ?_, fun _ => cl_i (fun _ h => ct_sheetEntry h) (rg_X5_sheet_0_71 (cl_i (fun _ h => ct_numberOf_s h1 (by rw [v2]; omega) (w := 4) hkn (by decide) h) (rn_X5_sheet_0_89 ?_)))⟩⟩
          · rw [h1.1, v2]
            exact nI_ge (by omega) (by omega)
          rw [jh_sh_of k k (Nat.le_refl _), nI_1]
          refine ⟨fun h => ?_, fun h => ?_⟩
          · have hp : jm_of (jsp (ja_s a)) k 4 = jh_py x1 (x3 + nI k * x4) := h
            have nx := ih M1 f1
            rw [jh_sh, if_pos hp, js_pay_id ((jh_sh_of k k (Nat.le_refl _)).trans hp)] at nx
            exact nx h1
          · have hp : ¬ jm_of (jsp (ja_s a)) k 4 = jh_py x1 (x3 + nI k * x4) := h
            refine cl_v (ct_putPay h1 (by rw [v2]; omega) hkn (fun M2 f2 h2 => ⟨rfl, rg_X5_sheet_0_105 ?_⟩))
            rw [nI_1]
            have nx := ih M2 (fun q hq => by rw [f2 q hq, f1 q hq])
            rw [jh_sh, if_neg hp] at nx
            exact nx h2
      · refine bad (-2) (fun Q hQ => rn_X5_sheet_0_0 ⟨fun e => absurd e hk1, fun _ => ⟨fun e => absurd e hk2, fun _ => ⟨fun _ => ⟨fun e => absurd e h3, fun _ => ⟨fun e => absurd e h0, fun _ => hQ⟩⟩, fun e => absurd h20 e⟩⟩⟩) (fun Q hQ => ?_)
        rw [jb_y (decide_eq_true hk)]
        exact rn_X6_sheet_101_11 ⟨fun e => absurd e (by decide), fun _ => ⟨fun _ => ⟨fun e => absurd e h3, fun _ => ⟨fun e => absurd e h0, fun _ => hQ⟩⟩, fun e => absurd h20 e⟩⟩
    · refine bad (-1) (fun Q hQ => rn_X5_sheet_0_0 ⟨fun e => absurd e hk1, fun _ => ⟨fun e => absurd e hk2, fun _ => ⟨fun e => absurd e h20, fun _ => hQ⟩⟩⟩) (fun Q hQ => ?_)
      rw [jb_y (decide_eq_true hk)]
      exact rn_X6_sheet_101_11 ⟨fun e => absurd e (by decide), fun _ => ⟨fun e => absurd e h20, fun _ => hQ⟩⟩
  · refine bad (-1) (fun Q hQ => rn_X5_sheet_0_0 ⟨fun _ => hQ, fun h1 => ⟨fun _ => hQ, fun h2 => absurd ⟨Int32.not_lt.mp h1, Int32.not_lt.mp h2⟩ hk⟩⟩) (fun Q hQ => ?_)
    rw [jb_n (decide_eq_false hk)]
    exact rn_X6_sheet_101_11 ⟨fun _ => hQ, fun e => absurd rfl e⟩
end Undo
