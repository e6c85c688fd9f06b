/-! ===== pairs: years (written by wip/gen/gen_years.py) ===== -/
theorem jz_u32 (x : UInt32) : x.toInt32 = nI x.toNat := by
  unfold nI
  apply Int32.toBitVec_inj.mp
  simp
theorem jz_ushr (r : Int32) : ∃ u, u < 65536 ∧ am_ushr r 16 = nI u := by
  refine ⟨(r.toUInt32 >>> 16).toNat, ?_, jz_u32 _⟩
  rw [UInt32.toNat_shiftRight]
  have := r.toUInt32.toNat_lt
  rw [Nat.shiftRight_eq_div_pow]
  show r.toUInt32.toNat / 2 ^ 16 < 65536
  omega
def jz_n (r : Int32) : Int32 := r * 1103515245 + 12345
def jz_d (r n : Int32) : Int32 := am_rem (am_ushr r 16) n
theorem jz_d_nat (r : Int32) {n : Nat} (hn : 0 < n) (hn2 : n < 2147483648) : ∃ k, k < n ∧ jz_d r (nI n) = nI k := by
  obtain ⟨u, hu, e⟩ := jz_ushr r
  refine ⟨u % n, Nat.mod_lt u hn, ?_⟩
  unfold jz_d
  rw [e]
  exact am_rem_nI (by omega) hn hn2
/-- one that is drawn -/
def jz_p (r : Int32) (s : jS) : jS := js_put (if 20 ≤ jn s then js_drop s 0 else s) (jz_d (jz_n r) 5) (jz_d (jz_n (jz_n r)) 4) (jz_d (jz_n (jz_n (jz_n r))) 360) (if jz_d (jz_n (jz_n (jz_n r))) 360 + jz_d (jz_n (jz_n (jz_n (jz_n r)))) 40 < 359 then jz_d (jz_n (jz_n (jz_n r))) 360 + jz_d (jz_n (jz_n (jz_n (jz_n r)))) 40 else 359) (1 + jz_d (jz_n (jz_n (jz_n (jz_n (jz_n r))))) 300)
def jz_s (r : Int32) (s : jS) : Nat → Int32 × jS
  | 0 => (r, s)
  | i + 1 => (jz_n (jz_n (jz_n (jz_n (jz_n (jz_s r s i).1)))), jz_p (jz_s r s i).1 (jz_s r s i).2)
theorem jz_v (r : Int32) : jv (jz_d (jz_n r) 5) (jz_d (jz_n (jz_n r)) 4) (jz_d (jz_n (jz_n (jz_n r))) 360) (if jz_d (jz_n (jz_n (jz_n r))) 360 + jz_d (jz_n (jz_n (jz_n (jz_n r)))) 40 < 359 then jz_d (jz_n (jz_n (jz_n r))) 360 + jz_d (jz_n (jz_n (jz_n (jz_n r)))) 40 else 359) (1 + jz_d (jz_n (jz_n (jz_n (jz_n (jz_n r))))) 300) := by
  obtain ⟨c, hc, ec⟩ := jz_d_nat (jz_n r) (n := 5) (by decide) (by decide)
  obtain ⟨d, hd, ed⟩ := jz_d_nat (jz_n (jz_n r)) (n := 4) (by decide) (by decide)
  obtain ⟨f, hf, ef⟩ := jz_d_nat (jz_n (jz_n (jz_n r))) (n := 360) (by decide) (by decide)
  obtain ⟨t, ht, et⟩ := jz_d_nat (jz_n (jz_n (jz_n (jz_n r)))) (n := 40) (by decide) (by decide)
  obtain ⟨p, hp, ep⟩ := jz_d_nat (jz_n (jz_n (jz_n (jz_n (jz_n r))))) (n := 300) (by decide) (by decide)
  rw [show jz_d (jz_n r) 5 = nI c from ec, show jz_d (jz_n (jz_n r)) 4 = nI d from ed, show jz_d (jz_n (jz_n (jz_n r))) 360 = nI f from ef, show jz_d (jz_n (jz_n (jz_n (jz_n r)))) 40 = nI t from et, show jz_d (jz_n (jz_n (jz_n (jz_n (jz_n r))))) 300 = nI p from ep, nI_add, show (1 : Int32) + nI p = nI (1 + p) from nI_add 1 p]
  have ee : (if nI (f + t) < 359 then nI (f + t) else 359) = nI (if f + t < 359 then f + t else 359) := by
    have this : nI (f + t) < 359 ↔ f + t < 359 := nI_lt_iff (show f + t < 2147483648 by omega) (show 359 < 2147483648 by decide)
    by_cases h : f + t < 359
    · rw [if_pos h, if_pos (this.mpr h)]
    · rw [if_neg h, if_neg (fun e => h (this.mp e))]
      rfl
  rw [ee]
  refine ⟨⟨nI_pos' (by omega), nI_le (show c ≤ 4 by omega) (by decide)⟩, ⟨nI_pos' (by omega), nI_le (show d ≤ 3 by omega) (by decide)⟩, ⟨nI_pos' (by omega), nI_le (show f ≤ 359 by omega) (by decide)⟩, ⟨nI_le ?_ ?_, nI_le ?_ (by decide)⟩, ⟨nI_le (show 1 ≤ 1 + p by omega) (by omega), nI_le (show 1 + p ≤ 999 by omega) (by decide)⟩⟩
  · split <;> omega
  · split <;> omega
  · show (if f + t < 359 then f + t else 359) ≤ 359
    split <;> omega
theorem jz_p_w {r : Int32} {s : jS} (h : jw s 20) : jw (jz_p r s) 20 ∧ jn (if 20 ≤ jn s then js_drop s 0 else s) < 20 := by
  have hn := h.1
  unfold jz_p
  by_cases e : 20 ≤ jn s
  · simp only [if_pos e]
    have h1 : jn (js_drop s 0) = jn s - 1 := rfl
    exact ⟨jw_put (jw_drop h (by omega)) (by rw [h1]; omega) (jz_v r), by rw [h1]; omega⟩
  · simp only [if_neg e]
    exact ⟨jw_put h (by omega) (jz_v r), by omega⟩
theorem jz_s_w {r : Int32} {s : jS} (h : jw s 20) : ∀ i, jw (jz_s r s i).2 20
  | 0 => h
  | i + 1 => (jz_p_w (jz_s_w h i)).1
section Years
variable {X : Nat × (Nat → Int32)} {M : Nat → Nat → Int32} {L : Nat → Nat → Int64} {G : Nat → Nat → Option Nat} {Q : am_Q} {s : jS} {a : jA}
theorem ct_nextDraw {r : Int32} (hQ : Q (some (some (.int (jz_n r)))) (jm_s M L G)) : am_T X 106 0 [some (.int r)] [] (jm_s M L G) (0, 0) Q := rg_X5_nextDraw_0 hQ
theorem ct_drawn {r : Int32} {n : Nat} (hn : 0 < n) (hn2 : n < 2147483648) (hQ : Q (some (some (.int (jz_d r (nI n))))) (jm_s M L G)) : am_T X 107 0 [some (.int r), some (.int (nI n))] [] (jm_s M L G) (0, 0) Q :=
  rn_X5_drawn_0 ⟨fun _ => ⟨fun e => by have := (nI_eq0 hn2).mp e; omega, hQ⟩, fun h => absurd (nI_le (a := 1) (by omega) hn2) h⟩
theorem ct_draw {r : Int32} {n : Nat} (hn : 0 < n) (hn2 : n < 2147483648) (hQ : Q (some (some (.int (jz_d (jz_n r) (nI n))))) (jm_s (wi_m M 101 28 (jz_n r)) L G)) : am_T X 218 0 [some (.ref 101), some (.int (nI n))] [] (jm_s (wi_m M 101 28 r) L G) (0, 0) Q := by
  refine rn_X6_draw_101_0 ⟨fun e => by have := (nI_eq0 hn2).mp e; omega, ?_⟩
  rw [wi_m_i, wi_m_2]
  exact hQ
theorem pp_years (hA : jAw a) (hC : jC M L G a) (hR : jRR M L a) (x1 x2 : Int32) : jpp X (jm_s M L G) 96 [some (.ref 0), some (.int x1), some (.int x2), none, none, none, none, none, none, none] 219 [some (.ref 101), some (.int x1), some (.int x2), none, none, none, none, none, none] := by
  have hn := hA.1.1
  have hw44 := jw_44 hA.1
  have hS := hC.1.1.1
  by_cases hv : 1 ≤ x2 ∧ x2 ≤ 30
  · obtain ⟨n, hn30, rfl⟩ := nI_of2 (n := 30) (M := 30) (by decide) (Int32.not_lt.mpr (Int32.le_trans (by decide) hv.1)) hv.2
    have hwN := jz_s_w (r := x1) hA.1 n
    refine pp_wb (v := jc_all (jz_s x1 (ja_s a) n).2) (l := [(jc_J (jz_s x1 (ja_s a) n).2).toInt64, (nI (jc_gp (jz_s x1 (ja_s a) n).2).2.1).toInt64]) (Nat.le_of_ble_eq_true rfl) hA hC hR (fun Q hQ => ?_) (fun M1 L1 hR1 Q hQ => ?_)
    · refine rn_X5_years_0_0 ⟨fun e => absurd e (Int32.not_lt.mpr hv.1), fun _ => ⟨fun _ => cl_v (ct_copy_10_5 hS hn (fun M1 f1 h1 => ⟨rfl, rg_X5_years_0_24 ?_⟩)), fun e => absurd hv.2 e⟩⟩
      refine lp_dn (P := fun i => ∀ M2, (∀ q, q < 10 ∨ 14 < q → M2 q = M q) → jh M2 10 (jz_s x1 (ja_s a) i).2 → am_T X 96 29 [some (.ref 0), none, some (.int (nI n)), some (.int (jz_s x1 (ja_s a) i).1), some (.int (nI i)), none, none, none, none, none] [] (jm_s M2 L G) (0, 0) Q) n ?_ ?_ 0 (Nat.zero_le _) M1 f1 h1
      · intro M2 f2 h2
        refine rn_X5_years_0_29 ⟨fun _ => cl_v (ct_reckon_31_10 h2 (jw_44 hwN) (fun M3 f3 h3 => ⟨rfl, rg_X5_years_0_167 (cl_v (ct_clear ⟨rfl, rg_X5_years_0_174 (cl_v (ct_tell (l := []) (Nat.le_of_ble_eq_true rfl) ⟨rfl, rg_X5_years_0_189 (cl_v (ct_tell (l := [_]) (Nat.le_of_ble_eq_true rfl) ⟨rfl, rg_X5_years_0_207 ?_⟩))⟩))⟩))⟩)), fun h => absurd (nI_le (Nat.le_refl _) (by omega)) h⟩
        have hQ := hQ M3 (fun q hq => by rw [f3 q (by omega), f2 q (by omega)])
        have ea : M3 31 12 = jc_all (jz_s x1 (ja_s a) n).2 := h3.2.1.2.2.2.2
        have eb : M3 31 8 = jc_J (jz_s x1 (ja_s a) n).2 := h3.2.1.1
        have ec : M3 32 7 = nI (jc_gp (jz_s x1 (ja_s a) n).2).2.1 := h3.1.2.1
        rw [← ea, ← eb, ← ec] at hQ
        exact hQ
      · intro i hi ih M2 f2 h2
        have hwi := jz_s_w (r := x1) hA.1 i
        have hni := hwi.1
        obtain ⟨wp, np⟩ := jz_p_w (r := (jz_s x1 (ja_s a) i).1) hwi
        have hvp := jvB_iff.mpr (jz_v (jz_s x1 (ja_s a) i).1)
        refine rn_X5_years_0_29 ⟨fun h => absurd h (nI_ge hi (by omega)), fun _ => ?_⟩
        refine cl_i (fun _ h => ct_nextDraw h) (rg_X5_years_0_39 (cl_i (fun _ h => ct_drawn (n := 5) (by decide) (by decide) h) (rg_X5_years_0_45 (cl_i (fun _ h => ct_nextDraw h) (rg_X5_years_0_51 (cl_i (fun _ h => ct_drawn (n := 4) (by decide) (by decide) h) (rg_X5_years_0_57 (cl_i (fun _ h => ct_nextDraw h) (rg_X5_years_0_63 (cl_i (fun _ h => ct_drawn (n := 360) (by decide) (by decide) h) (rg_X5_years_0_71 (cl_i (fun _ h => ct_nextDraw h) (rg_X5_years_0_77 (cl_i (fun _ h => ct_drawn (n := 40) (by decide) (by decide) h) (rg_X5_years_0_89 (cl_i (fun _ h => ct_nextDraw h) (rg_X5_years_0_99 (cl_i (fun _ h => ct_drawn (n := 300) (by decide) (by decide) h) (rn_X5_years_0_108 ?_)))))))))))))))))))
        rw [h2.1]
        refine ⟨fun h => ?_, fun h => ?_⟩
        · have hlt := (nI_lt_iff (show jn (jz_s x1 (ja_s a) i).2 < 2147483648 by omega) (show 20 < 2147483648 by decide)).mp h
          have hnp : ¬ 20 ≤ jn (jz_s x1 (ja_s a) i).2 := by omega
          refine cl_w (ct_bring h2 hwi.1 (fun M3 f3 h3 => ⟨_, rfl, rg_X5_years_0_149 ?_⟩))
          rw [nI_1]
          refine ih M3 (fun q hq => by rw [f3 q hq, f2 q hq]) ?_
          show jh M3 10 (jz_p (jz_s x1 (ja_s a) i).1 (jz_s x1 (ja_s a) i).2)
          have ej : ∀ x1' x2' x3' x4' x5', jvB x1' x2' x3' x4' x5' = true → (jo_bring (jz_s x1 (ja_s a) i).2 x1' x2' x3' x4' x5').2 = js_put (jz_s x1 (ja_s a) i).2 x1' x2' x3' x4' x5' := by
            intro x1' x2' x3' x4' x5' hv'
            unfold jo_bring
            rw [if_pos hv', if_neg hnp]
          unfold jz_p
          rw [if_neg hnp, ← ej _ _ _ _ _ hvp]
          exact h3
        · have hge : 20 ≤ jn (jz_s x1 (ja_s a) i).2 := by
            rcases Nat.lt_or_ge (jn (jz_s x1 (ja_s a) i).2) 20 with q | q
            · exact absurd ((nI_lt_iff (show jn (jz_s x1 (ja_s a) i).2 < 2147483648 by omega) (show 20 < 2147483648 by decide)).mpr q) h
            · exact q
          rw [if_pos hge] at np
          have ed : jo_drop (jz_s x1 (ja_s a) i).2 0 = (nI (jn (jz_s x1 (ja_s a) i).2 - 1), js_drop (jz_s x1 (ja_s a) i).2 0) := by
            unfold jo_drop
            rw [if_pos ⟨Int32.le_refl 0, nI_lt (a := 0) (by omega) (by omega)⟩]
            rfl
          refine cl_w (ct_drop h2 (by omega) (fun M3 f3 h3 => ⟨_, rfl, rg_X5_years_0_131 ?_⟩))
          rw [ed] at h3
          have h3' : jh M3 10 (js_drop (jz_s x1 (ja_s a) i).2 0) := h3
          refine cl_w (ct_bring h3' (by omega) (fun M4 f4 h4 => ⟨_, rfl, rg_X5_years_0_149 ?_⟩))
          rw [nI_1]
          refine ih M4 (fun q hq => by rw [f4 q hq, f3 q hq, f2 q hq]) ?_
          show jh M4 10 (jz_p (jz_s x1 (ja_s a) i).1 (jz_s x1 (ja_s a) i).2)
          have ej : ∀ x1' x2' x3' x4' x5', jvB x1' x2' x3' x4' x5' = true → (jo_bring (js_drop (jz_s x1 (ja_s a) i).2 0) x1' x2' x3' x4' x5').2 = js_put (js_drop (jz_s x1 (ja_s a) i).2 0) x1' x2' x3' x4' x5' := by
            intro x1' x2' x3' x4' x5' hv'
            unfold jo_bring
            rw [if_pos hv', if_neg (by omega)]
          unfold jz_p
          rw [if_pos hge, ← ej _ _ _ _ _ hvp]
          exact h4
    · refine rg_X6_years_101_0 (cl_i (fun _ h => ct_in h) ?_)
      rw [jb_y (decide_eq_true hv)]
      refine rn_X6_years_101_12 ⟨fun e => absurd e (by decide), fun _ => ?_⟩
      have hR0 : jR ((wi_m (wi_m M1 101 5 0) 101 28 x1) 102) (ja_s a) := hR1.1.1
      refine cl_v (ct_layAside hR0 hw44 (fun M2 f1 f2 h22 h13 ht hL => ⟨rfl, rg_X6_years_101_26 ?_⟩))
      have e28 : M2 = wi_m M2 101 28 x1 := by
        have : M2 101 28 = x1 := by rw [f2 28 (by decide) (by decide), wi_m_i]
        rw [← this, wi_m_id]
      have f1' : ∀ q, q ≠ 101 → q < 106 ∨ 116 < q → M2 q = M1 q := fun q h1 h2 => by rw [f1 q h1 h2, wi_m_p _ _ h1, wi_m_p _ _ h1]
      have f2' : ∀ i, i ≠ 5 → i ≠ 15 → i ≠ 22 → i ≠ 28 → M2 101 i = M1 101 i := fun i h1 h2 h3 h4 => by rw [f2 i h2 h3, wi_m_eq, if_pos rfl, if_neg h4, wi_m_eq, if_pos rfl, if_neg h1]
      rw [e28]
      refine lp_dn (P := fun i => ∀ M3, (∀ q, q ≠ 102 → M3 q = M2 q) → jR (M3 102) (jz_s x1 (ja_s a) i).2 → am_T X 219 28 [some (.ref 101), none, some (.int (nI n)), some (.int (nI i)), none, none, none, none, none] [] (jm_s (wi_m M3 101 28 (jz_s x1 (ja_s a) i).1) L1 G) (0, 0) Q) n ?_ ?_ 0 (Nat.zero_le _) M2 (fun _ _ => rfl) (by rw [f1 102 (by decide) (by decide)]; exact hR0)
      · intro M3 g1 g2
        have hR3 : jR ((wi_m M3 101 28 (jz_s x1 (ja_s a) n).1) 102) (jz_s x1 (ja_s a) n).2 := g2
        refine rn_X6_years_101_28 ⟨fun _ => cl_w (ct_allOf hR3 (jw_44 hwN) (fun M4 k1 k2 hL4 => ⟨_, rfl, rg_X6_years_101_124 ?_⟩)), fun h => absurd (nI_le (Nat.le_refl _) (by omega)) h⟩
        have hQ := hQ
        rw [← hL4.2.1] at hQ
        refine cl_i (fun _ h => ct_totalOf (jL_w hL4 (by decide)) (jw_44 hwN) h) (rg_X6_years_101_135 (cl_v (ct_rtell (l := []) (Nat.le_of_ble_eq_true rfl) ⟨rfl, rg_X6_years_101_139 ?_⟩)))
        refine cl_v (ct_rtell (l := [_]) (Nat.le_of_ble_eq_true rfl) ⟨rfl, rg_X6_years_101_148 (cl_v (ct_comesBack (fun M5 u1 u2 => ⟨rfl, rg_X6_years_101_152 ?_⟩)))⟩)
        have E : ∀ q, q ≠ 101 → q ≠ 102 → q < 106 ∨ 118 < q → M5 q = M1 q := fun q q1 q2 q3 => by rw [u1 q q2, wi_m_p _ _ q1, k1 q q1 (by omega), wi_m_p _ _ q1, g1 q q2, f1' q q1 (by omega)]
        refine hQ M5 (fun q hq => E q (by omega) (by omega) (by omega)) (jRR_wb hR1 E (fun i q1 q2 q3 q4 q5 => ?_) ?_ ?_)
        · rw [u1 101 (by decide), wi_m_eq, if_pos rfl, if_neg q1, k2 i q3, wi_m_eq, if_pos rfl, if_neg q5, g1 101 (by decide), f2' i q2 q3 q4 q5]
        · rw [u1 101 (by decide), wi_m_i]
          rfl
        · refine jR_f h13 (fun i hi => ?_) (by omega)
          rw [u2 i hi, wi_m_p _ _ (show 113 ≠ 101 by decide), k1 113 (by decide) (by decide), wi_m_p _ _ (show 113 ≠ 101 by decide), g1 113 (by decide)]
      · intro i hi ih M3 g1 g2
        have hwi := jz_s_w (r := x1) hA.1 i
        have hni := hwi.1
        obtain ⟨wp, np⟩ := jz_p_w (r := (jz_s x1 (ja_s a) i).1) hwi
        refine rn_X6_years_101_28 ⟨fun h => absurd h (nI_ge hi (by omega)), fun _ => ?_⟩
        refine cl_i (fun _ h => ct_draw (n := 5) (by decide) (by decide) h) (rg_X6_years_101_38 (cl_i (fun _ h => ct_draw (n := 4) (by decide) (by decide) h) (rg_X6_years_101_45 (cl_i (fun _ h => ct_draw (n := 360) (by decide) (by decide) h) (rg_X6_years_101_54 (cl_i (fun _ h => ct_draw (n := 40) (by decide) (by decide) h) (rg_X6_years_101_67 (cl_i (fun _ h => ct_draw (n := 300) (by decide) (by decide) h) (rn_X6_years_101_80 ?_)))))))))
        rw [wi_m_p _ _ (show 102 ≠ 101 by decide), g2.1, show ∀ x : Int32, x + 1 = 1 + x from fun x => Int32.add_comm x 1]
        generalize hr5 : jz_n (jz_n (jz_n (jz_n (jz_n (jz_s x1 (ja_s a) i).1)))) = r5
        have fin : ∀ t, t = (if 20 ≤ jn (jz_s x1 (ja_s a) i).2 then js_drop (jz_s x1 (ja_s a) i).2 0 else (jz_s x1 (ja_s a) i).2) → ∀ M4, (∀ q, q ≠ 102 → M4 q = (wi_m M3 101 28 r5) q) → jR (M4 102) t → am_T X 219 100 [some (.ref 101), none, some (.int (nI n)), some (.int (nI i)), some (.int (jz_d (jz_n (jz_s x1 (ja_s a) i).1) 5)), some (.int (jz_d (jz_n (jz_n (jz_s x1 (ja_s a) i).1)) 4)), some (.int (jz_d (jz_n (jz_n (jz_n (jz_s x1 (ja_s a) i).1))) 360)), some (.int (if jz_d (jz_n (jz_n (jz_n (jz_s x1 (ja_s a) i).1))) 360 + jz_d (jz_n (jz_n (jz_n (jz_n (jz_s x1 (ja_s a) i).1)))) 40 < 359 then jz_d (jz_n (jz_n (jz_n (jz_s x1 (ja_s a) i).1))) 360 + jz_d (jz_n (jz_n (jz_n (jz_n (jz_s x1 (ja_s a) i).1)))) 40 else 359)), some (.int (1 + jz_d r5 300))] [] (jm_s M4 L1 G) (0, 0) Q := by
          intro t et M4 k1 k2
          subst et
          refine rg_X6_years_101_100 (cl_v (ct_put k2 (by omega) (fun M5 u1 u2 => ⟨rfl, rg_X6_years_101_114 ?_⟩)))
          rw [nI_1]
          have e5 : M5 = wi_m M5 101 28 r5 := by
            have : M5 101 28 = r5 := by rw [u1 101 (by decide), k1 101 (by decide), wi_m_i]
            rw [← this, wi_m_id]
          have nx := ih (wi_m M5 101 28 (M3 101 28)) (fun q hq => ?_) ?_
          · rw [wi_m_2] at nx
            have e6 : (jz_s x1 (ja_s a) (i + 1)).1 = r5 := hr5
            rw [e6, ← e5] at nx
            exact nx
          · by_cases h101 : q = 101
            · subst h101
              funext j
              rw [wi_m_eq, if_pos rfl, ← g1 101 (by decide)]
              by_cases hj : j = 28
              · rw [if_pos hj, hj]
              · rw [if_neg hj, u1 101 (by decide), k1 101 (by decide), wi_m_eq, if_pos rfl, if_neg hj]
            · rw [wi_m_p _ _ h101, u1 q hq, k1 q hq, wi_m_p _ _ h101, g1 q hq]
          · rw [wi_m_p _ _ (show 102 ≠ 101 by decide), ← hr5] at *
            exact u2
        refine ⟨fun h => ?_, fun h => ?_⟩
        · have h20 := (nI_eq_iff (show jn (jz_s x1 (ja_s a) i).2 < 2147483648 by omega) (show 20 < 2147483648 by decide)).mp h
          have g2' : jR ((wi_m M3 101 28 r5) 102) (jz_s x1 (ja_s a) i).2 := g2
          refine cl_v (ct_rdrop (k := 0) g2' (by omega) (by omega) (fun M4 k1 k2 => ⟨rfl, fin _ (by rw [if_pos (by omega)]) M4 k1 k2⟩))
        · have h20 : ¬ jn (jz_s x1 (ja_s a) i).2 = 20 := fun e => h (by rw [e]; rfl)
          exact fin _ (by rw [if_neg (by omega)]) _ (fun _ _ => rfl) g2
  · refine pp_rd hA hC hR (v := -1) (fun Q hQ => rn_X5_years_0_0 ⟨fun _ => hQ, fun h1 => ⟨fun h2 => absurd ⟨Int32.not_lt.mp h1, h2⟩ hv, fun _ => hQ⟩⟩) (fun Q hQ => rg_X6_years_101_0 (cl_i (fun _ h => ct_in h) ?_))
    rw [jb_n (decide_eq_false hv)]
    exact rn_X6_years_101_12 ⟨fun _ => hQ _ (jfr_0 M 0), fun e => absurd rfl e⟩
end Years
