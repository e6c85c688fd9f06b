/-! ===== pairs: best (written by wip/gen/gen_best.py) ===== -/
/-! how much can be paid -/
theorem jm_cg_b {cr : Int32} {gf gl ld wg : Nat → Int32} {b : Nat} (hb : b < 2147483648) (h : ∀ m, m < 360 → ∃ k, k ≤ b ∧ wg m = nI k) : ∀ {c : Nat}, (∀ g, g < c → ∃ a b : Nat, gf g = nI (a + 1) ∧ gl g = nI b ∧ a + 1 + b ≤ 360) → ∀ m, m < 360 → ∃ k, k ≤ b ∧ (jm_cg cr gf gl ld wg c).2 m = nI k
  | 0, _ => h
  | c + 1, hg => by
    have ih := jm_cg_b (cr := cr) (gf := gf) (gl := gl) (ld := ld) hb h (c := c) (fun g hc => hg g (by omega))
    obtain ⟨a, b', ha, hb', hab⟩ := hg c (by omega)
    by_cases h1 : cr < gl c
    · have e : jm_cg cr gf gl ld wg (c + 1) = jm_cg cr gf gl ld wg c := by
        rw [jm_cg, if_pos h1]
      rw [e]
      exact ih
    · rw [jm_cg_s h1 ha hb' hab]
      intro m hm
      unfold jm_cr
      by_cases h2 : a + 1 ≤ m ∧ m < a + 1 + b'
      · obtain ⟨k, hk, e⟩ := ih a (by omega)
        simp only [if_pos h2]
        refine ⟨k / 2, by omega, ?_⟩
        rw [e]
        exact pk_div (d := 2) (by omega) (by decide) (by decide)
      · simp only [if_neg h2]
        exact ih m hm
theorem jc_wg_nat {s : jS} {b : Nat} (h : jw s b) (hb : b ≤ 64) : ∀ m, m < 360 → ∃ k, k ≤ 3996 ∧ jc_wg s m = nI k := by
  obtain ⟨h1, h2, h3⟩ := h
  refine jm_cg_b (by decide) ?_ (fun g hg => (jm_fg_ok (jm_B (jsp s) (jod s) (jn s)) 360 (Nat.le_refl _)).2 g hg)
  intro m hm
  show ∃ k, k ≤ 3996 ∧ jm_wg (jsp s) (jix s) (jm_st (jsp s) (jod s) m (jn s)) m = nI k
  rcases jm_st_by (od := jod s) h2 (show jn s ≤ 64 by omega) m (jn s) (Nat.le_refl _) with ⟨e1, e2⟩ | ⟨b', hb', e1, e2⟩
  · refine ⟨0, by omega, ?_⟩
    unfold jm_wg
    rw [if_pos e1]
    rfl
  · rw [e1, (jm_ld_b (ix := jix s) h2 (by omega) hb' m).2]
    obtain ⟨c, d, f, t, p, -, -, -, -, e4, b0, b1, b2, b3, b4, b5⟩ := h2 b' hb'
    obtain ⟨i, hi, ei⟩ := h3.2.2.1 (m / 12) (by omega)
    have hp : p * i ≤ 999 * 400 := Nat.mul_le_mul b5 hi
    refine ⟨p * i / 100, by omega, ?_⟩
    rw [e4, ei, pk_mul]
    exact pk_div (d := 100) (by omega) (by decide) (by decide)
theorem jm_sm_pr {f g : Nat → Int32} : ∀ {n : Nat}, n ≤ 360 → (∀ k, k < n → (f k = 0 ∧ g k = 0) ∨ (f k = 1 ∧ ∃ w, w ≤ 3996 ∧ g k = nI w)) → ∃ o w, o ≤ n ∧ w ≤ 3996 * o ∧ jm_sm f n = nI o ∧ jm_sm g n = nI w
  | 0, _, _ => ⟨0, 0, Nat.le_refl 0, Nat.le_refl 0, rfl, rfl⟩
  | n + 1, hn, h => by
    obtain ⟨o, w, h1, h2, e1, e2⟩ := jm_sm_pr (n := n) (by omega) (fun k hk => h k (by omega))
    rcases h n (by omega) with ⟨f0, g0⟩ | ⟨f1, w', hw', g1⟩
    · exact ⟨o, w, by omega, h2, by rw [jm_sm_s, e1, f0, Int32.add_zero], by rw [jm_sm_s, e2, g0, Int32.add_zero]⟩
    · exact ⟨o + 1, w + w', by omega, by omega, by rw [jm_sm_s, e1, f1, nI_1], by rw [jm_sm_s, e2, g1, nI_add]⟩
theorem jc_ww_nat {s : jS} {b : Nat} (h : jw s b) (hb : b ≤ 64) (c : Nat) : ∃ k, k ≤ 3996 ∧ jc_ww s c = nI k := by
  obtain ⟨o, w, h1, h2, e1, e2⟩ := jm_sm_pr (f := fun m => if jc_ld s m = nI c then 1 else 0) (g := fun m => if jc_ld s m = nI c then jc_wg s m else 0) (n := 360) (Nat.le_refl _) (fun k hk => by
    by_cases e : jc_ld s k = nI c
    · obtain ⟨w, hw, ew⟩ := jc_wg_nat h hb k hk
      exact Or.inr ⟨if_pos e, w, hw, (if_pos e).trans ew⟩
    · exact Or.inl ⟨if_neg e, if_neg e⟩)
  have e1' : jc_ow s c = nI o := e1
  have e2' : jc_os s c = nI w := e2
  unfold jc_ww
  rw [e1', e2', jm_bm_nat (by omega)]
  by_cases hz : nI o = 0
  · rw [if_pos hz]
    exact ⟨0, by omega, rfl⟩
  · rw [if_neg hz]
    have ho : 0 < o := by
      rcases Nat.eq_zero_or_pos o with e | e
      · exact absurd (by rw [e]; rfl) hz
      · exact e
    refine ⟨w / o, ?_, pk_div (by omega) ho (by omega)⟩
    calc w / o ≤ (3996 * o) / o := Nat.div_le_div_right h2
      _ = 3996 := Nat.mul_div_cancel _ ho
theorem jc_W_nat {s : jS} {b : Nat} (h : jw s b) (hb : b ≤ 64) : (∃ k, k ≤ 3996 ∧ jc_W s = nI k) ∧ ∃ j, j ≤ 360 ∧ jc_J s = nI j := by
  obtain ⟨o, w, h1, h2, e1, e2⟩ := jm_sm_pr (f := fun m => if jc_ld s m = -1 then 0 else 1) (g := jc_wg s) (n := 360) (Nat.le_refl _) (fun k hk => by
    by_cases e : jc_ld s k = -1
    · exact Or.inl ⟨if_pos e, jc_z h hb hk e⟩
    · exact Or.inr ⟨if_neg e, jc_wg_nat h hb k hk⟩)
  have e1' : jc_J s = nI o := (jc_J_eq h hb).trans e1
  have e2' : jm_sm (jc_os s) 5 = nI w := (jc_T_eq h hb).trans e2
  refine ⟨?_, o, h1, e1'⟩
  unfold jc_W
  rw [e1', e2', jm_bm_nat (by omega)]
  by_cases hz : nI o = 0
  · rw [if_pos hz]
    exact ⟨0, by omega, rfl⟩
  · rw [if_neg hz]
    have ho : 0 < o := by
      rcases Nat.eq_zero_or_pos o with e | e
      · exact absurd (by rw [e]; rfl) hz
      · exact e
    refine ⟨w / o, ?_, pk_div (by omega) ho (by omega)⟩
    calc w / o ≤ (3996 * o) / o := Nat.div_le_div_right h2
      _ = 3996 := Nat.mul_div_cancel _ ho
theorem jm_su_nat {s : jS} (h : jwn s) {c n g : Nat} (hc : c < 5) (hn : n ≤ 360) (hg : g ≤ 3996) : ∃ k, k ≤ 180884 ∧ jm_su (jlw s) c (nI n) (nI g) = nI k := by
  obtain ⟨l1, h1, e1⟩ := h.1 (4 * c + 1) (by omega)
  obtain ⟨l2, h2, e2⟩ := h.1 (4 * c + 2) (by omega)
  have b1 : n * l1 ≤ 360 * 359 := Nat.mul_le_mul hn h1
  have b2 : n * l2 ≤ 360 * 359 := Nat.mul_le_mul hn h2
  have b3 : n * l2 * g ≤ 360 * 359 * 3996 := Nat.mul_le_mul b2 hg
  refine ⟨n * l1 + n * l2 * g / 10000, by omega, ?_⟩
  unfold jm_su
  rw [e1, e2, pk_mul, pk_mul, pk_mul, show (10000 : Int32) = nI 10000 from rfl, pk_div (by omega) (by decide) (by decide), nI_add]
theorem jc_py_nat {s : jS} {b : Nat} (h : jw s b) (hb : b ≤ 64) {c : Nat} (hc : c < 5) : ∃ k, k ≤ 390709440 ∧ jc_py s c = nI k := by
  have hwn := h.2.2.2
  obtain ⟨g, hg, eg⟩ := jc_ww_nat h hb c
  obtain ⟨⟨W, hW, eW⟩, J, hJ, eJ⟩ := jc_W_nat h hb
  obtain ⟨o, ho, eo⟩ := jc_ow_nat s c
  obtain ⟨ba, hba, eba, -⟩ := jc_ba_nat (s := s) hc
  have na : ∃ k, k ≤ 390709440 ∧ jc_na s c = nI k := by
    unfold jc_na jm_na
    rw [eo, eg]
    split
    · exact ⟨0, by omega, rfl⟩
    · split
      · exact ⟨0, by omega, rfl⟩
      · obtain ⟨k, hk, e⟩ := jm_su_nat hwn hc ho hg
        exact ⟨k, by omega, e⟩
  have th : ∃ k, k ≤ 180884 ∧ jc_th s c = nI k := by
    unfold jc_th jm_th
    rw [eJ, eW]
    split
    · exact ⟨0, by omega, rfl⟩
    · split
      · exact ⟨0, by omega, rfl⟩
      · exact jm_su_nat hwn hc hJ hW
  have sh : ∃ k, k ≤ 390709440 ∧ jc_sh s c = nI k := by
    obtain ⟨t, ht, et⟩ := th
    have b1 : t * ba ≤ 180884 * 2160 := Nat.mul_le_mul ht hba
    unfold jc_sh
    rw [et, eba, eJ, pk_mul, jm_bm_nat (by omega)]
    by_cases hz : nI J = 0
    · rw [if_pos hz]
      exact ⟨0, by omega, rfl⟩
    · rw [if_neg hz]
      have ho : 0 < J := by
        rcases Nat.eq_zero_or_pos J with e | e
        · exact absurd (by rw [e]; rfl) hz
        · exact e
      refine ⟨t * ba / J, ?_, pk_div (by omega) ho (by omega)⟩
      exact Nat.le_trans (Nat.div_le_self _ _) b1
  unfold jc_py
  split
  · exact sh
  · exact na
theorem jc_all_nat {s : jS} {b : Nat} (h : jw s b) (hb : b ≤ 64) : ∃ k, k < 2147483648 ∧ jc_all s = nI k := by
  obtain ⟨j, h1, h2, -⟩ := jm_sm_nat (f := jc_py s) (g := fun c => (jc_py s c).toNatClampNeg) (b := 390709440) (n := 5) (fun k hk => by
    obtain ⟨i, hi, e⟩ := jc_py_nat h hb hk
    refine ⟨?_, ?_⟩
    · rw [e, nI_clamp (by omega)]
    · rw [e, nI_clamp (by omega)]
      exact hi)
  exact ⟨j, by omega, h2⟩
theorem jc_all_pos {s : jS} {b : Nat} (h : jw s b) (hb : b ≤ 64) : ¬ jc_all s ≤ -1 := by
  obtain ⟨k, hk, e⟩ := jc_all_nat h hb
  rw [e]
  exact fun q => absurd (Int32.lt_of_le_of_lt q (by decide)) (nI_pos hk)
/-! the orders by their letters -/
noncomputable def jb_i (c p : Nat) : Int32 := (nI c >>> ((2 * (3 - nI p)) &&& 31)) &&& 3
noncomputable def jb_k (c p : Nat) : Int32 := am_ka 1004 (jb_i c p).toNatClampNeg
noncomputable def jb_s (c : Nat) : Nat → Int32
  | 0 => 0
  | p + 1 => jb_s c p ||| ((1 : Int32) <<< (jb_k c p &&& 31))
theorem jb_ok : ∀ c, c < 256 → ∀ p, p < 4 → ¬ ((jb_i c p) < 0 ∨ 4 ≤ (jb_i c p).toNatClampNeg) ∧ am_ka 1006 (jb_i c p).toNatClampNeg = jb_k c p := by decide +kernel
theorem jb_pm : ∀ c, c < 256 → jb_s c 4 = 15 → ∀ d, d < 4 → ∃ i, i < 4 ∧ jb_k c i = nI d := by decide +kernel
theorem jb_27 : jb_s 27 4 = 15 := by decide +kernel
noncomputable def jb_b (s : jS) : Nat → Int32 × Nat
  | 0 => (-1, 0)
  | c + 1 => if jb_s c 4 = 15 then (if jc_all (js_od s (jb_k c)) ≤ (jb_b s c).1 then jb_b s c else (jc_all (js_od s (jb_k c)), c)) else jb_b s c
theorem jw_od {s : jS} {b : Nat} (h : jw s b) {c : Nat} (hc : c < 256) (hp : jb_s c 4 = 15) : jw (js_od s (jb_k c)) b := ⟨h.1, h.2.1, jb_pm c hc hp, h.2.2.2⟩
theorem jb_b_lt (s : jS) : ∀ c, c ≤ 256 → (jb_b s c).2 < 256
  | 0, _ => show 0 < 256 by decide
  | c + 1, h => by
    have ih := jb_b_lt s c (by omega)
    unfold jb_b
    split
    · split
      · exact ih
      · show c < 256
        omega
    · exact ih
theorem jb_b_pos {s : jS} (h : jw s 44) : ∀ c, c ≤ 256 → 27 < c → ¬ (jb_b s c).1 ≤ -1
  | 0, _, h => absurd h (by decide)
  | c + 1, hc, h27 => by
    unfold jb_b
    by_cases hp : jb_s c 4 = 15
    · have ha := jc_all_pos (jw_od h (by omega) hp) (by decide)
      rw [if_pos hp]
      by_cases h1 : jc_all (js_od s (jb_k c)) ≤ (jb_b s c).1
      · rw [if_pos h1]
        exact fun e => ha (Int32.le_trans h1 e)
      · rw [if_neg h1]
        exact ha
    · rw [if_neg hp]
      have hne : c ≠ 27 := fun e => hp (by rw [e]; exact jb_27)
      exact jb_b_pos h c (by omega) (by omega)
section Best
variable {X : Nat × (Nat → Int32)} {M : Nat → Nat → Int32} {L : Nat → Nat → Int64} {G : Nat → Nat → Option Nat} {Q : am_Q} {s : jS} {a : jA}
theorem ct_kindInCode {c p : Nat} (hc : c < 256) (hp : p < 4) (hQ : Q (some (some (.int (jb_k c p)))) (jm_s M L G)) : am_T X 114 0 [some (.int (nI c)), some (.int (nI p))] [] (jm_s M L G) (0, 0) Q :=
  rn_X5_kindInCode_0 ⟨(jb_ok c hc p hp).1, hQ⟩
theorem ct_putOrder {od : Nat → Int32} (hS : jh M 10 (js_od s od)) {c : Nat} (hc : c < 256) (hQ : ∀ M', (∀ q, q ≠ 12 → M' q = M q) → jh M' 10 (js_od s (jb_k c)) → Q (some (some (.int (jb (decide (jb_s c 4 = 15)))))) (jm_s M' L G)) : am_T X 115 0 [some (.ref 0), some (.int (nI c)), none, none, none] [] (jm_s M L G) (0, 0) Q := by
  refine rg_X5_putOrder_0_0 ?_
  refine lp_dn (P := fun p => ∀ M1, (∀ q, q ≠ 12 → M1 q = M q) → (∀ j, j < p → M1 12 j = jb_k c j) → am_T X 115 4 [some (.ref 0), some (.int (nI c)), some (.int (jb_s c p)), some (.int (nI p)), none] [] (jm_s M1 L G) (0, 0) Q) 4 ?_ ?_ 0 (by decide) M (fun _ _ => rfl) (fun j h => absurd h (Nat.not_lt_zero j))
  · intro M1 f1 f2
    have h1 : jh M1 10 (js_od s (jb_k c)) := by
      obtain ⟨g1, g2, g3, g4, g5, g6, g7⟩ := hS
      unfold jh
      rw [f1 10 (by decide), f1 (10 + 4) (by decide), f1 (10 + 1) (by decide), f1 (10 + 3) (by decide)]
      exact ⟨g1, g2, g3, f2, g5, g6, g7⟩
    have hQ := hQ M1 f1 h1
    refine rn_X5_putOrder_0_4 ⟨fun _ => ⟨fun h => ?_, fun h => ?_⟩, fun h => absurd (nI_le (Nat.le_refl 4) (by decide)) h⟩
    · rw [jb_y (decide_eq_true h)] at hQ
      exact hQ
    · rw [jb_n (decide_eq_false h)] at hQ
      exact hQ
  · intro p hp ih M1 f1 f2
    refine rn_X5_putOrder_0_4 ⟨fun h => absurd h (nI_ge hp (by decide)), fun _ => cl_i (fun _ h => ct_kindInCode hc hp h) (rn_X5_putOrder_0_14 ⟨vp_in_nI hp (by decide), ?_⟩)⟩
    rw [nI_clamp (show p < 2147483648 by omega), nI_1]
    refine ih _ (fun q hq => by rw [wi_m_p _ _ hq, f1 q hq]) (fun j hj => ?_)
    rw [wi_m_eq, if_pos rfl]
    by_cases e : j = p
    · rw [if_pos e, e]
    · rw [if_neg e, f2 j (by omega)]
theorem pp_best (hA : jAw a) (hC : jC M L G a) (hR : jRR M L a) : jpp X (jm_s M L G) 83 [some (.ref 0), none, none, none] 198 [some (.ref 101), none, none, none, none, none] := by
  have hn := hA.1.1
  have hw44 := jw_44 hA.1
  have hS := hC.1.1.1
  have hb256 := jb_b_lt (ja_s a) 256 (Nat.le_refl _)
  refine pp_wb (v := (jb_b (ja_s a) 256).1) (l := jm_yl (fun p => (jb_k (jb_b (ja_s a) 256).2 p).toInt64) 4) (Nat.le_of_ble_eq_true rfl) hA hC hR (fun Q hQ => ?_) (fun M1 L1 hR1 Q hQ => ?_)
  · refine rg_X5_best_0_0 (cl_v (ct_copy_10_5 hS hn (fun M1 f1 h1 => ⟨rfl, rg_X5_best_0_15 ?_⟩)))
    refine lp_dn (P := fun c => ∀ M2, (∀ q, q < 10 ∨ (14 < q ∧ q < 31) ∨ (46 < q ∧ q ≠ 100) → M2 q = M q) → (∃ od, jh M2 10 (js_od (ja_s a) od)) → am_T X 83 17 [some (.ref 0), some (.int (jb_b (ja_s a) c).1), some (.int (nI (jb_b (ja_s a) c).2)), some (.int (nI c))] [] (jm_s M2 L G) (0, 0) Q) 256 ?_ ?_ 0 (by decide) M1 (fun q hq => f1 q (by omega)) ⟨jod (ja_s a), h1⟩
    · intro M2 f2 _
      have hQ := hQ M2 f2
      refine rn_X5_best_0_17 ⟨fun _ => cl_v (ct_clear ⟨rfl, rg_X5_best_0_80 ?_⟩), fun h => absurd (nI_le (Nat.le_refl 256) (by decide)) h⟩
      refine lp_dn (P := fun p => am_T X 83 82 [some (.ref 0), some (.int (jb_b (ja_s a) 256).1), some (.int (nI (jb_b (ja_s a) 256).2)), some (.int (nI p))] [] (jm_s (wi_m M2 3 1 (nI (jm_yl (fun p => (jb_k (jb_b (ja_s a) 256).2 p).toInt64) p).length)) (wls L 4 0 (jm_yl (fun p => (jb_k (jb_b (ja_s a) 256).2 p).toInt64) p)) G) (0, 0) Q) 4 ?_ ?_ 0 (by decide)
      · exact rn_X5_best_0_82 ⟨fun _ => hQ, fun h => absurd (nI_le (Nat.le_refl 4) (by decide)) h⟩
      · intro p hp ih
        refine rn_X5_best_0_82 ⟨fun h => absurd h (nI_ge hp (by decide)), fun _ => cl_i (fun _ h => ct_kindInCode hb256 hp h) (rg_X5_best_0_96 (cl_v (ct_tell (by rw [jm_yl_len]; omega) ⟨rfl, rg_X5_best_0_100 ?_⟩)))⟩
        rw [nI_1]
        exact ih
    · intro c hc ih M2 f2 hod
      obtain ⟨od, h2⟩ := hod
      rw [jb_b] at ih
      refine rn_X5_best_0_17 ⟨fun h => absurd h (nI_ge hc (by decide)), fun _ => cl_w (ct_putOrder h2 hc (fun M3 f3 h3 => ⟨_, rfl, rn_X5_best_0_29 ?_⟩))⟩
      rw [nI_1]
      by_cases hp : jb_s c 4 = 15
      · rw [jb_y (decide_eq_true hp)]
        rw [if_pos hp] at ih
        refine ⟨fun e => absurd e (by decide), fun _ => cl_v (ct_reckon_31_10 h3 (jw_od hw44 hc hp) (fun M4 f4 h4 => ⟨rfl, rn_X5_best_0_46 ?_⟩))⟩
        have e1 : M4 31 12 = jc_all (js_od (ja_s a) (jb_k c)) := h4.2.1.2.2.2.2
        have h10 : ∃ od, jh M4 10 (js_od (ja_s a) od) := ⟨jb_k c, jh_f h3 (fun q q1 q2 => f4 q (by omega))⟩
        have F : ∀ q, q < 10 ∨ (14 < q ∧ q < 31) ∨ (46 < q ∧ q ≠ 100) → M4 q = M q := fun q hq => by rw [f4 q (by omega), f3 q (by omega), f2 q hq]
        rw [e1, nI_1]
        refine ⟨fun h => ?_, fun h => ?_⟩
        · rw [if_pos h] at ih
          exact ih M4 F h10
        · rw [if_neg h] at ih
          exact ih M4 F h10
      · rw [jb_n (decide_eq_false hp)]
        rw [if_neg hp] at ih
        exact ⟨fun _ => ih M3 (fun q hq => by rw [f3 q (by omega), f2 q hq]) ⟨jb_k c, h3⟩, fun e => absurd rfl e⟩
  · have hR0 : jR ((wi_m M1 101 5 0) 102) (ja_s a) := hR1.1.1
    refine rg_X6_best_101_0 (cl_v (ct_layAside hR0 hw44 (fun M2 f1 f2 h22 h13 ht hL => ⟨rfl, rg_X6_best_101_9 ?_⟩)))
    refine lp_dn (P := fun c => ∀ M3, (∀ q, q ≠ 101 → q ≠ 102 → q < 106 ∨ (112 < q ∧ q ≠ 118) → M3 q = M2 q) → (∀ i, i ≠ 15 → M3 101 i = M2 101 i) → (∃ od, jR (M3 102) (js_od (ja_s a) od)) → ((jb_b (ja_s a) c).1 = -1 ∨ ∀ p, p < 4 → M3 118 p = jb_k (jb_b (ja_s a) c).2 p) → am_T X 198 13 [some (.ref 101), some (.int (jb_b (ja_s a) c).1), some (.int (nI c)), none, none, none] [] (jm_s M3 L1 G) (0, 0) Q) 256 ?_ ?_ 0 (by decide) M2 (fun _ _ _ _ => rfl) (fun _ _ => rfl) ⟨jod (ja_s a), by rw [f1 102 (by decide) (by decide)]; exact hR0⟩ (Or.inl rfl)
    · intro M3 g1 g2 _ g4
      have g4' : ∀ p, p < 4 → M3 118 p = jb_k (jb_b (ja_s a) 256).2 p := by
        rcases g4 with e | e
        · have := jb_b_pos hw44 256 (Nat.le_refl _) (by decide)
          rw [e] at this
          exact absurd (Int32.le_refl _) this
        · exact e
      refine rn_X6_best_101_13 ⟨fun _ => cl_v (ct_comesBack (fun M4 k1 k2 => ⟨rfl, rg_X6_best_101_143 ?_⟩)), fun h => absurd (nI_le (Nat.le_refl 256) (by decide)) h⟩
      have e113 : M3 113 = M2 113 := g1 113 (by decide) (by decide) (by decide)
      have hQ := hQ (wi_m M4 101 4 (nI (jm_yl (fun p => (jb_k (jb_b (ja_s a) 256).2 p).toInt64) 4).length)) (fun q hq => by rw [wi_m_p _ _ (by omega), k1 q (by omega), g1 q (by omega) (by omega) (by omega), f1 q (by omega) (by omega), wi_m_p _ _ (by omega)]) (jRR_wb hR1 (fun q q1 q2 q3 => by rw [wi_m_p _ _ q1, k1 q q2, g1 q q1 q2 (by omega), f1 q q1 (by omega), wi_m_p _ _ q1]) (fun i q1 q2 q3 q4 _ => by rw [wi_m_eq, if_pos rfl, if_neg q1, k1 101 (by decide), g2 i q3, f2 i q3 q4, wi_m_eq, if_pos rfl, if_neg q2]) (wi_m_i _ _ _ _) (by
        rw [wi_m_p _ _ (show 102 ≠ 101 by decide)]
        exact jR_f h13 (fun i hi => by rw [k2 i hi, e113]) (by omega)))
      refine lp_dn (P := fun p => am_T X 198 150 [some (.ref 101), some (.int (jb_b (ja_s a) 256).1), some (.int (nI p)), none, none, none] [] (jm_s (wi_m M4 101 4 (nI (jm_yl (fun p => (jb_k (jb_b (ja_s a) 256).2 p).toInt64) p).length)) (wls L1 104 0 (jm_yl (fun p => (jb_k (jb_b (ja_s a) 256).2 p).toInt64) p)) G) (0, 0) Q) 4 ?_ ?_ 0 (by decide)
      · exact rn_X6_best_101_150 ⟨fun _ => hQ, fun h => absurd (nI_le (Nat.le_refl 4) (by decide)) h⟩
      · intro p hp ih
        refine rn_X6_best_101_150 ⟨fun h => absurd h (nI_ge hp (by decide)), fun _ => ⟨vp_in_nI hp (by decide), ?_⟩⟩
        rw [nI_clamp (show p < 2147483648 by omega), wi_m_p _ _ (show 118 ≠ 101 by decide), k1 118 (by decide), g4' p hp]
        refine cl_v (ct_rtell (by rw [jm_yl_len]; omega) ⟨rfl, rg_X6_best_101_166 ?_⟩)
        rw [nI_1]
        exact ih
    · intro c hc ih M3 g1 g2 hod g4
      obtain ⟨od, g3⟩ := hod
      rw [jb_b] at ih
      refine rn_X6_best_101_13 ⟨fun h => absurd h (nI_ge hc (by decide)), fun _ => ?_⟩
      refine lp_dn (P := fun p => ∀ M4, (∀ q, q ≠ 102 → M4 q = M3 q) → (∀ i, i < 241 ∨ 245 ≤ i → M4 102 i = M3 102 i) → (∀ j, j < p → M4 102 (241 + j) = jb_k c j) → am_T X 198 25 [some (.ref 101), some (.int (jb_b (ja_s a) c).1), some (.int (nI c)), some (.int (jb_s c p)), some (.int (nI p)), none] [] (jm_s M4 L1 G) (0, 0) Q) 4 ?_ ?_ 0 (by decide) M3 (fun _ _ => rfl) (fun _ _ => rfl) (fun j h => absurd h (Nat.not_lt_zero j))
      · intro M4 k1 k2 k3
        have hR4 : jR (M4 102) (js_od (ja_s a) (jb_k c)) := by
          obtain ⟨u1, u2, u3, u4, u5, u6, u7⟩ := g3
          refine ⟨?_, fun i hi => ?_, fun i hi => ?_, k3, ?_, ?_, fun i hi => ?_⟩
          · rw [k2 0 (by omega)]; exact u1
          · have hi2 : i < 5 * jn (ja_s a) := hi
            rw [k2 (1 + i) (by omega)]; exact u2 i hi
          · rw [k2 (221 + i) (by omega)]; exact u3 i hi
          · rw [k2 245 (by omega)]; exact u5
          · rw [k2 246 (by omega)]; exact u6
          · rw [k2 (247 + i) (by omega)]; exact u7 i hi
        have F4 : ∀ q, q ≠ 101 → q ≠ 102 → q < 106 ∨ (112 < q ∧ q ≠ 118) → M4 q = M2 q := fun q q1 q2 q3 => by rw [k1 q q2, g1 q q1 q2 q3]
        have E4 : ∀ i, i ≠ 15 → M4 101 i = M2 101 i := fun i hi => by rw [k1 101 (by decide), g2 i hi]
        refine rn_X6_best_101_25 ⟨fun _ => ⟨fun hp => ?_, fun hp => ?_⟩, fun h => absurd (nI_le (Nat.le_refl 4) (by decide)) h⟩
        · rw [if_pos hp] at ih
          have hpos := jc_all_pos (jw_od hw44 hc hp) (by decide)
          refine cl_w (ct_allOf hR4 (jw_od hw44 hc hp) (fun M5 v1 v2 hL5 => ⟨_, rfl, rn_X6_best_101_86 ?_⟩))
          have hR5 : jR (M5 102) (js_od (ja_s a) (jb_k c)) := by rw [v1 102 (by decide) (by decide)]; exact hR4
          have F5 : ∀ q, q ≠ 101 → q ≠ 102 → q < 106 ∨ (112 < q ∧ q ≠ 118) → M5 q = M2 q := fun q q1 q2 q3 => by rw [v1 q q1 (by omega), F4 q q1 q2 q3]
          have E5 : ∀ i, i ≠ 15 → M5 101 i = M2 101 i := fun i hi => by rw [v2 i hi, E4 i hi]
          rw [nI_1]
          refine ⟨fun h => ?_, fun h => ?_⟩
          · rw [if_neg (Int32.not_le.mpr h)] at ih
            refine lp_dn (P := fun p => ∀ M6, (∀ q, q ≠ 118 → M6 q = M5 q) → (∀ j, j < p → M6 118 j = jb_k c j) → am_T X 198 103 [some (.ref 101), some (.int (jc_all (js_od (ja_s a) (jb_k c)))), some (.int (nI c)), none, none, some (.int (nI p))] [] (jm_s M6 L1 G) (0, 0) Q) 4 ?_ ?_ 0 (by decide) M5 (fun _ _ => rfl) (fun j h => absurd h (Nat.not_lt_zero j))
            · intro M6 w1 w2
              refine rn_X6_best_101_103 ⟨fun _ => ?_, fun h => absurd (nI_le (Nat.le_refl 4) (by decide)) h⟩
              rw [nI_1]
              exact ih M6 (fun q q1 q2 q3 => by rw [w1 q (by omega), F5 q q1 q2 q3]) (fun i hi => by rw [w1 101 (by decide), E5 i hi]) ⟨jb_k c, by rw [w1 102 (by decide)]; exact hR5⟩ (Or.inr w2)
            · intro p hp' ih2 M6 w1 w2
              refine rn_X6_best_101_103 ⟨fun h => absurd h (nI_ge hp' (by decide)), fun _ => ?_⟩
              rw [show (241 : Int32) + nI p = nI (241 + p) from nI_add 241 p, nI_clamp (show 241 + p < 2147483648 by omega), nI_clamp (show p < 2147483648 by omega), nI_1]
              refine ⟨vp_in_nI (by omega) (by decide), vp_in_nI hp' (by decide), ih2 _ (fun q hq => by rw [wi_m_p _ _ hq, w1 q hq]) (fun j hj => ?_)⟩
              rw [wi_m_eq, if_pos rfl]
              by_cases e : j = p
              · rw [if_pos e, e, w1 102 (by decide)]
                exact hR5.2.2.2.1 p hp'
              · rw [if_neg e, w2 j (by omega)]
          · have h' := Int32.not_lt.mp h
            rw [if_pos h'] at ih
            refine ih M5 F5 E5 ⟨jb_k c, hR5⟩ ?_
            rcases g4 with e | e
            · rw [e] at h'
              exact absurd h' hpos
            · refine Or.inr (fun p hp' => ?_)
              rw [v1 118 (by decide) (by decide), k1 118 (by decide)]
              exact e p hp'
        · rw [if_neg hp] at ih
          rw [nI_1]
          refine ih M4 F4 E4 ⟨jb_k c, hR4⟩ ?_
          rcases g4 with e | e
          · exact Or.inl e
          · refine Or.inr (fun p hp' => ?_)
            rw [k1 118 (by decide)]
            exact e p hp'
      · intro p hp ih2 M4 k1 k2 k3
        obtain ⟨w1, w2⟩ := jb_ok c hc p hp
        refine rn_X6_best_101_25 ⟨fun h => absurd h (nI_ge hp (by decide)), fun _ => ⟨w1, ?_⟩⟩
        rw [show (241 : Int32) + nI p = nI (241 + p) from nI_add 241 p, nI_clamp (show 241 + p < 2147483648 by omega), show am_ka 1006 ((nI c >>> ((2 * (3 - nI p)) &&& 31)) &&& 3).toNatClampNeg = jb_k c p from w2, nI_1]
        refine ⟨vp_in_nI (by omega) (by decide), ih2 _ (fun q hq => by rw [wi_m_p _ _ hq, k1 q hq]) (fun i hi => ?_) (fun j hj => ?_)⟩
        · rw [wi_m_eq, if_pos rfl, if_neg (by omega), k2 i hi]
        · rw [wi_m_eq, if_pos rfl]
          by_cases e : j = p
          · rw [if_pos (by omega), e]
          · rw [if_neg (by omega), k3 j (by omega)]
end Best
