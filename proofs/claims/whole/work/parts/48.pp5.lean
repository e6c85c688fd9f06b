/-! ===== pairs: pieces (written by wip/gen/gen_pp5.py) ===== -/
/-- where it stays no more the same -/
def jp_re (f : Nat → Int32) (x : Int32) : Nat → Nat → Nat
  | 0, k => k
  | n + 1, k => if f k = x then jp_re f x n (k + 1) else k
def jp_l (f : Nat → Int32) : Nat → List Int64
  | 0 => []
  | k + 1 => if f k = -1 ∨ (0 < k ∧ f (k - 1) = f k) then jp_l f k else ((jp_l f k ++ [(f k).toInt64]) ++ [(nI k).toInt64]) ++ [(nI (jp_re f (f k) (360 - k) k) - nI k).toInt64]
def jp_n (f : Nat → Int32) : Nat → Nat
  | 0 => 0
  | k + 1 => if f k = -1 ∨ (0 < k ∧ f (k - 1) = f k) then jp_n f k else jp_n f k + 1
theorem jp_len (f : Nat → Int32) : ∀ k, (jp_l f k).length = 3 * jp_n f k
  | 0 => rfl
  | k + 1 => by
    unfold jp_l jp_n
    by_cases h : f k = -1 ∨ (0 < k ∧ f (k - 1) = f k)
    · rw [if_pos h, if_pos h]
      exact jp_len f k
    · rw [if_neg h, if_neg h, List.length_append, List.length_append, List.length_append, jp_len f k]
      show 3 * jp_n f k + 1 + 1 + 1 = 3 * (jp_n f k + 1)
      omega
theorem jp_re_eq {f : Nat → Int32} {x : Int32} {m : Nat} (hm : m = 360 ∨ (m < 360 ∧ f m ≠ x)) : ∀ n k, k + n = 360 → k ≤ m → (∀ j, k ≤ j → j < m → f j = x) → jp_re f x n k = m
  | 0, k, e, h, _ => by
    show k = m
    omega
  | n + 1, k, e, h, hc => by
    unfold jp_re
    by_cases hk : k = m
    · subst hk
      rcases hm with h1 | ⟨h1, h2⟩
      · omega
      · rw [if_neg h2]
    · rw [if_pos (hc k (Nat.le_refl _) (by omega))]
      exact jp_re_eq hm n (k + 1) (by omega) (by omega) (fun j h1 h2 => hc j (by omega) h2)
/-- one whole stretch -/
theorem jp_run {f : Nat → Int32} {st m : Nat} (hs : st < m) (hm : m = 360 ∨ (m < 360 ∧ f m ≠ f st)) (hc : ∀ j, st ≤ j → j < m → f j = f st) (h0 : st = 0 ∨ f (st - 1) ≠ f st) : jp_l f m = (if f st = -1 then jp_l f st else ((jp_l f st ++ [(f st).toInt64]) ++ [(nI st).toInt64]) ++ [(nI m - nI st).toInt64]) ∧ jp_n f m = if f st = -1 then jp_n f st else jp_n f st + 1 := by
  have h1 : jp_re f (f st) (360 - st) st = m := jp_re_eq hm (360 - st) st (by omega) (by omega) hc
  have base : jp_l f (st + 1) = (if f st = -1 then jp_l f st else ((jp_l f st ++ [(f st).toInt64]) ++ [(nI st).toInt64]) ++ [(nI m - nI st).toInt64]) ∧ jp_n f (st + 1) = if f st = -1 then jp_n f st else jp_n f st + 1 := by
    have hcase : (f st = -1 ∨ (0 < st ∧ f (st - 1) = f st)) ↔ f st = -1 := by
      refine ⟨fun h => ?_, Or.inl⟩
      rcases h with h | ⟨h, h'⟩
      · exact h
      · rcases h0 with h0 | h0
        · omega
        · exact absurd h' h0
    rw [jp_l, jp_n, h1]
    by_cases h : f st = -1
    · rw [if_pos (Or.inl h), if_pos (Or.inl h), if_pos h, if_pos h]
      exact ⟨rfl, rfl⟩
    · rw [if_neg (fun e => h (hcase.mp e)), if_neg (fun e => h (hcase.mp e)), if_neg h, if_neg h]
      exact ⟨rfl, rfl⟩
  have step : ∀ d, st + 1 + d ≤ m → jp_l f (st + 1 + d) = jp_l f (st + 1) ∧ jp_n f (st + 1 + d) = jp_n f (st + 1) := by
    intro d
    induction d with
    | zero => exact fun _ => ⟨rfl, rfl⟩
    | succ d ih =>
      intro hd
      have hi := ih (by omega)
      have e : f (st + 1 + d) = -1 ∨ (0 < st + 1 + d ∧ f (st + 1 + d - 1) = f (st + 1 + d)) := by
        refine Or.inr ⟨by omega, ?_⟩
        rw [hc (st + 1 + d) (by omega) (by omega), hc (st + 1 + d - 1) (by omega) (by omega)]
      rw [show st + 1 + (d + 1) = (st + 1 + d) + 1 by omega]
      rw [jp_l, jp_n, if_pos e, if_pos e]
      exact hi
  have := step (m - (st + 1)) (by omega)
  rw [show st + 1 + (m - (st + 1)) = m by omega] at this
  rw [this.1, this.2]
  exact base
theorem jm_st_same {sp od : Nat → Int32} {m m' n : Nat} : ∀ j, j ≤ n → (∀ k, k < n → (jm_co sp k m ↔ jm_co sp k m')) → jm_st sp od m j = jm_st sp od m' j
  | 0, _, _ => rfl
  | j + 1, hj, h => by
    have ih := jm_st_same (od := od) (n := n) j (by omega) h
    have hk := h j (by omega)
    unfold jm_st
    by_cases hc : jm_co sp j m
    · have hc' := hk.mp hc
      unfold jm_co at hc hc'
      rw [if_pos hc, if_pos hc', ih]
    · have hc' : ¬ jm_co sp j m' := fun e => hc (hk.mpr e)
      unfold jm_co at hc hc'
      rw [if_neg hc, if_neg hc', ih]
/-- the ends of SPANS -/
def jp_e (sp : Nat → Int32) (n k : Nat) : Nat := if k < n then (jm_of sp k 2).toNatClampNeg else (jm_of sp (k - n) 3).toNatClampNeg + 1
theorem jp_end {sp od : Nat → Int32} {m n : Nat} (h : jm_ok sp n) (hn : n ≤ 64) (hm : m < 360) (h1 : jm_B sp od n m ≠ -1) (h2 : m = 0 ∨ jm_B sp od n (m - 1) ≠ jm_B sp od n m) : ∃ k, k < 2 * n ∧ jp_e sp n k = m := by
  apply Classical.byContradiction
  intro hno
  have hf : ∀ k, k < n → ∃ f t, jm_of sp k 2 = nI f ∧ jm_of sp k 3 = nI t ∧ f ≤ t ∧ t < 360 ∧ f ≠ m ∧ t + 1 ≠ m := by
    intro k hk
    obtain ⟨f, t, e1, e2, e3, e4⟩ := jm_ok_ft h k hk
    refine ⟨f, t, e1, e2, e3, e4, fun e => hno ⟨k, by omega, ?_⟩, fun e => hno ⟨k + n, by omega, ?_⟩⟩
    · unfold jp_e
      rw [if_pos hk, e1, nI_clamp (by omega)]
      exact e
    · unfold jp_e
      rw [if_neg (by omega), Nat.add_sub_cancel, e2, nI_clamp (by omega)]
      exact e
  by_cases hm0 : m = 0
  · subst hm0
    have hex : ∃ k, k < n ∧ jm_co sp k 0 := Classical.byContradiction (fun e => h1 ((jm_B_no h hn).mpr (fun k hk hc => e ⟨k, hk, hc⟩)))
    obtain ⟨k, hk, hc⟩ := hex
    obtain ⟨f, t, e1, e2, e3, e4, e5, e6⟩ := hf k hk
    unfold jm_co at hc
    rw [e1, nI_le_iff (by omega) (by omega)] at hc
    omega
  · rcases h2 with h2 | h2
    · exact hm0 h2
    · apply h2
      show jm_by (jm_st sp od (m - 1) n) = jm_by (jm_st sp od m n)
      rw [jm_st_same (n := n) n (Nat.le_refl _)]
      intro k hk
      obtain ⟨f, t, e1, e2, e3, e4, e5, e6⟩ := hf k hk
      unfold jm_co
      rw [e1, e2, nI_le_iff (by omega) (by omega), nI_le_iff (by omega) (by omega), nI_le_iff (by omega) (by omega), nI_le_iff (by omega) (by omega)]
      omega
theorem jp_ct {sp od : Nat → Int32} {n : Nat} (h : jm_ok sp n) (hn : n ≤ 64) : ∀ m, m ≤ 360 → jp_n (jm_B sp od n) m ≤ jm_ct (fun k => decide (jp_e sp n k < m)) (2 * n)
  | 0, _ => Nat.zero_le _
  | m + 1, hm => by
    have ih := jp_ct (od := od) h hn m (by omega)
    unfold jp_n
    by_cases hc : jm_B sp od n m = -1 ∨ (0 < m ∧ jm_B sp od n (m - 1) = jm_B sp od n m)
    · rw [if_pos hc]
      refine Nat.le_trans ih (jm_ct_mono (fun k _ hk => ?_))
      have := of_decide_eq_true hk
      exact decide_eq_true (by omega)
    · rw [if_neg hc]
      obtain ⟨k, hk, e⟩ := jp_end (od := od) h hn (show m < 360 by omega) (fun e => hc (Or.inl e)) (by
        by_cases hm0 : m = 0
        · exact Or.inl hm0
        · exact Or.inr (fun e => hc (Or.inr ⟨by omega, e⟩)))
      refine Nat.le_trans (Nat.succ_le_succ ih) (jm_ct_lt (a := k) (decide_eq_false (by omega)) (decide_eq_true (by omega)) hk (fun j _ hj => ?_))
      have := of_decide_eq_true hj
      exact decide_eq_true (by omega)
theorem jc_pn_40 {s : jS} (h : jw s 20) : ∀ m, m ≤ 360 → jp_n (jc_by s) m ≤ 40 := by
  intro m hm
  have h3 := h.1
  have h1 := jp_ct (od := jod s) h.2.1 (show jn s ≤ 64 by omega) m hm
  have h2 := jm_ct_le (fun k => decide (jp_e (jsp s) (jn s) k < m)) (2 * jn s)
  have h4 : jp_n (jm_B (jsp s) (jod s) (jn s)) m ≤ 40 := by omega
  exact h4
theorem jp_n_lt {s : jS} (h : jw s 20) {k : Nat} (hk : k < 360) (hc : ¬ (jc_by s k = -1 ∨ (0 < k ∧ jc_by s (k - 1) = jc_by s k))) : jp_n (jc_by s) k < 40 := by
  have := jc_pn_40 h (k + 1) (by omega)
  unfold jp_n at this
  rw [if_neg hc] at this
  omega
section PP5
variable {X : Nat × (Nat → Int32)} {M : Nat → Nat → Int32} {L : Nat → Nat → Int64} {G : Nat → Nat → Option Nat} {Q : am_Q} {a : jA}
theorem pp_pieces (hA : jAw a) (hC : jC M L G a) (hR : jRR M L a) : jpp X (jm_s M L G) 70 [some (.ref 0), none, none, none, none] 176 [some (.ref 101), none, none, none] := by
  have hw := jw_44 hA.1
  obtain ⟨k1, -⟩ := hC.1.1.2
  have h40 := jc_pn_40 hA.1 360 (Nat.le_refl _)
  refine pp_ro hA hC hR (v := nI (jp_n (jc_by (ja_s a)) 360)) (jp_l (jc_by (ja_s a)) 360) (by rw [jp_len]; omega) (fun Q hQ => ?_) (fun M1 L1 hR1 Q hQ => ?_)
  · refine rg_X5_pieces_0_0 (cl_v (ct_clear ⟨rfl, rg_X5_pieces_0_18 ?_⟩))
    have fin : ∀ st, am_T X 70 25 [some (.ref 0), some (.ref 19), some (.int (nI (jp_n (jc_by (ja_s a)) 360))), some (.int st), some (.int (nI 361))] [] (jm_s (wi_m M 3 1 (nI (jp_l (jc_by (ja_s a)) 360).length)) (wls L 4 0 (jp_l (jc_by (ja_s a)) 360)) G) (0, 0) Q := fun st => rn_X5_pieces_0_25 ⟨fun _ => hQ, fun h => absurd (nI_lt (show 360 < 361 by decide) (by decide)) h⟩
    have e19 : ∀ l k, k < 360 → (wi_m M 3 1 l) 19 k = jc_by (ja_s a) k := by
      intro l k hk
      rw [wi_m_p _ _ (show 19 ≠ 3 by decide)]
      exact (k1.1 k hk).2.1
    -- a whole stretch is told
    have tl : ∀ st m, st < m → m ≤ 360 → (m = 360 ∨ (m < 360 ∧ jc_by (ja_s a) m ≠ jc_by (ja_s a) st)) → (∀ j, st ≤ j → j < m → jc_by (ja_s a) j = jc_by (ja_s a) st) → (st = 0 ∨ jc_by (ja_s a) (st - 1) ≠ jc_by (ja_s a) st) → ¬ jc_by (ja_s a) st = -1 → am_T X 70 25 [some (.ref 0), some (.ref 19), some (.int (nI (jp_n (jc_by (ja_s a)) m))), some (.int (if 359 < nI m then 359 else nI m)), some (.int (nI (m + 1)))] [] (jm_s (wi_m M 3 1 (nI (jp_l (jc_by (ja_s a)) m).length)) (wls L 4 0 (jp_l (jc_by (ja_s a)) m)) G) (0, 0) Q → ∃ K : am_S → Prop, am_T X 24 0 [some (.ref 3), some (.long (jc_by (ja_s a) st).toInt64), none] [] (jm_s (wi_m M 3 1 (nI (jp_l (jc_by (ja_s a)) st).length)) (wls L 4 0 (jp_l (jc_by (ja_s a)) st)) G) (0, 0) (am_qv K) ∧ ∀ σ', K σ' → am_T X 70 72 [some (.ref 0), some (.ref 19), some (.int (nI (jp_n (jc_by (ja_s a)) st))), some (.int (nI st)), some (.int (nI m))] [] σ' (0, 0) Q := by
      intro st m hs hm he hc h0 hne hT
      obtain ⟨r1, r2⟩ := jp_run hs he hc h0
      rw [if_neg hne] at r1 r2
      have hb : jp_n (jc_by (ja_s a)) st < 40 := jp_n_lt hA.1 (by omega) (fun e => by
        rcases e with e | ⟨e1, e2⟩
        · exact hne e
        · rcases h0 with h0 | h0
          · omega
          · exact h0 e2)
      have len := jp_len (jc_by (ja_s a)) st
      refine cl_v (ct_tell (by rw [len]; omega) ⟨rfl, rg_X5_pieces_0_72 (cl_v (ct_tell (by rw [List.length_append, len]; show 3 * jp_n (jc_by (ja_s a)) st + 1 < 120; omega) ⟨rfl, rg_X5_pieces_0_81 (cl_v (ct_tell (by rw [List.length_append, List.length_append, len]; show 3 * jp_n (jc_by (ja_s a)) st + 1 + 1 < 120; omega) ⟨rfl, rg_X5_pieces_0_93 ?_⟩))⟩))⟩)
      rw [r1, r2] at hT
      rw [nI_1, nI_1]
      exact hT
    have l : ∀ m, m ≤ 360 → 1 ≤ m → ∀ st, st < m → (∀ j, st ≤ j → j < m → jc_by (ja_s a) j = jc_by (ja_s a) st) → (st = 0 ∨ jc_by (ja_s a) (st - 1) ≠ jc_by (ja_s a) st) → am_T X 70 25 [some (.ref 0), some (.ref 19), some (.int (nI (jp_n (jc_by (ja_s a)) st))), some (.int (nI st)), some (.int (nI m))] [] (jm_s (wi_m M 3 1 (nI (jp_l (jc_by (ja_s a)) st).length)) (wls L 4 0 (jp_l (jc_by (ja_s a)) st)) G) (0, 0) Q := by
      refine lp_dn 360 ?_ ?_
      · intro _ st hs hc h0
        refine rn_X5_pieces_0_25 ⟨fun h => absurd h (by decide), fun _ => ⟨fun _ => ⟨jm_in (by omega), ?_⟩, fun h => absurd jm_3e h⟩⟩
        rw [jm_cl hs, e19 _ st hs]
        refine ⟨fun hz => ?_, fun hz => tl st 360 hs (Nat.le_refl _) (Or.inl rfl) hc h0 hz (fin _)⟩
        obtain ⟨r1, r2⟩ := jp_run hs (Or.inl rfl) hc h0
        rw [if_pos hz] at r1 r2
        rw [← r1, ← r2]
        exact fin _
      · intro m hm ih hm1 st hs hc h0
        refine rn_X5_pieces_0_25 ⟨fun h => absurd h (nI_nlt (show m ≤ 360 by omega) (by decide)), fun _ => ⟨fun h => absurd h (jm_3 hm), fun _ => ⟨jm_in hm, jm_in (by omega), ?_⟩⟩⟩
        rw [jm_cl hm, jm_cl (show st < 360 by omega), e19 _ m hm, e19 _ st (by omega), nI_1 m]
        have em : (if 359 < nI m then (359 : Int32) else nI m) = nI m := if_neg (fun h => by
          have := (nI_lt_iff (show 359 < 2147483648 by decide) (show m < 2147483648 by omega)).mp h
          omega)
        rw [em]
        refine ⟨fun hq => ?_, fun hq => ⟨fun hz => ?_, fun hz => ?_⟩⟩
        · refine ih (by omega) st (by omega) (fun j h1 h2 => ?_) h0
          by_cases hjm : j = m
          · rw [hjm]
            exact hq
          · exact hc j h1 (by omega)
        · obtain ⟨r1, r2⟩ := jp_run hs (Or.inr ⟨hm, hq⟩) hc h0
          rw [if_pos hz] at r1 r2
          rw [← r1, ← r2]
          refine ih (by omega) m (by omega) (fun j h1 h2 => by rw [show j = m by omega]) (Or.inr ?_)
          rw [hc (m - 1) (by omega) (by omega)]
          exact fun e => hq e.symm
        · refine tl st m hs (by omega) (Or.inr ⟨hm, hq⟩) hc h0 hz ?_
          rw [em]
          refine ih (by omega) m (by omega) (fun j h1 h2 => by rw [show j = m by omega]) (Or.inr ?_)
          rw [hc (m - 1) (by omega) (by omega)]
          exact fun e => hq e.symm
    exact l 1 (by decide) (Nat.le_refl _) 0 (by decide) (fun j h1 h2 => by rw [show j = 0 by omega]) (Or.inl rfl)
  · refine rg_X6_pieces_101_0 (cl_v (ct_lay0 hR1.1.1 hw (fun M2 f hL hR2 => ⟨rfl, rg_X6_pieces_101_9 ?_⟩)))
    have hQ := hQ M2 f
    have e19 : ∀ l k, k < 360 → (wi_m M2 101 4 l) 109 k = jc_by (ja_s a) k := by
      intro l k hk
      rw [wi_m_p _ _ (show 109 ≠ 101 by decide)]
      exact (hL.1 k hk).2.2.2.1
    refine lp_dn (P := fun k => am_T X 176 18 [some (.ref 101), some (.int (nI (jp_n (jc_by (ja_s a)) k))), some (.int (nI k)), none] [] (jm_s (wi_m M2 101 4 (nI (jp_l (jc_by (ja_s a)) k).length)) (wls L1 104 0 (jp_l (jc_by (ja_s a)) k)) G) (0, 0) Q) 360 ?_ ?_ 0 (by decide)
    · exact rn_X6_pieces_101_18 ⟨fun _ => hQ, fun h => absurd jm_3e h⟩
    · intro k hk ih
      unfold jp_l jp_n at ih
      have scan : ¬ (jc_by (ja_s a) k = -1 ∨ (0 < k ∧ jc_by (ja_s a) (k - 1) = jc_by (ja_s a) k)) → am_T X 176 61 [some (.ref 101), some (.int (nI (jp_n (jc_by (ja_s a)) k))), some (.int (nI k)), some (.int (nI k))] [] (jm_s (wi_m M2 101 4 (nI (jp_l (jc_by (ja_s a)) k).length)) (wls L1 104 0 (jp_l (jc_by (ja_s a)) k)) G) (0, 0) Q := by
        intro hne
        have hb := jp_n_lt hA.1 hk hne
        rw [if_neg hne, if_neg hne] at ih
        have len := jp_len (jc_by (ja_s a)) k
        have h : ∀ n t, t + n = 360 → jp_re (jc_by (ja_s a)) (jc_by (ja_s a) k) n t = jp_re (jc_by (ja_s a)) (jc_by (ja_s a) k) (360 - k) k → am_T X 176 61 [some (.ref 101), some (.int (nI (jp_n (jc_by (ja_s a)) k))), some (.int (nI k)), some (.int (nI t))] [] (jm_s (wi_m M2 101 4 (nI (jp_l (jc_by (ja_s a)) k).length)) (wls L1 104 0 (jp_l (jc_by (ja_s a)) k)) G) (0, 0) Q := by
          intro n
          have told : ∀ t, t = jp_re (jc_by (ja_s a)) (jc_by (ja_s a) k) (360 - k) k → ∃ K : am_S → Prop, am_T X 126 0 [some (.ref 101), some (.long (jc_by (ja_s a) k).toInt64), none] [] (jm_s (wi_m M2 101 4 (nI (jp_l (jc_by (ja_s a)) k).length)) (wls L1 104 0 (jp_l (jc_by (ja_s a)) k)) G) (0, 0) (am_qv K) ∧ ∀ σ', K σ' → am_T X 176 100 [some (.ref 101), some (.int (nI (jp_n (jc_by (ja_s a)) k))), some (.int (nI k)), some (.int (nI t))] [] σ' (0, 0) Q := by
            intro t ht
            refine cl_v (ct_rtell (by rw [len]; omega) ⟨rfl, rg_X6_pieces_101_100 (cl_v (ct_rtell (by rw [List.length_append, len]; show 3 * jp_n (jc_by (ja_s a)) k + 1 < 160; omega) ⟨rfl, rg_X6_pieces_101_106 (cl_v (ct_rtell (by rw [List.length_append, List.length_append, len]; show 3 * jp_n (jc_by (ja_s a)) k + 1 + 1 < 160; omega) ⟨rfl, rg_X6_pieces_101_114 ?_⟩))⟩))⟩)
            rw [nI_1, nI_1, ht]
            exact ih
          induction n with
          | zero =>
            intro t e hq
            have e2 : t = 360 := e
            subst e2
            refine rn_X6_pieces_101_61 ⟨fun _ => ⟨jm_in hk, ?_⟩, fun h => absurd jm_3e h⟩
            rw [jm_cl hk, e19 _ k hk]
            exact told 360 hq
          | succ n ihn =>
            intro t e hq
            have ht : t < 360 := by omega
            unfold jp_re at hq
            refine rn_X6_pieces_101_61 ⟨fun h => absurd h (jm_3 ht), fun _ => ⟨jm_in ht, jm_in hk, ?_⟩⟩
            rw [jm_cl hk, jm_cl ht, e19 _ k hk, e19 _ t ht, nI_1 t]
            refine ⟨fun h => ?_, fun h => ?_⟩
            · rw [if_pos h] at hq
              refine ihn (t + 1) (by omega) ?_
              rw [hq]
              conv => rhs; unfold jp_re
            · rw [if_neg h] at hq
              refine told t ?_
              rw [hq]
              conv => rhs; unfold jp_re
        exact h (360 - k) k (by omega) rfl
      refine rn_X6_pieces_101_18 ⟨fun h => absurd h (jm_3 hk), fun _ => ⟨jm_in hk, ?_⟩⟩
      rw [jm_cl hk, e19 _ k hk, nI_1 k]
      refine ⟨fun hz => ?_, fun hz => ⟨fun h0 => ?_, fun h0 => ?_⟩⟩
      · rw [if_pos (Or.inl hz), if_pos (Or.inl hz)] at ih
        exact ih
      · have hk0 := (nI_le0 (show k < 2147483648 by omega)).mp h0
        exact scan (fun e => e.elim hz (fun e => by omega))
      · have hk0 : k ≠ 0 := fun e => h0 ((nI_le0 (show k < 2147483648 by omega)).mpr e)
        have ep : nI k - 1 = nI (k - 1) := pk_sub (b := 1) (by omega)
        rw [ep, jm_cl (show k - 1 < 360 by omega), e19 _ (k - 1) (by omega)]
        refine ⟨jm_in (by omega), fun hq => ?_, fun hq => ?_⟩
        · have hc : jc_by (ja_s a) k = -1 ∨ (0 < k ∧ jc_by (ja_s a) (k - 1) = jc_by (ja_s a) k) := Or.inr ⟨by omega, hq⟩
          rw [if_pos hc, if_pos hc] at ih
          exact ih
        · exact scan (fun e => e.elim hz (fun e => hq e.2))
end PP5
