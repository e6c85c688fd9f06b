/-! ===== pairs: day (written by wip/gen/gen_day5.py) ===== -/
def jdr (n : Nat) (tx : Nat → Nat) : Nat → (Nat × Option Nat) → Nat → (Nat → Int32) → Prop
  | 0, _, _, _ => True
  | f + 1, p, c, A => p.2 = none → p.1 < n → (jd n tx p 5).2.2 = none → jdi n tx p c A ∧ jdr n tx f (jd n tx p 5).2 (c + 1) A
def jt_dn (n : Nat) (tx : Nat → Nat) : Nat → (Nat × Option Nat) → Nat → (Nat × Option Nat) × Nat
  | 0, p, c => (p, c)
  | f + 1, p, c => if p.2 = none ∧ p.1 < n then (if (jd n tx p 5).2.2 = none then jt_dn n tx f (jd n tx p 5).2 (c + 1) else ((jd n tx p 5).2, c + 1)) else (p, c)
section Day5
variable {X : Nat × (Nat → Int32)} {M : Nat → Nat → Int32} {L : Nat → Nat → Int64} {G : Nat → Nat → Option Nat} {Q : am_Q} {n : Nat} {tx : Nat → Nat} {p : Nat × Option Nat} {a : jA} {s : jS}
theorem jt_dn_w : ∀ f p c, jtb n tx p → jtb n tx (jt_dn n tx f p c).1 ∧ c ≤ (jt_dn n tx f p c).2 ∧ (jt_dn n tx f p c).2 ≤ c + f ∧ ∀ s st c2, (jt_dy n tx f p s st c2).1 = (jt_dn n tx f p c).1
  | 0, p, c, hb => ⟨hb, Nat.le_refl _, Nat.le_refl _, fun _ _ _ => rfl⟩
  | f + 1, p, c, hb => by
    obtain ⟨b5, b6⟩ := jd_b hb 5
    unfold jt_dn jt_dy
    by_cases hc : p.2 = none ∧ p.1 < n
    · simp only [if_pos hc]
      by_cases hg : (jd n tx p 5).2.2 = none
      · simp only [if_pos hg]
        obtain ⟨i1, i2, i3, i4⟩ := jt_dn_w f (jd n tx p 5).2 (c + 1) b5
        refine ⟨i1, by omega, by omega, fun s st c2 => ?_⟩
        split
        · exact i4 _ _ _
        · split
          · exact i4 _ _ _
          · exact i4 _ _ _
      · simp only [if_neg hg]
        exact ⟨b5, Nat.le_succ c, by omega, fun _ _ _ => trivial⟩
    · simp only [if_neg hc]
      exact ⟨hb, Nat.le_refl _, Nat.le_add_right _ _, fun _ _ _ => trivial⟩
theorem ct_rtellM {v : Int64} {l : List Int64} (h : M 101 4 = nI l.length) (hl : l.length < 160) (hQ : Q (some none) (jm_s (wi_m M 101 4 (nI (l ++ [v]).length)) (wls L 104 0 (l ++ [v])) G)) : am_T X 126 0 [some (.ref 101), some (.long v), none] [] (jm_s M (wls L 104 0 l) G) (0, 0) Q := by
  have := ct_rtell (X := X) (M := M) (L := L) (G := G) (Q := Q) hl hQ
  rw [← h, wi_m_id] at this
  exact this
theorem rl_dy : ∀ f p c M, (p.2 = none → 80 ≤ f + p.1) → c + f ≤ 80 → jtR M n tx p → jtb n tx p → (∀ M', (∀ q, q ≠ 101 → q ≠ 105 → M' q = M q) → (∀ i, i ≠ 7 → i ≠ 8 → M' 101 i = M 101 i) → jtR M' n tx (jt_dn n tx f p c).1 → (∀ i, i < 6 * c → M' 105 i = M 105 i) → jdr n tx f p c (M' 105) → ∃ K : Int32 → am_S → Prop, am_T X 143 0 [some (.ref 101)] [] (jm_s M' L G) (0, 0) (am_qi K) ∧ ∀ v σ', K v σ' → am_T X 216 47 [some (.ref 101), some (.int (nI (jt_dn n tx f p c).2)), none] [(.int v)] σ' (0, 0) Q) → am_T X 216 11 [some (.ref 101), some (.int (nI c)), none] [] (jm_s M L G) (0, 0) Q := by
  intro f
  induction f with
  | zero =>
    intro p c M hp hcf hT hb hQ
    have b1 := hb.1
    have b2 := hb.2.1
    have fin := hQ M (fun _ _ _ => rfl) (fun _ _ _ => rfl) hT (fun _ _ => rfl) trivial
    refine rg_X6_day_101_11 (cl_i (fun _ h => ct_fine hT hb h) (rn_X6_day_101_15 ⟨fun _ => fin, fun e => ⟨fun _ => fin, fun h => absurd ?_ h⟩⟩))
    cases h : p.2 with
    | none =>
      rw [hT.1, hT.2.1]
      have := hp h
      exact nI_le (by omega) (by omega)
    | some e' =>
      rw [h] at e
      exact absurd rfl e
  | succ f ih =>
    intro p c M hp hcf hT hb hQ
    have b1 := hb.1
    have b2 := hb.2.1
    unfold jt_dn at hQ
    refine rg_X6_day_101_11 (cl_i (fun _ h => ct_fine hT hb h) (rn_X6_day_101_15 ?_))
    by_cases hk : p.2 = none ∧ p.1 < n
    · rw [if_pos hk] at hQ
      rw [hk.1, hT.1, hT.2.1, nI_le_iff (by omega) (by omega)]
      refine ⟨fun e => absurd e (by decide), fun _ => ⟨fun e => absurd e (by omega), fun _ => ?_⟩⟩
      rw [show (6 : Int32) * nI c = nI (6 * c) from pk_mul 6 c]
      obtain ⟨b5, b6⟩ := jd_b hb 5
      refine cl_v (ct_rreadAct (by omega) hT hb hk.1 hk.2 (fun M1 f1 g1 h1 v1 i1 => ⟨rfl, rg_X6_day_101_37 ?_⟩))
      rw [nI_1]
      by_cases hg : (jd n tx p 5).2.2 = none
      · rw [if_pos hg] at hQ
        refine ih (jd n tx p 5).2 (c + 1) M1 (fun _ => ?_) (by omega) h1 b5 (fun M2 f2 g2 h2 v2 j2 => hQ M2 (fun q q1 q2 => by rw [f2 q q1 q2, f1 q q1 q2]) (fun i a1 a2 => by rw [g2 i a1 a2, g1 i a1 a2]) h2 (fun i hi => by rw [v2 i (by omega), v1 i hi]) (fun _ _ _ => ⟨?_, j2⟩))
        · have := hp hk.1
          have := (b6 hg).2.1
          omega
        · obtain ⟨k0, kw⟩ := i1 hg
          refine ⟨by rw [v2 _ (by omega)]; exact k0, fun w hw => ?_⟩
          have : w < 5 := by
            unfold jdn at hw
            split at hw
            · exact hw
            · split at hw
              · omega
              · split at hw <;> omega
          rw [v2 _ (by omega)]
          exact kw w hw
      · rw [if_neg hg] at hQ
        have fin := hQ M1 f1 g1 h1 v1 (fun _ _ e => absurd e hg)
        refine rg_X6_day_101_11 (cl_i (fun _ h => ct_fine h1 b5 h) (rn_X6_day_101_15 ⟨fun _ => fin, fun e => ?_⟩))
        rw [jb_bad hg] at e
        exact absurd rfl e
    · rw [if_neg hk] at hQ
      have fin := hQ M (fun _ _ _ => rfl) (fun _ _ _ => rfl) hT (fun _ _ => rfl) (fun h1 h2 => absurd ⟨h1, h2⟩ hk)
      refine ⟨fun _ => fin, fun e => ⟨fun _ => fin, fun h => absurd ?_ h⟩⟩
      cases h : p.2 with
      | none =>
        rw [hT.1, hT.2.1]
        exact nI_le (Nat.le_of_not_lt (fun q => hk ⟨h, q⟩)) (by omega)
      | some e' =>
        rw [h] at e
        exact absurd rfl e
theorem ct_save {x : Int32} (hQ : ∀ M', (∀ q, q ≠ 120 → M' q = M q) → (∀ i, i < 277 → M' 120 i = M 102 i) → am_T X 216 86 [some (.ref 101), some (.int x), some (.int 0)] [] (jm_s M' L G) (0, 0) Q) : am_T X 216 59 [some (.ref 101), some (.int x), some (.int 0)] [] (jm_s M L G) (0, 0) Q := by
  refine lp_dn (P := fun k => ∀ M1, (∀ q, q ≠ 120 → M1 q = M q) → (∀ i, i < k → M1 120 i = M 102 i) → am_T X 216 59 [some (.ref 101), some (.int x), some (.int (nI k))] [] (jm_s M1 L G) (0, 0) Q) 277 ?_ ?_ 0 (by decide) M (fun _ _ => rfl) (fun j hj => absurd hj (Nat.not_lt_zero j))
  · intro M1 f1 g1
    exact rn_X6_day_101_59 ⟨fun _ => hQ M1 f1 g1, fun e => absurd (nI_le (Nat.le_refl 277) (by decide)) e⟩
  · intro k hk ih M1 f1 g1
    refine rn_X6_day_101_59 ⟨fun e => absurd e (nI_ge hk (by decide)), fun _ => ⟨vp_in_nI hk (by decide), ?_⟩⟩
    rw [nI_clamp (show k < 2147483648 by omega), nI_1, f1 102 (by decide)]
    refine ih _ (fun q hq => by rw [wi_m_p _ _ hq, f1 q hq]) (fun i hi => ?_)
    rw [wi_m_f]
    show (if i = k then _ else M1 120 i) = _
    by_cases h : i = k
    · rw [if_pos h, h]
    · rw [if_neg h, g1 i (by omega)]
theorem wl_dy {t : Nat} (ht : t ≤ 80) : ∀ f p s c M, (jt_dn n tx f p c).1.2 = none → (jt_dn n tx f p c).2 = t → jdr n tx f p c (M 105) → jtb n tx p → jR (M 102) s → jw s 20 → (∀ M', (∀ q, q ≠ 102 → M' q = M q) → jR (M' 102) (jt_dy n tx f p s false c).2.1 → (jt_dy n tx f p s false c).2.2.1 = decide ((jt_dy n tx f p s false c).2.2.2 < t) → (jt_dy n tx f p s false c).2.2.2 ≤ t → ((nI (jt_dy n tx f p s false c).2.2.2 ≤ 0 → am_T X 216 116 [some (.ref 101), some (.int (nI t)), some (.int (nI (jt_dy n tx f p s false c).2.2.2))] [] (jm_s M' L G) (0, 0) Q) ∧ (¬ nI (jt_dy n tx f p s false c).2.2.2 ≤ 0 → ∃ K : am_S → Prop, am_T X 205 0 [some (.ref 101), none] [] (jm_s M' L G) (0, 0) (am_qv K) ∧ ∀ σ', K σ' → am_T X 216 116 [some (.ref 101), some (.int (nI t)), some (.int (nI (jt_dy n tx f p s false c).2.2.2))] [] σ' (0, 0) Q))) → am_T X 216 86 [some (.ref 101), some (.int (nI t)), some (.int (nI c))] [] (jm_s M L G) (0, 0) Q := by
  intro f
  induction f with
  | zero =>
    intro p s c M h1 h2 h3 hb hR hw hQ
    have e : c = t := h2
    subst e
    exact rn_X6_day_101_86 ⟨fun _ => hQ M (fun _ _ => rfl) hR (decide_eq_false (Nat.lt_irrefl _)).symm (Nat.le_refl _), fun e => absurd (Int32.le_refl _) e⟩
  | succ f ih =>
    intro p s c M h1 h2 h3 hb hR hw hQ
    unfold jt_dn at h1 h2
    unfold jt_dy at hQ
    by_cases hk : p.2 = none ∧ p.1 < n
    · rw [if_pos hk] at h1 h2
      simp only [if_pos hk] at hQ
      by_cases hg : (jd n tx p 5).2.2 = none
      · rw [if_pos hg] at h1 h2
        simp only [if_pos hg, Bool.false_eq_true, if_false] at hQ
        obtain ⟨v, j3⟩ := h3 hk.1 hk.2 hg
        obtain ⟨B1, B2⟩ := jd_b hb 5
        obtain ⟨g0, g1, g2, g3⟩ := B2 hg
        have W2 := (jt_dn_w f (jd n tx p 5).2 (c + 1) B1).2.1
        have hct : c < t := by omega
        refine rn_X6_day_101_86 ⟨fun e => absurd e (nI_ge hct (by omega)), fun _ => ?_⟩
        rw [show (6 : Int32) * nI c = nI (6 * c) from pk_mul 6 c]
        refine cl_w (ct_act (by omega) v (jd_k hb g2).2.2 hR hw (fun h0 => ⟨_, rfl, rn_X6_day_101_99 ⟨fun _ => ?_, fun e => absurd rfl e⟩⟩) (fun h0 M1 f1 r1 => ⟨_, rfl, rn_X6_day_101_99 ⟨fun e => absurd e (by decide), fun _ => ?_⟩⟩))
        · simp only [if_neg h0] at hQ
          have e7 := (jt_dy_w f (jd n tx p 5).2 s true c B1 hw).2.2.2.2.2.2 rfl
          simp only [e7] at hQ
          exact hQ M (fun _ _ => rfl) hR (decide_eq_true hct).symm (by omega)
        · simp only [if_pos h0] at hQ
          rw [nI_1]
          exact ih (jd n tx p 5).2 (je n tx p s).2 (c + 1) M1 h1 h2 (by rw [f1 105 (by decide)]; exact j3) B1 r1 (je_w hw) (fun M2 f2 r2 d2 l2 => hQ M2 (fun q hq => by rw [f2 q hq, f1 q hq]) r2 d2 l2)
      · rw [if_neg hg] at h1
        exact absurd h1 hg
    · rw [if_neg hk] at h1 h2
      simp only [if_neg hk] at hQ
      have e : c = t := h2
      subst e
      exact rn_X6_day_101_86 ⟨fun _ => hQ M (fun _ _ => rfl) hR (decide_eq_false (Nat.lt_irrefl _)).symm (Nat.le_refl _), fun e => absurd (Int32.le_refl _) e⟩
theorem rr_day (hA : jAw a) (hR : jRR M L a) (q0 : ∀ e, (jt_dy (ja_tn a) (ja_tx a) 80 (0, none) (ja_s a) false 0).1.2 = some e → ∀ M', (∀ q, q ≠ 101 → q ≠ 105 → M' q = M q) → (∀ i, i ≠ 2 → i ≠ 5 → i ≠ 6 → i ≠ 7 → i ≠ 8 → M' 101 i = M 101 i) → M' 101 2 = 0 → Q (some (some (.int (-1 - nI e)))) (jm_s M' L G)) (q1 : (jt_dy (ja_tn a) (ja_tx a) 80 (0, none) (ja_s a) false 0).1.2 = none → ∀ M', (∀ q, q < 101 → M' q = M q) → jRR M' (wls L 104 0 (jdl (jt_dy (ja_tn a) (ja_tx a) 80 (0, none) (ja_s a) false 0).2.2.1 (jt_dy (ja_tn a) (ja_tx a) 80 (0, none) (ja_s a) false 0).2.1)) (ja_w (jda a (jt_dy (ja_tn a) (ja_tx a) 80 (0, none) (ja_s a) false 0).2.2.2 (jt_dy (ja_tn a) (ja_tx a) 80 (0, none) (ja_s a) false 0).2.1) (jdl (jt_dy (ja_tn a) (ja_tx a) 80 (0, none) (ja_s a) false 0).2.2.1 (jt_dy (ja_tn a) (ja_tx a) 80 (0, none) (ja_s a) false 0).2.1)) → Q (some (some (.int (nI (jt_dy (ja_tn a) (ja_tx a) 80 (0, none) (ja_s a) false 0).2.2.2)))) (jm_s M' (wls L 104 0 (jdl (jt_dy (ja_tn a) (ja_tx a) 80 (0, none) (ja_s a) false 0).2.2.1 (jt_dy (ja_tn a) (ja_tx a) 80 (0, none) (ja_s a) false 0).2.1)) G)) : am_T X 216 0 [some (.ref 101), none, none] [] (jm_s M L G) (0, 0) Q := by
  have hb0 : jtb (ja_tn a) (ja_tx a) (0, none) := ⟨Nat.zero_le _, hA.2.2.2.1.1, hA.2.2.2.1.2, fun e he => absurd he (by simp)⟩
  obtain ⟨w1, w2, w3, w4, w5, w6, _⟩ := jt_dy_w 80 (0, none) (ja_s a) false 0 hb0 hA.1
  have w5 := w5 (by show 80 ≤ 80 + 0; omega)
  obtain ⟨n1, n2, n3, n4⟩ := jt_dn_w 80 (0, none) 0 hb0
  have n4 := n4 (ja_s a) false 0
  refine rg_X6_day_101_0 (cl_v (ct_begin hR (fun M1 f1 g1 z1 t1 => ⟨rfl, rg_X6_day_101_9 ?_⟩)))
  refine rl_dy (n := ja_tn a) (tx := ja_tx a) 80 (0, none) 0 M1 (fun _ => by show 80 ≤ 80 + 0; omega) (by omega) t1 hb0 (fun M2 f2 g2 t2 _ v2 => ?_)
  have WL := fun M h1 h3 hR hQ => wl_dy (X := X) (L := L) (G := G) (Q := Q) (n := ja_tn a) (tx := ja_tx a) (t := (jt_dn (ja_tn a) (ja_tx a) 80 (0, none) 0).2) (by omega) 80 (0, none) (ja_s a) 0 M h1 rfl h3 hb0 hR hA.1 hQ
  generalize jt_dn (ja_tn a) (ja_tx a) 80 (0, none) 0 = N at *
  rw [← n4] at n1 t2 WL
  generalize (jt_dy (ja_tn a) (ja_tx a) 80 (0, none) (ja_s a) false 0) = R at *
  refine cl_w (ct_wasRight t2 w1 (fun M3 f3 t3 => ⟨_, rfl, rn_X6_day_101_47 ?_⟩))
  have eR : (if R.1.1 < ja_tn a then jq_f R.1 R.1.1 else R.1) = R.1 := by
    by_cases h : R.1.1 < ja_tn a
    · rw [if_pos h]
      unfold jq_f
      cases hp : R.1.2 with
      | none => exact absurd h (by have := w5 hp; omega)
      | some e => rfl
    · rw [if_neg h]
  rw [eR] at t3 ⊢
  have F : ∀ q, q ≠ 101 → q ≠ 105 → M3 q = M q := fun q a1 a2 => by rw [f3.1 q a1, f2 q a1 a2, f1 q a1]
  have F1 : ∀ i, i ≠ 2 → i ≠ 5 → i ≠ 6 → i ≠ 7 → i ≠ 8 → M3 101 i = M 101 i := fun i a1 a2 a3 a4 a5 => by rw [f3.2 i a4 a5, g2 i a4 a5, g1 i a1 a2 a3 a4 a5]
  have F2 : M3 101 2 = 0 := by rw [f3.2 2 (by decide) (by decide), g2 2 (by decide) (by decide), z1]
  cases hp : R.1.2 with
  | some e =>
    refine ⟨fun _ => ?_, fun e => absurd rfl e⟩
    rw [t3.2.2.1, hp]
    exact q0 e hp M3 F F1 F2
  | none =>
    refine ⟨fun e => absurd e (by decide), fun _ => ct_save (fun M4 f4 s4 => ?_)⟩
    have hA3 : jAw (ja_t a 0 (ja_tx a)) := jAw_t hA (by decide) (fun i hi => absurd hi (Nat.not_lt_zero i))
    have hR3 : jRR M3 L (ja_t a 0 (ja_tx a)) := jRR_te hR F F1 F2
    obtain ⟨⟨r1, ⟨r2, r3, r4⟩, r5⟩, rt, rr⟩ := hR3
    have q1 := q1 hp
    refine WL M4 hp (by rw [f4 105 (by decide), f3.1 105 (by decide)]; exact v2) (by rw [f4 102 (by decide)]; exact r1) (fun M5 f5 h5 d5 l5 => ?_)
    have G5 : ∀ q, q ≠ 102 → q ≠ 120 → M5 q = M3 q := fun q a1 a2 => by rw [f5 q a1, f4 q a2]
    have S5 : jR (M5 120) (ja_s a) := jR_f r1 (fun i hi => by rw [f5 120 (by decide), s4 i hi]) (Nat.le_trans hA.1.1 (by decide))
    -- the row
    have tail : ∀ M6, (∀ q, q < 101 → M6 q = M5 q) → jRR M6 L (jda a R.2.2.2 R.2.1) → jR (M6 102) R.2.1 → am_T X 216 116 [some (.ref 101), some (.int (nI N.2)), some (.int (nI R.2.2.2))] [] (jm_s M6 L G) (0, 0) Q := by
      intro M6 f6 hR6 h6
      have last : ∀ v : Int64, v = (jb R.2.2.1).toInt64 → ∃ K : am_S → Prop, am_T X 126 0 [some (.ref 101), some (.long v), none] [] (jm_s (wi_m M6 101 4 0) L G) (0, 0) (am_qv K) ∧ ∀ σ', K σ' → am_T X 216 135 [some (.ref 101), none, some (.int (nI R.2.2.2))] [] σ' (0, 0) Q := by
        intro v ev
        subst ev
        refine cl_v (ct_rtell (l := []) (by decide) ⟨rfl, rg_X6_day_101_135 ?_⟩)
        refine cl_w (ct_allOf (s := R.2.1) (by rw [wi_m_p _ _ (show 102 ≠ 101 by decide)]; exact h6) (jw_44 w2) (fun M7 f7 g7 _ => ⟨_, rfl, rg_X6_day_101_140 ?_⟩))
        refine cl_v (ct_rtellM (l := [(jb R.2.2.1).toInt64]) ?_ (Nat.le_of_ble_eq_true rfl) ⟨rfl, rg_X6_day_101_144 ?_⟩)
        · rw [g7 4 (by decide), wi_m_i]
          rfl
        · refine q1 _ (fun q hq => ?_) (jRR_row hR6 (jdl R.2.2.1 R.2.1) (fun q a1 a2 => ?_) (fun i a1 a2 a3 => ?_) (wi_m_i _ _ _ _))
          · rw [wi_m_p _ _ (by omega), f7 q (by omega) (by omega), wi_m_p _ _ (by omega), f6 q hq, G5 q (by omega) (by omega), F q (by omega) (by omega)]
          · rw [wi_m_p _ _ a1, f7 q a1 a2, wi_m_p _ _ a1]
          · rw [wi_m_eq, if_pos rfl, if_neg a1, g7 i a3, wi_m_eq, if_pos rfl, if_neg a1]
      refine rn_X6_day_101_116 ?_
      have hN : N.2 ≤ 80 := by omega
      rw [nI_le_iff (by omega) (by omega)]
      refine ⟨fun h => last _ ?_, fun h => last _ ?_⟩
      · rw [d5, decide_eq_false (by omega)]
        rfl
      · rw [d5, decide_eq_true (by omega)]
        rfl
    by_cases hc0 : R.2.2.2 = 0
    · have hle : nI R.2.2.2 ≤ 0 := by rw [hc0]; decide
      refine ⟨fun _ => tail M5 (fun _ _ => rfl) ?_ h5, fun e => absurd hle e⟩
      unfold jda
      rw [if_pos hc0]
      have es := w6 hc0
      rw [es] at h5
      unfold jRR jR0 jRt jRr
      rw [G5 101 (by decide) (by decide), G5 119 (by decide) (by decide), G5 122 (by decide) (by decide), G5 121 (by decide) (by decide), G5 103 (by decide) (by decide)]
      exact ⟨⟨h5, ⟨r2, r3, r4⟩, r5⟩, rt, rr⟩
    · have hle : ¬ nI R.2.2.2 ≤ 0 := nI_ge (a := 0) (show 0 < R.2.2.2 by omega) (by omega)
      refine ⟨fun e => absurd e hle, fun _ => ?_⟩
      refine cl_v (ct_note (n := ja_pn a) (pa := ja_pa a) (s := ja_s a) (by rw [G5 101 (by decide) (by decide)]; exact r2) r3 (by rw [G5 119 (by decide) (by decide)]; exact r4) (fun j hj => Nat.le_trans (hA.2.1.2 j hj).1 (by decide)) S5 (Nat.le_trans hA.1.1 (by decide)) (fun M6 f6 g6 p6 o6 => ⟨rfl, ?_⟩))
      refine tail M6 (fun q hq => f6 q (by omega) (by omega)) ?_ (by rw [f6 102 (by decide) (by decide)]; exact h5)
      unfold jda
      rw [if_neg hc0]
      refine ⟨⟨by rw [f6 102 (by decide) (by decide)]; exact h5, ⟨p6, (jpush_w r3 hA.2.1.2 hA.1).1, o6⟩, fun i hi => ?_⟩, ?_, ?_⟩
      · rw [f6 122 (by decide) (by decide), f6 121 (by decide) (by decide), G5 122 (by decide) (by decide), G5 121 (by decide) (by decide)]
        exact r5 i hi
      · unfold jRt at *
        rw [f6 103 (by decide) (by decide), g6 2 (by decide), G5 103 (by decide) (by decide), G5 101 (by decide) (by decide)]
        exact rt
      · unfold jRr at *
        rw [g6 4 (by decide), G5 101 (by decide) (by decide)]
        exact rr
theorem pp_day (hA : jAw a) (hC : jC M L G a) (hR : jRR M L a) : jpp X (jm_s M L G) 94 [some (.ref 0), none, none, none, none] 216 [some (.ref 101), none, none] := by
  have hA2 : jAw (ja_t a 0 (ja_tx a)) := jAw_t hA (by decide) (fun i hi => absurd hi (Nat.not_lt_zero i))
  have hb0 : jtb (ja_tn a) (ja_tx a) (0, none) := ⟨Nat.zero_le _, hA.2.2.2.1.1, hA.2.2.2.1.2, fun e he => absurd he (by simp)⟩
  have w2 := (jt_dy_w 80 (0, none) (ja_s a) false 0 hb0 hA.1).2.1
  have CC := fun Q => cc_day (X := X) (Q := Q) hA hC
  have RR := fun (M1 : Nat → Nat → Int32) L1 G1 Q (h : jRR M1 L1 a) => rr_day (X := X) (G := G1) (Q := Q) hA h
  generalize (jt_dy (ja_tn a) (ja_tx a) 80 (0, none) (ja_s a) false 0) = R at *
  cases hp : R.1.2 with
  | some e =>
    refine ⟨-1 - nI e, CC _ (fun e' he M1 f h1 => ?_) (fun h => absurd (hp.symm.trans h) (by simp))⟩
    have ee : e' = e := Option.some.inj (he.symm.trans hp)
    subst ee
    have hR1 : jRR M1 L a := jRR_f hR (fun q h1 h2 => f q (by omega) (by omega)) rfl
    refine ⟨_, rfl, rfl, RR M1 L G _ hR1 (fun e2 he2 M2 g g1 h2 => ?_) (fun h => absurd (hp.symm.trans h) (by simp))⟩
    have ee : e2 = e' := Option.some.inj (he2.symm.trans hp)
    subst ee
    exact ⟨_, rfl, rfl, jI_mk hA2 (jC_te (tx := ja_tx a) hC f h1) (fun q hq => g q (by omega) (by omega)) rfl (jRR_te hR1 g g1 h2)⟩
  | none =>
    refine ⟨nI R.2.2.2, CC _ (fun e' he => absurd (hp.symm.trans he) (by simp)) (fun _ M1 G1 hC1 f => ?_)⟩
    have hR1 : jRR M1 (wls L 4 0 (jdl R.2.2.1 R.2.1)) a := jRR_f hR (fun q h1 h2 => f q (by omega)) (wls_q (by decide) _ _ _)
    refine ⟨_, rfl, rfl, RR M1 _ G1 _ hR1 (fun e2 he2 => absurd (hp.symm.trans he2) (by simp)) (fun _ M2 g hR2 => ?_)⟩
    refine ⟨_, rfl, rfl, jI_mk (jAw_w ?_ (Nat.le_of_ble_eq_true rfl)) hC1 g (wls_q (by decide) _ _ _) hR2⟩
    unfold jda
    by_cases hc0 : R.2.2.2 = 0
    · rw [if_pos hc0]
      exact hA2
    · rw [if_neg hc0]
      exact jAw_up hA2 w2
end Day5
