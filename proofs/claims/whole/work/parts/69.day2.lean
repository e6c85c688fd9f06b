/-! ===== a day: the class (written by wip/gen/gen_day2.py) ===== -/
section Day2
variable {X : Nat × (Nat → Int32)} {M : Nat → Nat → Int32} {L : Nat → Nat → Int64} {G : Nat → Nat → Option Nat} {Q : am_Q} {n : Nat} {tx : Nat → Nat} {p : Nat × Option Nat} {a : jA} {s : jS}
theorem jo_bring_n {x1 x2 x3 x4 x5 : Int32} (hw : jw s 20) (h : ¬ 0 ≤ (jo_bring s x1 x2 x3 x4 x5).1) : (jo_bring s x1 x2 x3 x4 x5).2 = s := by
  have hn := hw.1
  unfold jo_bring at *
  by_cases hv : jvB x1 x2 x3 x4 x5 = true
  · rw [if_pos hv] at *
    by_cases h2 : 20 ≤ jn s
    · rw [if_pos h2]
    · rw [if_neg h2] at h
      exact absurd (nI_pos' (by omega)) h
  · rw [if_neg hv]
theorem jo_drop_n {x : Int32} (hw : jw s 20) (h : ¬ 0 ≤ (jo_drop s x).1) : (jo_drop s x).2 = s := by
  have hn := hw.1
  unfold jo_drop at *
  by_cases hv : 0 ≤ x ∧ x < nI (jn s)
  · rw [if_pos hv] at h
    exact absurd (nI_pos' (by omega)) h
  · rw [if_neg hv]
theorem jo_str_n {x f t : Int32} (h : ¬ 0 ≤ (jo_str s x f t).1) : (jo_str s x f t).2 = s := by
  unfold jo_str at *
  by_cases hv : (0 ≤ x ∧ x < nI (jn s)) ∧ (0 ≤ f ∧ f ≤ t ∧ t ≤ 359)
  · rw [if_pos hv] at *
    by_cases h2 : jm_of (jsp s) x.toNatClampNeg 2 = f ∧ jm_of (jsp s) x.toNatClampNeg 3 = t
    · rw [if_pos h2]
    · rw [if_neg h2] at h
      obtain ⟨t, ht, rfl⟩ := nI_of2 (n := 359) (M := 359) (by decide) (Int32.not_lt.mpr (Int32.le_trans hv.2.1 hv.2.2.1)) hv.2.2.2
      obtain ⟨f, hf, rfl⟩ := nI_of2 (n := 359) (M := 359) (by decide) (Int32.not_lt.mpr hv.2.1) (Int32.le_trans hv.2.2.1 hv.2.2.2)
      have hft := (nI_le_iff (by omega) (by omega)).mp hv.2.2.1
      refine absurd ?_ h
      show 0 ≤ nI t - nI f + 1
      rw [pk_sub hft, nI_1]
      exact nI_pos' (by omega)
  · rw [if_neg hv]
theorem jo_law_n {c w v : Int32} (hw : jw s 20) (h : ¬ 0 ≤ (jo_law s c w v).1) : (jo_law s c w v).2 = s := by
  unfold jo_law at *
  by_cases hv : (0 ≤ c ∧ c ≤ 4) ∧ (0 ≤ w ∧ w ≤ 3) ∧ (jm_ll w ≤ v ∧ v ≤ jm_lm w)
  · rw [if_pos hv] at *
    by_cases h2 : jlw s (4 * c.toNatClampNeg + w.toNatClampNeg) = v
    · rw [if_pos h2]
    · rw [if_neg h2] at h
      obtain ⟨c, hc, rfl⟩ := nI_of2 (n := 4) (M := 4) (by decide) (Int32.not_lt.mpr hv.1.1) hv.1.2
      obtain ⟨w, hw', rfl⟩ := nI_of2 (n := 3) (M := 3) (by decide) (Int32.not_lt.mpr hv.2.1.1) hv.2.1.2
      rw [nI_clamp (show c < 2147483648 by omega), nI_clamp (show w < 2147483648 by omega)] at h
      obtain ⟨k, hk, ek⟩ := hw.2.2.2.1 (4 * c + w) (by omega)
      refine absurd ?_ h
      show 0 ≤ jlw s (4 * c + w)
      rw [ek]
      exact nI_pos' (by omega)
  · rw [if_neg hv]
theorem jo_ix_n {y v : Int32} (hw : jw s 20) (h : ¬ 0 ≤ (jo_ix s y v).1) : (jo_ix s y v).2 = s := by
  unfold jo_ix at *
  by_cases hv : (0 ≤ y ∧ y ≤ 29) ∧ (50 ≤ v ∧ v ≤ 400)
  · rw [if_pos hv] at *
    by_cases h2 : jix s y.toNatClampNeg = v
    · rw [if_pos h2]
    · rw [if_neg h2] at h
      obtain ⟨y, hy, rfl⟩ := nI_of2 (n := 29) (M := 29) (by decide) (Int32.not_lt.mpr hv.1.1) hv.1.2
      rw [nI_clamp (show y < 2147483648 by omega)] at h
      obtain ⟨k, hk, ek⟩ := hw.2.2.2.2.1 y (by omega)
      refine absurd ?_ h
      show 0 ≤ jix s y
      rw [ek]
      exact nI_pos' (by omega)
  · rw [if_neg hv]
theorem jo_set_n {w v : Int32} (hw : jw s 20) (h : ¬ 0 ≤ (jo_set s w v).1) : (jo_set s w v).2 = s := by
  rw [jo_set_eq] at *
  by_cases hv : jcs w v = true
  · rw [if_pos hv] at *
    by_cases h2 : (if w = 0 then jcr s else jle s) = v
    · rw [if_pos h2]
    · rw [if_neg h2] at h
      obtain ⟨k, hk, ek⟩ := hw.2.2.2.2.2.1
      obtain ⟨k', hk', ek'⟩ := hw.2.2.2.2.2.2
      refine absurd ?_ h
      show 0 ≤ if w = 0 then jcr s else jle s
      split
      · rw [ek]; exact nI_pos' (by omega)
      · rw [ek']; exact nI_pos' (by omega)
  · rw [if_neg hv]
theorem je_n (hw : jw s 20) (h : ¬ 0 ≤ (je n tx p s).1) : (je n tx p s).2 = s := by
  unfold je at *
  by_cases h0 : (jd n tx p 0).1 = 0
  · rw [if_pos h0] at *; exact jo_bring_n hw h
  · rw [if_neg h0] at *
    by_cases h0 : (jd n tx p 0).1 = 1
    · rw [if_pos h0] at *; exact jo_drop_n hw h
    · rw [if_neg h0] at *
      by_cases h0 : (jd n tx p 0).1 = 2
      · rw [if_pos h0] at *; exact jo_str_n h
      · rw [if_neg h0] at *
        by_cases h0 : (jd n tx p 0).1 = 3
        · rw [if_pos h0] at *; exact jo_law_n hw h
        · rw [if_neg h0] at *
          by_cases h0 : (jd n tx p 0).1 = 4
          · rw [if_pos h0] at *; exact jo_set_n hw h
          · rw [if_neg h0] at *
            by_cases h0 : (jd n tx p 0).1 = 5
            · rw [if_pos h0] at *; exact jo_set_n hw h
            · rw [if_neg h0] at *; exact jo_ix_n hw h
noncomputable def jt_dy (n : Nat) (tx : Nat → Nat) : Nat → (Nat × Option Nat) → jS → Bool → Nat → (Nat × Option Nat) × (jS × (Bool × Nat))
  | 0, p, s, st, c => (p, s, st, c)
  | f + 1, p, s, st, c => if p.2 = none ∧ p.1 < n then (if (jd n tx p 5).2.2 = none then (if st = true then jt_dy n tx f (jd n tx p 5).2 s true c else if 0 ≤ (je n tx p s).1 then jt_dy n tx f (jd n tx p 5).2 (je n tx p s).2 false (c + 1) else jt_dy n tx f (jd n tx p 5).2 s true c) else ((jd n tx p 5).2, s, st, c)) else (p, s, st, c)
theorem jt_dy_w : ∀ f p s st c, jtb n tx p → jw s 20 → jtb n tx (jt_dy n tx f p s st c).1 ∧ jw (jt_dy n tx f p s st c).2.1 20 ∧ c ≤ (jt_dy n tx f p s st c).2.2.2 ∧ (jt_dy n tx f p s st c).2.2.2 ≤ c + f ∧ (80 ≤ f + p.1 → (jt_dy n tx f p s st c).1.2 = none → n ≤ (jt_dy n tx f p s st c).1.1) ∧ ((jt_dy n tx f p s st c).2.2.2 = c → (jt_dy n tx f p s st c).2.1 = s) ∧ (st = true → (jt_dy n tx f p s st c).2 = (s, true, c))
  | 0, p, s, st, c, hb, hw => ⟨hb, hw, Nat.le_refl _, Nat.le_refl _, fun h _ => by show n ≤ p.1; have := hb.2.1; omega, fun _ => rfl, fun h => by rw [h]; rfl⟩
  | f + 1, p, s, st, c, hb, hw => by
    unfold jt_dy
    obtain ⟨b5, b6⟩ := jd_b hb 5
    by_cases hc : p.2 = none ∧ p.1 < n
    · rw [if_pos hc]
      by_cases hg : (jd n tx p 5).2.2 = none
      · rw [if_pos hg]
        have hl := (b6 hg).2.1
        by_cases hst : st = true
        · rw [if_pos hst]
          obtain ⟨i1, i2, i3, i4, i5, i6, i7⟩ := jt_dy_w f (jd n tx p 5).2 s true c b5 hw
          exact ⟨i1, i2, i3, by omega, fun h => i5 (by omega), i6, fun _ => i7 rfl⟩
        · rw [if_neg hst]
          by_cases h0 : 0 ≤ (je n tx p s).1
          · rw [if_pos h0]
            obtain ⟨i1, i2, i3, i4, i5, i6, i7⟩ := jt_dy_w f (jd n tx p 5).2 (je n tx p s).2 false (c + 1) b5 (je_w hw)
            exact ⟨i1, i2, by omega, by omega, fun h => i5 (by omega), fun h => absurd h (by omega), fun h => absurd h hst⟩
          · rw [if_neg h0]
            obtain ⟨i1, i2, i3, i4, i5, i6, i7⟩ := jt_dy_w f (jd n tx p 5).2 s true c b5 hw
            exact ⟨i1, i2, i3, by omega, fun h => i5 (by omega), i6, fun h => absurd h hst⟩
      · rw [if_neg hg]
        exact ⟨b5, hw, Nat.le_refl _, Nat.le_add_right _ _, fun _ e => absurd e hg, fun _ => rfl, fun h => by rw [h]⟩
    · rw [if_neg hc]
      exact ⟨hb, hw, Nat.le_refl _, Nat.le_add_right _ _, fun _ e => Nat.le_of_not_lt (fun q => hc ⟨e, q⟩), fun _ => rfl, fun h => by rw [h]⟩
theorem cl_dy : ∀ f i p s st c M, i + f = 80 → (p.2 = none → i ≤ p.1) → jtC M n tx p → jtb n tx p → jh M 10 s → jw s 20 → (∀ M' x1 x2, (∀ q, q ≠ 1 → q < 10 ∨ 14 < q → M' q = M q) → jtC M' n tx (jt_dy n tx f p s st c).1 → ((jt_dy n tx f p s st c).1.2 = none → jh M' 10 (jt_dy n tx f p s st c).2.1 ∧ x1 = nI (jt_dy n tx f p s st c).2.2.2 ∧ x2 = jb (jt_dy n tx f p s st c).2.2.1) → ∃ K : Int32 → am_S → Prop, am_T X 50 0 [some (.ref 1)] [] (jm_s M' L G) (0, 0) (am_qi K) ∧ ∀ v σ', K v σ' → am_T X 94 85 [some (.ref 0), some (.int x1), some (.int x2), none, none] [(.int v)] σ' (0, 0) Q) → am_T X 94 24 [some (.ref 0), some (.int (nI c)), some (.int (jb st)), some (.int (nI i)), none] [] (jm_s M L G) (0, 0) Q := by
  -- behind a fault
  have bad : ∀ (p : Nat × Option Nat) (M : Nat → Nat → Int32) (x1 x2 x3 : Int32), jtC M n tx p → jtb n tx p → ¬ p.2 = none → (∃ K : Int32 → am_S → Prop, am_T X 50 0 [some (.ref 1)] [] (jm_s M L G) (0, 0) (am_qi K) ∧ ∀ v σ', K v σ' → am_T X 94 85 [some (.ref 0), some (.int x1), some (.int x2), none, none] [(.int v)] σ' (0, 0) Q) → am_T X 94 24 [some (.ref 0), some (.int x1), some (.int x2), some (.int x3), none] [] (jm_s M L G) (0, 0) Q := by
    intro p M x1 x2 x3 hT hb hp fin
    refine rn_X5_day_0_24 ⟨fun _ => fin, fun _ => cl_i (fun _ h => ct_goesOn hT hb h) (rn_X5_day_0_37 ?_)⟩
    have e0 : (p.2.isNone && decide (p.1 < n)) = false := by
      cases h : p.2 with
      | none => exact absurd h hp
      | some e => rfl
    rw [e0]
    exact ⟨fun _ => fin, fun e => absurd rfl e⟩
  intro f
  induction f with
  | zero =>
    intro i p s st c M hi hp hT hb hS hw hQ
    exact rn_X5_day_0_24 ⟨fun _ => hQ M _ _ (fun _ _ _ => rfl) hT (fun _ => ⟨hS, rfl, rfl⟩), fun e => absurd (nI_le (a := 80) (show 80 ≤ i by omega) (by omega)) e⟩
  | succ f ih =>
    intro i p s st c M hi hp hT hb hS hw hQ
    unfold jt_dy at hQ
    refine rn_X5_day_0_24 ⟨fun e => absurd e (nI_ge (show i < 80 by omega) (by decide)), fun _ => cl_i (fun _ h => ct_goesOn hT hb h) (rn_X5_day_0_37 ?_)⟩
    by_cases hc : p.2 = none ∧ p.1 < n
    · rw [if_pos hc] at hQ
      rw [hc.1, decide_eq_true hc.2]
      refine ⟨fun e => absurd e (by decide), fun _ => ?_⟩
      obtain ⟨b5, b6⟩ := jd_b hb 5
      have hpl : (jd n tx p 5).2.2 = none → i + 1 ≤ (jd n tx p 5).2.1 := fun hg => by
        have := hp hc.1
        have := (b6 hg).2.1
        omega
      cases st with
      | false =>
        refine ⟨fun _ => ?_, fun e => absurd rfl e⟩
        refine cl_w (ct_readAct (al := true) hT hb hS hw.1 (fun M1 r f1 h1 g1 _ => ⟨_, rfl, rn_X5_day_0_53 ⟨fun _ => ?_, fun e => absurd rfl e⟩⟩))
        rw [nI_1, nI_1]
        by_cases hg : (jd n tx p 5).2.2 = none
        · rw [if_pos hg, if_neg (by decide)] at hQ
          obtain ⟨er, sr⟩ := g1 hg rfl
          rw [er]
          refine ⟨fun h0 => ?_, fun h0 => ?_⟩
          · have h0' : ¬ 0 ≤ (je n tx p s).1 := Int32.not_le.mpr h0
            rw [if_neg h0'] at hQ
            rw [je_n hw h0'] at sr
            exact ih (i + 1) (jd n tx p 5).2 s true c M1 (by omega) hpl h1 b5 sr hw (fun M2 x1 x2 f2 h2 v2 => hQ M2 x1 x2 (fun q q1 q2 => by rw [f2 q q1 q2, f1 q q1 q2]) h2 v2)
          · have h0' : 0 ≤ (je n tx p s).1 := Int32.not_lt.mp h0
            rw [if_pos h0'] at hQ
            exact ih (i + 1) (jd n tx p 5).2 (je n tx p s).2 false (c + 1) M1 (by omega) hpl h1 b5 sr (je_w hw) (fun M2 x1 x2 f2 h2 v2 => hQ M2 x1 x2 (fun q q1 q2 => by rw [f2 q q1 q2, f1 q q1 q2]) h2 v2)
        · rw [if_neg hg] at hQ
          exact ⟨fun _ => bad _ M1 _ _ _ h1 b5 hg (hQ M1 _ _ f1 h1 (fun e => absurd e hg)), fun _ => bad _ M1 _ _ _ h1 b5 hg (hQ M1 _ _ f1 h1 (fun e => absurd e hg))⟩
      | true =>
        refine ⟨fun e => absurd e (by decide), fun _ => ?_⟩
        refine cl_w (ct_readAct (al := false) hT hb hS hw.1 (fun M1 r f1 h1 _ g1 => ⟨_, rfl, rn_X5_day_0_53 ⟨fun e => absurd e (by decide), fun _ => ?_⟩⟩))
        rw [nI_1]
        by_cases hg : (jd n tx p 5).2.2 = none
        · rw [if_pos hg, if_pos rfl] at hQ
          exact ih (i + 1) (jd n tx p 5).2 s true c M1 (by omega) hpl h1 b5 (g1 rfl) hw (fun M2 x1 x2 f2 h2 v2 => hQ M2 x1 x2 (fun q q1 q2 => by rw [f2 q q1 q2, f1 q q1 q2]) h2 v2)
        · rw [if_neg hg] at hQ
          exact bad _ M1 _ _ _ h1 b5 hg (hQ M1 _ _ f1 h1 (fun e => absurd e hg))
    · rw [if_neg hc] at hQ
      have e0 : (p.2.isNone && decide (p.1 < n)) = false := by
        cases h : p.2 with
        | none => rw [decide_eq_false (fun e => hc ⟨h, e⟩)]; rfl
        | some e => rfl
      rw [e0]
      exact ⟨fun _ => hQ M _ _ (fun _ _ _ => rfl) hT (fun _ => ⟨hS, rfl, rfl⟩), fun e => absurd rfl e⟩
/-- what is left of a day -/
abbrev jdl (st : Bool) (s : jS) : List Int64 := [(jb st).toInt64, (jc_all s).toInt64]
abbrev jda (a : jA) (c : Nat) (s : jS) : jA := if c = 0 then ja_t a 0 (ja_tx a) else ja_up (ja_t a 0 (ja_tx a)) s
theorem cc_day (hA : jAw a) (hC : jC M L G a) (q0 : ∀ e, (jt_dy (ja_tn a) (ja_tx a) 80 (0, none) (ja_s a) false 0).1.2 = some e → ∀ M', (∀ q, q ≠ 1 → q < 10 ∨ 14 < q → M' q = M q) → M' 1 1 = 0 → Q (some (some (.int (-1 - nI e)))) (jm_s M' L G)) (q1 : (jt_dy (ja_tn a) (ja_tx a) 80 (0, none) (ja_s a) false 0).1.2 = none → ∀ M' G', jC M' (wls L 4 0 (jdl (jt_dy (ja_tn a) (ja_tx a) 80 (0, none) (ja_s a) false 0).2.2.1 (jt_dy (ja_tn a) (ja_tx a) 80 (0, none) (ja_s a) false 0).2.1)) G' (ja_w (jda a (jt_dy (ja_tn a) (ja_tx a) 80 (0, none) (ja_s a) false 0).2.2.2 (jt_dy (ja_tn a) (ja_tx a) 80 (0, none) (ja_s a) false 0).2.1) (jdl (jt_dy (ja_tn a) (ja_tx a) 80 (0, none) (ja_s a) false 0).2.2.1 (jt_dy (ja_tn a) (ja_tx a) 80 (0, none) (ja_s a) false 0).2.1)) → (∀ q, 101 ≤ q → M' q = M q) → Q (some (some (.int (nI (jt_dy (ja_tn a) (ja_tx a) 80 (0, none) (ja_s a) false 0).2.2.2)))) (jm_s M' (wls L 4 0 (jdl (jt_dy (ja_tn a) (ja_tx a) 80 (0, none) (ja_s a) false 0).2.2.1 (jt_dy (ja_tn a) (ja_tx a) 80 (0, none) (ja_s a) false 0).2.1)) G')) : am_T X 94 0 [some (.ref 0), none, none, none, none] [] (jm_s M L G) (0, 0) Q := by
  have hb0 : jtb (ja_tn a) (ja_tx a) (0, none) := ⟨Nat.zero_le _, hA.2.2.2.1.1, hA.2.2.2.1.2, fun e he => absurd he (by simp)⟩
  obtain ⟨w1, w2, _, w4, _, w6, _⟩ := jt_dy_w 80 (0, none) (ja_s a) false 0 hb0 hA.1
  refine rg_X5_day_0_0 (cl_v (ct_copy_10_5 hC.1.1.1 hA.1.1 (fun M1 f1 h1 => ⟨rfl, rg_X5_day_0_11 (cl_v (ct_open hA hC (fun M2 f2 h2 t2 => ⟨rfl, rg_X5_day_0_18 ?_⟩) f1 h1))⟩)))
  refine cl_dy (n := ja_tn a) (tx := ja_tx a) 80 0 (0, none) (ja_s a) false 0 M2 rfl (fun _ => Nat.le_refl 0) t2 hb0 h2 hA.1 (fun M3 x1 x2 f3 t3 h3 => cl_i (fun _ h => ct_close t3 w1 h) (rn_X5_day_0_85 ?_))
  generalize (jt_dy (ja_tn a) (ja_tx a) 80 (0, none) (ja_s a) false 0) = R at *
  have F : ∀ q, q ≠ 1 → q < 10 ∨ 14 < q → (wi_m M3 1 1 0) q = M q := fun q a1 a2 => by rw [wi_m_p _ _ a1, f3 q a1 a2, f2 q a1 a2]
  cases hp : R.1.2 with
  | some e =>
    refine ⟨fun _ => cl_w (rg_X4_fault_1_0 ⟨_, rfl, rg_X5_day_0_95 ?_⟩), fun e => absurd rfl e⟩
    have e3 : (wi_m M3 1 1 0) 1 3 = nI e := by
      show M3 1 3 = _
      rw [t3.2.2.1, hp]
      rfl
    rw [e3]
    exact q0 e hp _ F rfl
  | none =>
    refine ⟨fun e => absurd e (by decide), fun _ => ?_⟩
    obtain ⟨S3', ex1, ex2⟩ := h3 hp
    subst ex1
    subst ex2
    have S3 : jh (wi_m M3 1 1 0) 10 R.2.1 := jh_f S3' (fun q a1 a2 => wi_m_p _ _ (by omega))
    have q1 := q1 hp
    -- the row
    have tail : ∀ M4 G4, jC M4 L G4 (jda a R.2.2.2 R.2.1) → ja_s (jda a R.2.2.2 R.2.1) = R.2.1 → (∀ q, 101 ≤ q → M4 q = M q) → ∃ K : am_S → Prop, am_T X 23 0 [some (.ref 3)] [] (jm_s M4 L G4) (0, 0) (am_qv K) ∧ ∀ σ', K σ' → am_T X 94 113 [some (.ref 0), some (.int (nI R.2.2.2)), some (.int (jb R.2.2.1)), none, none] [] σ' (0, 0) Q := by
      intro M4 G4 hC4 es f4
      have e15 : M4 15 12 = jc_all R.2.1 := by
        have := hC4.1.1.2.2.1.2.2.2.2
        rw [es] at this
        exact this
      have last : ∀ v : Int64, v = (jb R.2.2.1).toInt64 → ∃ K : am_S → Prop, am_T X 24 0 [some (.ref 3), some (.long v), none] [] (jm_s (wi_m M4 3 1 (nI 0)) L G4) (0, 0) (am_qv K) ∧ ∀ σ', K σ' → am_T X 94 129 [some (.ref 0), some (.int (nI R.2.2.2)), none, none, none] [] σ' (0, 0) Q := by
        intro v ev
        subst ev
        refine cl_v (ct_tell (l := []) (by decide) ⟨rfl, rg_X5_day_0_129 ?_⟩)
        rw [show ∀ v, (wi_m M4 3 1 v) 15 12 = jc_all R.2.1 from fun v => e15]
        refine cl_v (ct_tell (l := [(jb R.2.2.1).toInt64]) (Nat.le_of_ble_eq_true rfl) ⟨rfl, rg_X5_day_0_144 ?_⟩)
        exact q1 _ G4 (jC_row hC4 (jdl R.2.2.1 R.2.1)) (fun q hq => by rw [wi_m_p _ _ (by omega), f4 q hq])
      refine cl_v (ct_clear ⟨rfl, rn_X5_day_0_113 ?_⟩)
      cases hst : R.2.2.1 with
      | false => exact ⟨fun _ => last _ (by rw [hst]; rfl), fun e => absurd rfl e⟩
      | true => exact ⟨fun e => absurd e (by decide), fun _ => last _ (by rw [hst]; rfl)⟩
    by_cases hc0 : R.2.2.2 = 0
    · have hle : nI R.2.2.2 ≤ 0 := by rw [hc0]; decide
      refine ⟨fun _ => tail _ G ?_ ?_ (fun q hq => F q (by omega) (by omega)), fun e => absurd hle e⟩
      · unfold jda
        rw [if_pos hc0]
        exact jC_te hC F rfl
      · unfold jda
        rw [if_pos hc0]
        exact (w6 hc0).symm
    · have hle : ¬ nI R.2.2.2 ≤ 0 := nI_ge (a := 0) (show 0 < R.2.2.2 by omega) (by omega)
      refine ⟨fun e => absurd e hle, fun _ => ?_⟩
      refine cl_w (ct_adopt (a := ja_t a 0 (ja_tx a)) (jAw_t hA (by decide) (fun i hi => absurd hi (Nat.not_lt_zero i))) (jC_te hC F rfl) S3 w2 (nI_pos' (by omega)) (fun M4 G4 hC4 f4 => ⟨_, rfl, rg_X5_day_0_105 ?_⟩))
      refine tail M4 G4 ?_ ?_ (fun q hq => by rw [f4 q hq, F q (by omega) (by omega)])
      · unfold jda
        rw [if_neg hc0]
        exact hC4
      · unfold jda
        rw [if_neg hc0]
end Day2
