/-! ===== pairs: spans told as a TEXT (written by wip/gen/gen_spans.py) ===== -/
theorem jq_f_b {n : Nat} {tx : Nat → Nat} {p : Nat × Option Nat} (hb : jtb n tx p) : jtb n tx (jq_f p p.1) := by
  unfold jq_f
  cases hp : p.2 with
  | none => exact ⟨hb.1, hb.2.1, hb.2.2.1, fun e he => by have : p.1 = e := Option.some.inj he; have := hb.1; have := hb.2.1; omega⟩
  | some e => exact hb
theorem jq_f_n {p : Nat × Option Nat} {e : Nat} : (jq_f p e).2 ≠ none := by
  unfold jq_f
  cases hp : p.2 with
  | none => simp
  | some e => simp [hp]
theorem jq_l_v {jl : Nat → Option Nat} {n : Nat} {tx : Nat → Nat} {p : Nat × Option Nat} (h : (jq_l jl n tx p).2.2 = none) : p.1 < n ∧ jl (tx p.1) = some (jq_l jl n tx p).1 := by
  unfold jq_l at *
  cases hp : p.2 with
  | some e =>
    rw [hp] at h
    exact absurd h (by simp)
  | none =>
    rw [hp] at h
    simp only [] at *
    by_cases hk : p.1 < n
    · rw [if_pos hk] at *
      cases hj : jl (tx p.1) with
      | some k => exact ⟨hk, rfl⟩
      | none =>
        rw [hj] at h
        exact absurd h (by simp)
    · rw [if_neg hk] at h
      exact absurd h (by simp)
theorem jq_d0_0 {n : Nat} {tx : Nat → Nat} : ∀ m v k, (jq_d0 n tx m v k).2.2 ≠ none → (jq_d0 n tx m v k).1 = 0
  | 0, v, k, h => absurd rfl h
  | m + 1, v, k, h => by
    unfold jq_d0 at *
    by_cases hc : k < n ∧ 48 ≤ tx k ∧ tx k ≤ 57
    · rw [if_pos hc] at *
      exact jq_d0_0 m _ _ h
    · rw [if_neg hc] at *
theorem jq_n_v {m lo hi n : Nat} {tx : Nat → Nat} {p : Nat × Option Nat} : (jq_n m lo hi n tx p).1 ≤ hi := by
  unfold jq_n
  cases hd : (jq_d m n tx p).2.2 with
  | some e =>
    have : (jq_d m n tx p).1 = 0 := by
      unfold jq_d at *
      cases hp : p.2 with
      | some e => rfl
      | none =>
        rw [hp] at hd
        exact jq_d0_0 m _ _ (by rw [hd]; simp)
    simp only []
    omega
  | none =>
    simp only []
    by_cases hc : lo ≤ (jq_d m n tx p).1 ∧ (jq_d m n tx p).1 ≤ hi
    · rw [if_pos hc]
      exact hc.2
    · rw [if_neg hc]
      exact Nat.zero_le _
theorem jn_e {e : Nat} (he : e ≤ 80) : ¬ (0 : Int32) ≤ -1 - nI e := by
  have : ∀ e, e ≤ 80 → ¬ (0 : Int32) ≤ -1 - nI e := by decide +kernel
  exact this e he
/-- the class and the reference after a TEXT -/
theorem jC_te {M M' : Nat → Nat → Int32} {L : Nat → Nat → Int64} {G : Nat → Nat → Option Nat} {a : jA} {tx : Nat → Nat} (h : jC M L G a) (f : ∀ q, q ≠ 1 → q < 10 ∨ 14 < q → M' q = M q) (h1 : M' 1 1 = 0) : jC M' L G (ja_t a 0 tx) := by
  obtain ⟨h0, ht, hr⟩ := h
  refine ⟨jC0_f h0 (fun q hq => f q ?_ ?_) rfl, ⟨h1, fun i hi => absurd hi (Nat.not_lt_zero i)⟩, ?_⟩
  · unfold jc0p at hq
    omega
  · unfold jc0p at hq
    omega
  · unfold jCr at *
    rw [f 3 (by decide) (by decide)]
    exact hr
theorem jRR_te {M M' : Nat → Nat → Int32} {L : Nat → Nat → Int64} {a : jA} {tx : Nat → Nat} (h : jRR M L a) (f : ∀ q, q ≠ 101 → q ≠ 105 → M' q = M q) (f1 : ∀ i, i ≠ 2 → i ≠ 5 → i ≠ 6 → i ≠ 7 → i ≠ 8 → M' 101 i = M 101 i) (h1 : M' 101 2 = 0) : jRR M' L (ja_t a 0 tx) := by
  unfold jRR jR0 jRr at *
  rw [f 102 (by decide) (by decide), f 119 (by decide) (by decide), f 121 (by decide) (by decide), f 122 (by decide) (by decide), f1 27 (by decide) (by decide) (by decide) (by decide) (by decide), f1 4 (by decide) (by decide) (by decide) (by decide) (by decide)]
  exact ⟨h.1, ⟨h1, fun i hi => absurd hi (Nat.not_lt_zero i)⟩, h.2.2⟩
section Txt
variable {X : Nat × (Nat → Int32)} {M : Nat → Nat → Int32} {L : Nat → Nat → Int64} {G : Nat → Nat → Option Nat} {Q : am_Q} {n : Nat} {tx : Nat → Nat} {p : Nat × Option Nat} {a : jA} {s : jS}
theorem pp_tx {y z : Nat} {lo lp : am_L} {k : Nat} {s' : jS} (hA : jAw a) (hC : jC M L G a) (hR : jRR M L a) (hw : p.2 = none → jw s' 20) (c : ∀ Q : am_Q, (∀ e, p.2 = some e → ∀ M', (∀ q, q ≠ 1 → q < 10 ∨ 14 < q → M' q = M q) → M' 1 1 = 0 → Q (some (some (.int (-1 - nI e)))) (jm_s M' L G)) → (p.2 = none → ∀ M' G', jC M' L G' (ja_up (ja_t a 0 tx) s') → (∀ q, 101 ≤ q → M' q = M q) → Q (some (some (.int (nI k)))) (jm_s M' L G')) → am_T X y 0 lo [] (jm_s M L G) (0, 0) Q) (rr : ∀ M1 G1, jRR M1 L a → ∀ Q : am_Q, (∀ e, p.2 = some e → ∀ M', (∀ q, q ≠ 101 → q ≠ 105 → M' q = M1 q) → (∀ i, i ≠ 2 → i ≠ 5 → i ≠ 6 → i ≠ 7 → i ≠ 8 → M' 101 i = M1 101 i) → M' 101 2 = 0 → Q (some (some (.int (-1 - nI e)))) (jm_s M' L G1)) → (p.2 = none → ∀ M', (∀ q, q < 101 → M' q = M1 q) → jRR M' L (ja_up (ja_t a 0 tx) s') → Q (some (some (.int (nI k)))) (jm_s M' L G1)) → am_T X z 0 lp [] (jm_s M1 L G1) (0, 0) Q) : jpp X (jm_s M L G) y lo z lp := by
  have hA2 : jAw (ja_t a 0 tx) := jAw_t hA (by decide) (fun i hi => absurd hi (Nat.not_lt_zero i))
  cases hp : p.2 with
  | some e =>
    refine ⟨-1 - nI e, c _ (fun e' he M1 f h1 => ?_) (fun h => absurd (hp.symm.trans h) (by simp))⟩
    have ee : e' = e := Option.some.inj (he.symm.trans hp)
    subst ee
    have hR1 : jRR M1 L a := jRR_f hR (fun q h1 h2 => f q (by omega) (by omega)) rfl
    refine ⟨_, rfl, rfl, rr M1 G hR1 _ (fun e2 he2 M2 g g1 h2 => ?_) (fun h => absurd (hp.symm.trans h) (by simp))⟩
    have ee : e2 = e' := Option.some.inj (he2.symm.trans hp)
    subst ee
    exact ⟨_, rfl, rfl, jI_mk hA2 (jC_te (tx := tx) hC f h1) (fun q hq => g q (by omega) (by omega)) rfl (jRR_te hR1 g g1 h2)⟩
  | none =>
    refine ⟨nI k, c _ (fun e' he => absurd (hp.symm.trans he) (by simp)) (fun _ M1 G1 hC1 f => ?_)⟩
    have hR1 : jRR M1 L a := jRR_f hR (fun q h1 h2 => f q (by omega)) rfl
    refine ⟨_, rfl, rfl, rr M1 G1 hR1 _ (fun e2 he2 => absurd (hp.symm.trans he2) (by simp)) (fun _ M2 g hR2 => ?_)⟩
    exact ⟨_, rfl, rfl, jI_mk (jAw_up hA2 (hw hp)) hC1 g rfl hR2⟩
theorem ct_close (hT : jtC M n tx p) (hb : jtb n tx p) (hQ : Q (some (some (.int (jb p.2.isNone)))) (jm_s (wi_m M 1 1 0) L G)) : am_T X 50 0 [some (.ref 1)] [] (jm_s M L G) (0, 0) Q := by
  have e3 : (wi_m M 1 1 0) 1 3 = jf p.2 := hT.2.2.1
  refine rg_X4_close_1_0 (cl_w (rn_X4_isGood_1_0 ?_))
  rw [e3, jf_1 hb]
  refine ⟨fun h => ?_, fun h => ?_⟩
  · rw [h] at hQ
    exact ⟨_, rfl, rn_X4_close_1_9 ⟨Or.inr rfl, hQ⟩⟩
  · cases hp : p.2 with
    | none => exact absurd hp h
    | some e =>
      rw [hp] at hQ
      exact ⟨_, rfl, rn_X4_close_1_9 ⟨Or.inl rfl, hQ⟩⟩
/-- the class begins to read, on a trial -/
theorem ct_open (hA : jAw a) (hC : jC M L G a) (hQ : ∀ M', (∀ q, q ≠ 1 → q < 10 ∨ 14 < q → M' q = M q) → jh M' 10 (ja_s a) → jtC M' (ja_tn a) (ja_tx a) (0, none) → Q (some none) (jm_s M' L G)) {M1 : Nat → Nat → Int32} (f1 : ∀ q, q < 10 ∨ 14 < q → M1 q = M q) (h1 : jh M1 10 (ja_s a)) : am_T X 46 0 [some (.ref 1)] [] (jm_s M1 L G) (0, 0) Q := by
  refine rg_X4_open_1_0 (hQ _ (fun q q1 q2 => ?_) (jh_f h1 (fun q q1 q2 => ?_)) ⟨?_, rfl, rfl, fun i hi => ?_⟩)
  · rw [wi_m_p _ _ q1, wi_m_p _ _ q1, f1 q q2]
  · rw [wi_m_p _ _ (by omega), wi_m_p _ _ (by omega)]
  · show M1 1 1 = _
    rw [f1 1 (by decide)]
    exact hC.2.1.1
  · show M1 2 i = _
    rw [f1 2 (by decide)]
    exact hC.2.1.2 i hi
theorem ct_begin (hR : jRR M L a) (hQ : ∀ M', (∀ q, q ≠ 101 → M' q = M q) → (∀ i, i ≠ 2 → i ≠ 5 → i ≠ 6 → i ≠ 7 → i ≠ 8 → M' 101 i = M 101 i) → M' 101 2 = 0 → jtR M' (ja_tn a) (ja_tx a) (0, none) → Q (some none) (jm_s M' L G)) : am_T X 134 0 [some (.ref 101)] [] (jm_s (wi_m M 101 5 0) L G) (0, 0) Q := by
  refine rg_X6_begin_101_0 (hQ _ (fun q q1 => ?_) (fun i i1 i2 i3 i4 i5 => ?_) rfl ⟨?_, rfl, rfl, fun i hi => ?_⟩)
  · rw [wi_m_p _ _ q1, wi_m_p _ _ q1, wi_m_p _ _ q1, wi_m_p _ _ q1, wi_m_p _ _ q1]
  · simp only [wi_m_eq]
    simp only [i1, i2, i3, i4, i5, if_true, if_false]
  · show M 101 2 = _
    exact hR.2.1.1
  · show M 103 i = _
    exact hR.2.1.2 i hi
theorem ct_changeT (hA : jAw a) (hR : jRR M L a) (hQ : ∀ M', (∀ q, q ≠ 101 → q ≠ 119 → q ≠ 120 → M' q = M q) → jRR M' L (ja_up a (ja_s a)) → Q (some none) (jm_s M' L G)) : am_T X 204 0 [some (.ref 101), none] [] (jm_s M L G) (0, 0) Q := by
  obtain ⟨⟨r1, ⟨r2, r3, r4⟩, r5⟩, rt, rr⟩ := hR
  refine ct_change (n := ja_pn a) (pa := ja_pa a) (s := ja_s a) r2 r3 r4 (fun j hj => Nat.le_trans (hA.2.1.2 j hj).1 (by decide)) r1 (Nat.le_trans hA.1.1 (by decide)) (fun M' f1 f2 f3 f4 => hQ M' f1 ?_)
  refine ⟨⟨?_, ⟨f3, (jpush_w r3 hA.2.1.2 hA.1).1, f4⟩, fun i hi => ?_⟩, ?_, ?_⟩
  · rw [f1 102 (by decide) (by decide) (by decide)]
    exact r1
  · rw [f1 122 (by decide) (by decide) (by decide), f1 121 (by decide) (by decide) (by decide)]
    exact r5 i hi
  · unfold jRt at *
    rw [f1 103 (by decide) (by decide) (by decide), f2 2 (by decide)]
    exact rt
  · unfold jRr at *
    rw [f2 4 (by decide)]
    exact rr
/-- one span that can be -/
def ji1 (n : Nat) (tx : Nat → Nat) (p : Nat × Option Nat) : Nat × (Nat × Option Nat) := jq_l jl_c n tx p
def ji2 (n : Nat) (tx : Nat → Nat) (p : Nat × Option Nat) : Nat × (Nat × Option Nat) := jq_l jl_k n tx (ji1 n tx p).2
def ji3 (n : Nat) (tx : Nat → Nat) (p : Nat × Option Nat) : Nat × (Nat × Option Nat) := jq_n 3 0 359 n tx (ji2 n tx p).2
def ji4 (n : Nat) (tx : Nat → Nat) (p : Nat × Option Nat) : Nat × (Nat × Option Nat) := jq_n 3 (ji3 n tx p).1 359 n tx (ji3 n tx p).2
def ji5 (n : Nat) (tx : Nat → Nat) (p : Nat × Option Nat) : Nat × (Nat × Option Nat) := jq_n 3 1 999 n tx (ji4 n tx p).2
def ji_p (n : Nat) (tx : Nat → Nat) (p : Nat × Option Nat) (s : jS) : jS := js_put s (nI (ji1 n tx p).1) (nI (ji2 n tx p).1) (nI (ji3 n tx p).1) (nI (ji4 n tx p).1) (nI (ji5 n tx p).1)
theorem ji_b (h : jtb n tx p) : jtb n tx (ji1 n tx p).2 ∧ jtb n tx (ji2 n tx p).2 ∧ jtb n tx (ji3 n tx p).2 ∧ jtb n tx (ji4 n tx p).2 ∧ jtb n tx (ji5 n tx p).2 ∧ ((ji5 n tx p).2.2 = none → p.2 = none ∧ (ji5 n tx p).2.1 = p.1 + 11 ∧ (ji1 n tx p).2.2 = none ∧ (ji2 n tx p).2.2 = none ∧ (ji3 n tx p).2.2 = none ∧ (ji4 n tx p).2.2 = none ∧ jv (nI (ji1 n tx p).1) (nI (ji2 n tx p).1) (nI (ji3 n tx p).1) (nI (ji4 n tx p).1) (nI (ji5 n tx p).1)) := by
  obtain ⟨a1, b1⟩ := jq_l_b (jl := jl_c) h
  obtain ⟨a2, b2⟩ := jq_l_b (jl := jl_k) a1
  obtain ⟨a3, b3⟩ := jq_n_b (m := 3) (lo := 0) (hi := 359) a2
  obtain ⟨a4, b4⟩ := jq_n_b (m := 3) (lo := (ji3 n tx p).1) (hi := 359) a3
  obtain ⟨a5, b5⟩ := jq_n_b (m := 3) (lo := 1) (hi := 999) a4
  refine ⟨a1, a2, a3, a4, a5, fun q => ?_⟩
  obtain ⟨c4, d4, l5, u5⟩ := b5 q
  obtain ⟨c3, d3, l4, u4⟩ := b4 c4
  obtain ⟨c2, d2, l3, u3⟩ := b3 c3
  obtain ⟨c1, d1⟩ := b2 c2
  obtain ⟨c0, d0⟩ := b1 c1
  have v1 := jq_l_v c1
  have v2 := jq_l_v c2
  have w1 := (jl_lt _ (h.2.2.1 _ v1.1)).1 _ v1.2
  have w2 := (jl_lt _ (a1.2.2.1 _ v2.1)).2.1 _ v2.2
  refine ⟨c0, ?_, c1, c2, c3, c4, ⟨nI_pos' (by show (jq_l jl_c n tx p).1 < _; omega), nI_le (b := 4) (by show (jq_l jl_c n tx p).1 ≤ _; omega) (by decide)⟩, ⟨nI_pos' (by show (jq_l jl_k n tx (jq_l jl_c n tx p).2).1 < _; omega), nI_le (b := 3) (by show (jq_l jl_k n tx (jq_l jl_c n tx p).2).1 ≤ _; omega) (by decide)⟩, ⟨nI_pos' (Nat.lt_of_le_of_lt u3 (by decide)), nI_le (b := 359) u3 (by decide)⟩, ⟨nI_le l4 (Nat.lt_of_le_of_lt u4 (by decide)), nI_le (b := 359) u4 (by decide)⟩, ⟨nI_le (a := 1) l5 (Nat.lt_of_le_of_lt u5 (by decide)), nI_le (b := 999) u5 (by decide)⟩⟩
  show (jq_n 3 1 999 n tx (ji4 n tx p).2).2.1 = p.1 + 11
  have d4' : (jq_n 3 1 999 n tx (ji4 n tx p).2).2.1 = (ji4 n tx p).2.1 + 3 := d4
  have d3' : (ji4 n tx p).2.1 = (ji3 n tx p).2.1 + 3 := d3
  have d2' : (ji3 n tx p).2.1 = (ji2 n tx p).2.1 + 3 := d2
  have d1' : (ji2 n tx p).2.1 = (ji1 n tx p).2.1 + 1 := d1
  have d0' : (ji1 n tx p).2.1 = p.1 + 1 := d0
  omega
/-- all spans -/
def jt_sp (n : Nat) (tx : Nat → Nat) : Nat → (Nat × Option Nat) → jS → (Nat × Option Nat) × jS
  | 0, p, s => (p, s)
  | f + 1, p, s => if p.2 = none ∧ p.1 < n then (if jn s = 20 then (jq_f p p.1, s) else if (ji5 n tx p).2.2 = none then jt_sp n tx f (ji5 n tx p).2 (ji_p n tx p s) else ((ji5 n tx p).2, s)) else (p, s)
theorem jt_sp_w : ∀ f p s, jtb n tx p → jw s 20 → jtb n tx (jt_sp n tx f p s).1 ∧ jw (jt_sp n tx f p s).2 20 ∧ (jt_sp n tx f p s).2.2.2 = s.2.2 ∧ jn s ≤ jn (jt_sp n tx f p s).2 ∧ ∀ i, i < 5 * jn s → jsp (jt_sp n tx f p s).2 i = jsp s i
  | 0, p, s, hb, hw => ⟨hb, hw, rfl, Nat.le_refl _, fun _ _ => rfl⟩
  | f + 1, p, s, hb, hw => by
    unfold jt_sp
    obtain ⟨_, _, _, _, b5, b6⟩ := ji_b hb
    by_cases hc : p.2 = none ∧ p.1 < n
    · rw [if_pos hc]
      by_cases h20 : jn s = 20
      · rw [if_pos h20]
        exact ⟨jq_f_b hb, hw, rfl, Nat.le_refl _, fun _ _ => rfl⟩
      · rw [if_neg h20]
        by_cases hg : (ji5 n tx p).2.2 = none
        · rw [if_pos hg]
          have hn := hw.1
          obtain ⟨i1, i2, i3, i4, i5⟩ := jt_sp_w f (ji5 n tx p).2 (ji_p n tx p s) b5 (jw_put hw (by omega) (b6 hg).2.2.2.2.2.2)
          have en : jn (ji_p n tx p s) = jn s + 1 := rfl
          refine ⟨i1, i2, i3, by omega, fun i hi => ?_⟩
          rw [i5 i (by omega)]
          show (if i = 5 * jn s + 4 then _ else if i = 5 * jn s + 3 then _ else if i = 5 * jn s + 2 then _ else if i = 5 * jn s + 1 then _ else if i = 5 * jn s + 0 then _ else jsp s i) = _
          rw [if_neg (by omega), if_neg (by omega), if_neg (by omega), if_neg (by omega), if_neg (by omega)]
        · rw [if_neg hg]
          exact ⟨b5, hw, rfl, Nat.le_refl _, fun _ _ => rfl⟩
    · rw [if_neg hc]
      exact ⟨hb, hw, rfl, Nat.le_refl _, fun _ _ => rfl⟩
/-- it is read to its end -/
def jt_e (n : Nat) (tx : Nat → Nat) (f : Nat) (p : Nat × Option Nat) (s : jS) : Prop := (jt_sp n tx f p s).1.2 = none → n ≤ (jt_sp n tx f p s).1.1
theorem jt_e_sp : ∀ {f p s}, 80 ≤ f + p.1 → jtb n tx p → jt_e n tx f p s
  | 0, p, s, h, hb => fun _ => by show n ≤ p.1; have := hb.2.1; omega
  | f + 1, p, s, h, hb => by
    unfold jt_e jt_sp
    obtain ⟨_, _, _, _, b5, b6⟩ := ji_b hb
    by_cases hc : p.2 = none ∧ p.1 < n
    · rw [if_pos hc]
      by_cases h20 : jn s = 20
      · rw [if_pos h20]
        exact fun e => absurd e jq_f_n
      · rw [if_neg h20]
        by_cases hg : (ji5 n tx p).2.2 = none
        · rw [if_pos hg]
          exact jt_e_sp (by have := (b6 hg).2.1; omega) b5
        · rw [if_neg hg]
          exact fun e => absurd e hg
    · rw [if_neg hc]
      exact fun e => Nat.le_of_not_lt (fun q => hc ⟨e, q⟩)
theorem ct_rps (hT : jtC M n tx p) (hb : jtb n tx p) (hS : jh M 10 s) (hn : jn s < 20) (hQ : ∀ M', (∀ q, q ≠ 1 → q < 10 ∨ 14 < q → M' q = M q) → jtC M' n tx (ji5 n tx p).2 → jh M' 10 (if (ji5 n tx p).2.2 = none then ji_p n tx p s else s) → Q (some none) (jm_s M' L G)) : am_T X 116 0 [some (.ref 0), none, none, none, none, none] [] (jm_s M L G) (0, 0) Q := by
  obtain ⟨b1, b2, b3, b4, b5, b6⟩ := ji_b hb
  refine rg_X5_readPossibleSpan_0_0 (cl_w (ct_letter_c hT hb (fun M1 r1 f1 h1 e1 _ => ⟨_, rfl, rg_X5_readPossibleSpan_0_9 (cl_w (ct_letter_k h1 b1 (fun M2 r2 f2 h2 e2 _ => ⟨_, rfl, rg_X5_readPossibleSpan_0_19 (cl_w (ct_number (m := 3) (lo := 0) (hi := 359) (by decide) (by decide) (by decide) (by decide) (fun _ => rfl) h2 b2 (fun M3 r3 f3 h3 e3 => ⟨_, rfl, rg_X5_readPossibleSpan_0_32 (cl_w (ct_number (m := 3) (lo := (ji3 n tx p).1) (hi := 359) (by decide) (by decide) (by decide) (Nat.lt_of_le_of_lt jq_n_v (by decide)) e3 h3 b3 (fun M4 r4 f4 h4 e4 => ⟨_, rfl, rg_X5_readPossibleSpan_0_45 (cl_w (ct_number (m := 3) (lo := 1) (hi := 999) (by decide) (by decide) (by decide) (by decide) (fun _ => rfl) h4 b4 (fun M5 r5 f5 h5 e5 => ⟨_, rfl, rg_X5_readPossibleSpan_0_59 (cl_i (fun _ h => ct_isGood h5 b5 h) (rn_X5_readPossibleSpan_0_68 ?_))⟩)))⟩)))⟩)))⟩)))⟩)))
  have F : ∀ q, q ≠ 1 → M5 q = M q := fun q hq => by rw [f5 q hq, f4 q hq, f3 q hq, f2 q hq, f1 q hq]
  have S5 : jh M5 10 s := jh_f hS (fun q q1 q2 => F q (by omega))
  have h5 : jtC M5 n tx (ji5 n tx p).2 := h5
  have e5 : (ji5 n tx p).2.2 = none → r5 = nI (ji5 n tx p).1 := e5
  show (jb (ji5 n tx p).2.2.isNone = 0 → _) ∧ (¬ jb (ji5 n tx p).2.2.isNone = 0 → _)
  by_cases hg : (ji5 n tx p).2.2 = none
  · obtain ⟨g0, g1, g2, g3, g4, g5, g6⟩ := b6 hg
    rw [hg]
    refine ⟨fun e => absurd e (by decide), fun _ => ?_⟩
    have E1 : r1 = nI (ji1 n tx p).1 := e1 g2
    have E2 : r2 = nI (ji2 n tx p).1 := e2 g3
    have E3 : r3 = nI (ji3 n tx p).1 := e3 g4
    have E4 : r4 = nI (ji4 n tx p).1 := e4 g5
    rw [E1, E2, E3, E4, e5 hg]
    have ej : jo_bring s (nI (ji1 n tx p).1) (nI (ji2 n tx p).1) (nI (ji3 n tx p).1) (nI (ji4 n tx p).1) (nI (ji5 n tx p).1) = (nI (jn s + 1), ji_p n tx p s) := by
      unfold jo_bring
      rw [if_pos (jvB_iff.mpr g6), if_neg (by omega)]
      rfl
    refine cl_w (ct_bring S5 (by omega) (fun M6 f6 h6 => ⟨_, rfl, rg_X5_readPossibleSpan_0_85 (hQ M6 (fun q q1 q2 => by rw [f6 q q2, F q q1]) (jtC_f h5 (f6 1 (by decide)) (f6 2 (by decide))) ?_)⟩))
    rw [if_pos hg]
    rw [ej] at h6
    exact h6
  · rw [show (ji5 n tx p).2.2.isNone = false by cases h : (ji5 n tx p).2.2 with | none => exact absurd h hg | some e => rfl]
    refine ⟨fun _ => hQ M5 (fun q q1 _ => F q q1) h5 ?_, fun e => absurd rfl e⟩
    rw [if_neg hg]
    exact S5
theorem cl_sp : ∀ f i p s M, i + f = 80 → (p.2 = none → i ≤ p.1) → jtC M n tx p → jtb n tx p → jh M 10 s → jn s ≤ 20 → (∀ M', (∀ q, q ≠ 1 → q < 10 ∨ 14 < q → M' q = M q) → jtC M' n tx (jt_sp n tx f p s).1 → jh M' 10 (jt_sp n tx f p s).2 → ∃ K : Int32 → am_S → Prop, am_T X 50 0 [some (.ref 1)] [] (jm_s M' L G) (0, 0) (am_qi K) ∧ ∀ v σ', K v σ' → am_T X 58 82 [some (.ref 0), none] [(.int v)] σ' (0, 0) Q) → am_T X 58 20 [some (.ref 0), some (.int (nI i))] [] (jm_s M L G) (0, 0) Q := by
  intro f
  induction f with
  | zero =>
    intro i p s M hi hp hT hb hS hn hQ
    exact rn_X5_spans_0_20 ⟨fun _ => hQ M (fun _ _ _ => rfl) hT hS, fun e => absurd (nI_le (a := 80) (show 80 ≤ i by omega) (by omega)) e⟩
  | succ f ih =>
    intro i p s M hi hp hT hb hS hn hQ
    unfold jt_sp at hQ
    refine rn_X5_spans_0_20 ⟨fun e => absurd e (nI_ge (show i < 80 by omega) (by decide)), fun _ => cl_i (fun _ h => ct_goesOn hT hb h) (rn_X5_spans_0_33 ?_)⟩
    by_cases hc : p.2 = none ∧ p.1 < n
    · rw [if_pos hc] at hQ
      rw [hc.1, decide_eq_true hc.2]
      refine ⟨fun e => absurd e (by decide), fun _ => ?_⟩
      rw [hS.1]
      by_cases h20 : jn s = 20
      · rw [if_pos h20] at hQ
        refine ⟨fun e => absurd e (nI_nlt (a := jn s) (b := 20) (by omega) (by omega)), fun _ => ?_⟩
        rw [hT.2.1]
        refine cl_v (ct_fail hT hb (fun M1 f1 h1 => ⟨rfl, rg_X5_spans_0_62 (rg_X5_spans_0_69 ?_)⟩))
        rw [nI_1]
        refine ih (i + 1) (jq_f p p.1) s M1 (by omega) (fun e => absurd e jq_f_n) h1 (jq_f_b hb) (jh_f hS (fun q q1 q2 => f1 q (by omega))) hn (fun M2 f2 h2 h3 => ?_)
        have e0 : jt_sp n tx f (jq_f p p.1) s = (jq_f p p.1, s) := by
          cases f with
          | zero => rfl
          | succ f =>
            unfold jt_sp
            rw [if_neg (fun e => jq_f_n e.1)]
        rw [e0] at h2 h3
        exact hQ M2 (fun q q1 q2 => by rw [f2 q q1 q2, f1 q q1]) h2 h3
      · rw [if_neg h20] at hQ
        refine ⟨fun _ => ?_, fun e => absurd (nI_lt (a := jn s) (b := 20) (by omega) (by decide)) e⟩
        refine cl_v (ct_rps hT hb hS (by omega) (fun M1 f1 h1 h1s => ⟨rfl, rg_X5_spans_0_69 ?_⟩))
        rw [nI_1]
        obtain ⟨_, _, _, _, b5, b6⟩ := ji_b hb
        by_cases hg : (ji5 n tx p).2.2 = none
        · rw [if_pos hg] at hQ h1s
          refine ih (i + 1) (ji5 n tx p).2 (ji_p n tx p s) M1 (by omega) (fun _ => ?_) h1 b5 h1s ?_ (fun M2 f2 h2 h3 => ?_)
          · have := hp hc.1
            have := (b6 hg).2.1
            omega
          · show jn s + 1 ≤ 20
            omega
          · exact hQ M2 (fun q q1 q2 => by rw [f2 q q1 q2, f1 q q1 q2]) h2 h3
        · rw [if_neg hg] at hQ h1s
          refine ih (i + 1) (ji5 n tx p).2 s M1 (by omega) (fun e => absurd e hg) h1 b5 h1s hn (fun M2 f2 h2 h3 => ?_)
          have e0 : jt_sp n tx f (ji5 n tx p).2 s = ((ji5 n tx p).2, s) := by
            cases f with
            | zero => rfl
            | succ f =>
              unfold jt_sp
              rw [if_neg (fun e => hg e.1)]
          rw [e0] at h2 h3
          exact hQ M2 (fun q q1 q2 => by rw [f2 q q1 q2, f1 q q1 q2]) h2 h3
    · rw [if_neg hc] at hQ
      have e0 : (p.2.isNone && decide (p.1 < n)) = false := by
        cases h : p.2 with
        | none => rw [decide_eq_false (fun e => hc ⟨h, e⟩)]; rfl
        | some e => rfl
      rw [e0]
      exact ⟨fun _ => hQ M (fun _ _ _ => rfl) hT hS, fun e => absurd rfl e⟩
theorem cc_spans (hA : jAw a) (hC : jC M L G a) (q0 : ∀ e, (jt_sp (ja_tn a) (ja_tx a) 80 (0, none) (ja_s a)).1.2 = some e → ∀ M', (∀ q, q ≠ 1 → q < 10 ∨ 14 < q → M' q = M q) → M' 1 1 = 0 → Q (some (some (.int (-1 - nI e)))) (jm_s M' L G)) (q1 : (jt_sp (ja_tn a) (ja_tx a) 80 (0, none) (ja_s a)).1.2 = none → ∀ M' G', jC M' L G' (ja_up (ja_t a 0 (ja_tx a)) (jt_sp (ja_tn a) (ja_tx a) 80 (0, none) (ja_s a)).2) → (∀ q, 101 ≤ q → M' q = M q) → Q (some (some (.int (nI (jn (jt_sp (ja_tn a) (ja_tx a) 80 (0, none) (ja_s a)).2))))) (jm_s M' L G')) : am_T X 58 0 [some (.ref 0), none] [] (jm_s M L G) (0, 0) Q := by
  have hb0 : jtb (ja_tn a) (ja_tx a) (0, none) := ⟨Nat.zero_le _, hA.2.2.2.1.1, hA.2.2.2.1.2, fun e he => absurd he (by simp)⟩
  obtain ⟨w1, w2, _, _, _⟩ := jt_sp_w 80 (0, none) (ja_s a) hb0 hA.1
  refine rg_X5_spans_0_0 (cl_v (ct_copy_10_5 hC.1.1.1 hA.1.1 (fun M1 f1 h1 => ⟨rfl, rg_X5_spans_0_11 (cl_v (ct_open hA hC (fun M2 f2 h2 t2 => ⟨rfl, rg_X5_spans_0_18 ?_⟩) f1 h1))⟩)))
  refine cl_sp (n := ja_tn a) (tx := ja_tx a) 80 0 (0, none) (ja_s a) M2 rfl (fun _ => Nat.le_refl 0) t2 hb0 h2 hA.1.1 (fun M3 f3 t3 h3 => cl_i (fun _ h => ct_close t3 w1 h) (rn_X5_spans_0_82 ?_))
  generalize jt_sp (ja_tn a) (ja_tx a) 80 (0, none) (ja_s a) = R at *
  have F : ∀ q, q ≠ 1 → q < 10 ∨ 14 < q → (wi_m M3 1 1 0) q = M q := fun q a1 a2 => by rw [wi_m_p _ _ a1, f3 q a1 a2, f2 q a1 a2]
  cases hp : R.1.2 with
  | some e =>
    refine ⟨fun _ => cl_w (rg_X4_fault_1_0 ⟨_, rfl, rg_X5_spans_0_106 ?_⟩), fun e => absurd rfl e⟩
    have e3 : (wi_m M3 1 1 0) 1 3 = nI e := by
      show M3 1 3 = _
      rw [t3.2.2.1, hp]
      rfl
    rw [e3]
    exact q0 e hp _ F rfl
  | none =>
    refine ⟨fun e => absurd e (by decide), fun _ => ?_⟩
    have S3 : jh (wi_m M3 1 1 0) 10 R.2 := jh_f h3 (fun q a1 a2 => wi_m_p _ _ (by omega))
    rw [S3.1]
    have hn := w2.1
    refine cl_w (ct_adopt (a := ja_t a 0 (ja_tx a)) (jAw_t hA (by decide) (fun i hi => absurd hi (Nat.not_lt_zero i))) (jC_te hC F rfl) S3 w2 (nI_pos' (by omega)) (fun M4 G4 hC4 f4 => ⟨_, rfl, rg_X5_spans_0_96 (rg_X5_spans_0_106 (q1 hp M4 G4 hC4 (fun q hq => ?_)))⟩))
    rw [f4 q hq, F q (by omega) (by omega)]
/-- the reference reads the spans -/
theorem rl_sp {n0 : Nat} : ∀ f p s c M, (p.2 = none → 80 ≤ f + p.1) → jtR M n tx p → jtb n tx p → M 102 0 = nI n0 → jn s = n0 + c → jn s ≤ 20 → (∀ i, i < 5 * c → M 105 i = jsp s (5 * n0 + i)) → (∀ M' x, (∀ q, q ≠ 101 → q ≠ 105 → M' q = M q) → (∀ i, i ≠ 7 → i ≠ 8 → M' 101 i = M 101 i) → jtR M' n tx (jt_sp n tx f p s).1 → ((jt_sp n tx f p s).1.2 = none → ∃ c', x = nI c' ∧ jn (jt_sp n tx f p s).2 = n0 + c' ∧ ∀ i, i < 5 * c' → M' 105 i = jsp (jt_sp n tx f p s).2 (5 * n0 + i)) → ∃ K : Int32 → am_S → Prop, am_T X 143 0 [some (.ref 101)] [] (jm_s M' L G) (0, 0) (am_qi K) ∧ ∀ v σ', K v σ' → am_T X 144 150 [some (.ref 101), some (.int x), none] [(.int v)] σ' (0, 0) Q) → am_T X 144 11 [some (.ref 101), some (.int (nI c)), none] [] (jm_s M L G) (0, 0) Q := by
  intro f
  induction f with
  | zero =>
    intro p s c M hp hT hb h0 hc hn hv hQ
    have b1 := hb.1
    have b2 := hb.2.1
    have fin := hQ M (nI c) (fun _ _ _ => rfl) (fun _ _ _ => rfl) hT (fun _ => ⟨c, rfl, hc, hv⟩)
    refine rg_X6_spans_101_11 (cl_i (fun _ h => ct_fine hT hb h) (rn_X6_spans_101_15 ⟨fun _ => fin, fun e => ⟨fun _ => fin, fun h => absurd ?_ h⟩⟩))
    cases h : p.2 with
    | none =>
      rw [hT.1, hT.2.1]
      have := hp h
      exact nI_le (by omega) (by omega)
    | some e' =>
      rw [h] at e
      exact absurd rfl e
  | succ f ih =>
    intro p s c M hp hT hb h0 hc hn hv hQ
    have b1 := hb.1
    have b2 := hb.2.1
    unfold jt_sp at hQ
    refine rg_X6_spans_101_11 (cl_i (fun _ h => ct_fine hT hb h) (rn_X6_spans_101_15 ?_))
    by_cases hk : p.2 = none ∧ p.1 < n
    · rw [if_pos hk] at hQ
      rw [hk.1, hT.1, hT.2.1, h0, nI_le_iff (by omega) (by omega), nI_add, show (20 : Int32) = nI 20 from rfl, nI_eq_iff (by omega) (by decide)]
      refine ⟨fun e => absurd e (by decide), fun _ => ⟨fun e => absurd e (by omega), fun _ => ⟨fun e => ?_, fun e => ?_⟩⟩⟩
      · rw [if_pos (show jn s = 20 by omega)] at hQ
        refine cl_v (ct_rfault hT hb (fun M1 f1 h1 => ⟨rfl, rg_X6_spans_101_50 ?_⟩))
        refine ih (jq_f p p.1) s c M1 (fun e => absurd e jq_f_n) h1 (jq_f_b hb) (by rw [f1.1 102 (by decide)]; exact h0) hc hn (by rw [f1.1 105 (by decide)]; exact hv) (fun M2 x f2 g2 h2 h3 => ?_)
        have e0 : jt_sp n tx f (jq_f p p.1) s = (jq_f p p.1, s) := by
          cases f with
          | zero => rfl
          | succ f =>
            unfold jt_sp
            rw [if_neg (fun e => jq_f_n e.1)]
        rw [e0] at h2 h3
        exact hQ M2 x (fun q q1 q2 => by rw [f2 q q1 q2, f1.1 q q1]) (fun i i1 i2 => by rw [g2 i i1 i2, f1.2 i i1 i2]) h2 h3
      · rw [if_neg (show ¬ jn s = 20 by omega)] at hQ
        obtain ⟨c1, c2, c3, c4, c5, c6⟩ := ji_b hb
        have m5 : (5 : Int32) * nI c = nI (5 * c) := pk_mul 5 c
        rw [m5]
        have w : ∀ w, w < 5 → vp_in (nI (5 * c + w)) 640 := fun w hw => vp_in_nI (by omega) (by decide)
        have cm : ∀ w, w < 5 → (nI (5 * c + w)).toNatClampNeg = 5 * c + w := fun w hw => nI_clamp (by omega)
        have c0 : (nI (5 * c)).toNatClampNeg = 5 * c := nI_clamp (by omega)
        have a1 : nI (5 * c) + 1 = nI (5 * c + 1) := nI_add _ 1
        have a2 : nI (5 * c) + 2 = nI (5 * c + 2) := nI_add _ 2
        have a3 : nI (5 * c) + 3 = nI (5 * c + 3) := nI_add _ 3
        have a4 : nI (5 * c) + 4 = nI (5 * c + 4) := nI_add _ 4
        have T : ∀ {M : Nat → Nat → Int32} {i v p}, jtR M n tx p → jtR (wi_m M 105 i v) n tx p := fun h => h
        refine cl_w (ct_oneOf (f := 97) (m := 5) (by decide) (by decide) hT hb (fun M1 r1 f1 h1 e1 => ⟨_, rfl, rn_X6_spans_101_69 ⟨w 0 (by decide), ?_⟩⟩))
        rw [a1, c0]
        refine cl_w (ct_readKind (T h1) c1 (fun M2 r2 f2 h2 e2 => ⟨_, rfl, rn_X6_spans_101_81 ⟨w 1 (by decide), ?_⟩⟩))
        rw [a2, cm 1 (by decide)]
        refine cl_w (ct_rnumber (m := 3) (lo := 0) (hi := 359) (by decide) (by decide) (by decide) (by decide) (fun _ => rfl) (T h2) c2 (fun M3 r3 f3 h3 e3 => ⟨_, rfl, rn_X6_spans_101_98 ⟨w 2 (by decide), ?_⟩⟩))
        rw [a2, a3, cm 2 (by decide), wi_m_i]
        refine ⟨w 2 (by decide), cl_w (ct_rnumber (m := 3) (lo := (ji3 n tx p).1) (hi := 359) (by decide) (by decide) (by decide) (Nat.lt_of_le_of_lt jq_n_v (by decide)) e3 (T h3) c3 (fun M4 r4 f4 h4 e4 => ⟨_, rfl, rn_X6_spans_101_122 ⟨w 3 (by decide), ?_⟩⟩))⟩
        rw [a4, cm 3 (by decide)]
        refine cl_w (ct_rnumber (m := 3) (lo := 1) (hi := 999) (by decide) (by decide) (by decide) (by decide) (fun _ => rfl) (T h4) c4 (fun M5 r5 f5 h5 e5 => ⟨_, rfl, rn_X6_spans_101_139 ⟨w 4 (by decide), ?_⟩⟩))
        rw [cm 4 (by decide), nI_1]
        have h5 : jtR M5 n tx (ji5 n tx p).2 := h5
        have e5 : (ji5 n tx p).2.2 = none → r5 = nI (ji5 n tx p).1 := e5
        have F : ∀ q, q ≠ 101 → q ≠ 105 → (wi_m M5 105 (5 * c + 4) r5) q = M q := fun q q1 q2 => by rw [wi_m_p _ _ q2, f5.1 q q1, wi_m_p _ _ q2, f4.1 q q1, wi_m_p _ _ q2, f3.1 q q1, wi_m_p _ _ q2, f2.1 q q1, wi_m_p _ _ q2, f1.1 q q1]
        have F1 : ∀ i, i ≠ 7 → i ≠ 8 → (wi_m M5 105 (5 * c + 4) r5) 101 i = M 101 i := fun i q1 q2 => by rw [wi_m_p _ _ (by decide), f5.2 i q1 q2, wi_m_p _ _ (by decide), f4.2 i q1 q2, wi_m_p _ _ (by decide), f3.2 i q1 q2, wi_m_p _ _ (by decide), f2.2 i q1 q2, wi_m_p _ _ (by decide), f1.2 i q1 q2]
        by_cases hg : (ji5 n tx p).2.2 = none
        · rw [if_pos hg] at hQ
          obtain ⟨g0, g1, g2, g3, g4, g5, g6⟩ := c6 hg
          refine ih (ji5 n tx p).2 (ji_p n tx p s) (c + 1) _ (fun _ => ?_) (T h5) c5 (by rw [F 102 (by decide) (by decide)]; exact h0) ?_ ?_ (fun i hi => ?_) (fun M6 x f6 k6 h6 h7 => hQ M6 x (fun q q1 q2 => by rw [f6 q q1 q2, F q q1 q2]) (fun i i1 i2 => by rw [k6 i i1 i2, F1 i i1 i2]) h6 h7)
          · have := hp hk.1
            omega
          · show jn s + 1 = _
            omega
          · show jn s + 1 ≤ _
            omega
          · have E1 : r1 = nI (ji1 n tx p).1 := e1 g2
            have E2 : r2 = nI (ji2 n tx p).1 := e2 g3
            have E3 : r3 = nI (ji3 n tx p).1 := e3 g4
            have E4 : r4 = nI (ji4 n tx p).1 := e4 g5
            have E5 := e5 hg
            have L5 : ∀ j, (wi_m M5 105 (5 * c + 4) r5) 105 j = if j = 5 * c + 4 then r5 else if j = 5 * c + 3 then r4 else if j = 5 * c + 2 then r3 else if j = 5 * c + 1 then r2 else if j = 5 * c then r1 else M 105 j := by
              intro j
              rw [wi_m_f, f5.1 105 (by decide), wi_m_f, f4.1 105 (by decide), wi_m_f, f3.1 105 (by decide), wi_m_f, f2.1 105 (by decide), wi_m_f, f1.1 105 (by decide)]
            rw [L5 i]
            show _ = (if 5 * n0 + i = 5 * jn s + 4 then nI (ji5 n tx p).1 else if 5 * n0 + i = 5 * jn s + 3 then nI (ji4 n tx p).1 else if 5 * n0 + i = 5 * jn s + 2 then nI (ji3 n tx p).1 else if 5 * n0 + i = 5 * jn s + 1 then nI (ji2 n tx p).1 else if 5 * n0 + i = 5 * jn s + 0 then nI (ji1 n tx p).1 else jsp s (5 * n0 + i))
            have := hv i
            rw [hc, ← E1, ← E2, ← E3, ← E4, ← E5]
            grind
        · rw [if_neg hg] at hQ
          -- behind a fault
          have b5 : ∀ x M, jtR M n tx (ji5 n tx p).2 → (∃ K : Int32 → am_S → Prop, am_T X 143 0 [some (.ref 101)] [] (jm_s M L G) (0, 0) (am_qi K) ∧ ∀ v σ', K v σ' → am_T X 144 150 [some (.ref 101), some (.int x), none] [(.int v)] σ' (0, 0) Q) → am_T X 144 11 [some (.ref 101), some (.int x), none] [] (jm_s M L G) (0, 0) Q := by
            intro x M hM hx
            refine rg_X6_spans_101_11 (cl_i (fun _ h => ct_fine hM c5 h) (rn_X6_spans_101_15 ⟨fun _ => hx, fun e => ?_⟩))
            cases h : (ji5 n tx p).2.2 with
            | none => exact absurd h hg
            | some e' =>
              rw [h] at e
              exact absurd rfl e
          exact b5 _ _ (T h5) (hQ _ _ F F1 (T h5) (fun e => absurd e hg))
    · rw [if_neg hk] at hQ
      have fin := hQ M (nI c) (fun _ _ _ => rfl) (fun _ _ _ => rfl) hT (fun _ => ⟨c, rfl, hc, hv⟩)
      refine ⟨fun _ => fin, fun e => ⟨fun _ => fin, fun h => absurd ?_ h⟩⟩
      cases h : p.2 with
      | none =>
        rw [hT.1, hT.2.1]
        exact nI_le (Nat.le_of_not_lt (fun q => hk ⟨h, q⟩)) (by omega)
      | some e' =>
        rw [h] at e
        exact absurd rfl e
/-- the reference takes them over -/
theorem rl_put {n0 c : Nat} {s s' : jS} (hs : jR (M 102) s) (h0 : jn s = n0) (h1 : jn s' = n0 + c) (h20 : n0 + c ≤ 20) (hr : s'.2.2 = s.2.2) (ho : ∀ i, i < 5 * n0 → jsp s' i = jsp s i) (hv : ∀ i, i < 5 * c → M 105 i = jsp s' (5 * n0 + i)) (hQ : ∀ M', (∀ q, q ≠ 102 → M' q = M q) → jR (M' 102) s' → Q (some (some (.int (nI (n0 + c))))) (jm_s M' L G)) : am_T X 144 166 [some (.ref 101), some (.int (nI c)), some (.int 0)] [] (jm_s M L G) (0, 0) Q := by
  have m5 : (5 : Int32) * nI c = nI (5 * c) := pk_mul 5 c
  have l : ∀ d k M1, k + d = 5 * c → (∀ q, q ≠ 102 → M1 q = M q) → (∀ i, M1 102 i = if 1 + 5 * n0 ≤ i ∧ i < 1 + 5 * n0 + k then jsp s' (i - 1) else M 102 i) → am_T X 144 166 [some (.ref 101), some (.int (nI c)), some (.int (nI k))] [] (jm_s M1 L G) (0, 0) Q := by
    intro d
    induction d with
    | zero =>
      intro k M1 hk f1 h
      have ek : k = 5 * c := by omega
      subst ek
      refine rn_X6_spans_101_166 ⟨fun _ => ?_, fun e => absurd (by rw [m5]; exact Int32.le_refl _) e⟩
      rw [h 0, if_neg (by omega), hs.1, h0, nI_add]
      refine hQ _ (fun q hq => by rw [wi_m_p _ _ hq, f1 q hq]) ?_
      obtain ⟨r1, r2, r3, r4, r5, r6, r7⟩ := hs
      rw [wi_m_f]
      have e1 : jlw s' = jlw s := congrArg (fun t => t.1) hr
      have e2 : jod s' = jod s := congrArg (fun t => t.2.1) hr
      have e3 : jix s' = jix s := congrArg (fun t => t.2.2.1) hr
      have e4 : jcr s' = jcr s := congrArg (fun t => t.2.2.2.1) hr
      have e5 : jle s' = jle s := congrArg (fun t => t.2.2.2.2) hr
      unfold jR
      rw [e1, e2, e3, e4, e5, h1]
      refine ⟨if_pos rfl, fun i hi => ?_, fun i hi => ?_, fun i hi => ?_, ?_, ?_, fun i hi => ?_⟩
      · show (if 1 + i = 0 then _ else M1 102 (1 + i)) = _
        rw [if_neg (by omega), h]
        by_cases hi2 : 5 * n0 ≤ i
        · rw [if_pos (by omega), Nat.add_sub_cancel_left]
        · rw [if_neg (by omega), r2 i (by omega), ho i (by omega)]
      · show (if 221 + i = 0 then _ else M1 102 (221 + i)) = _
        rw [if_neg (by omega), h, if_neg (by omega), r3 i hi]
      · show (if 241 + i = 0 then _ else M1 102 (241 + i)) = _
        rw [if_neg (by omega), h, if_neg (by omega), r4 i hi]
      · show (if 245 = 0 then _ else M1 102 245) = _
        rw [if_neg (by omega), h, if_neg (by omega), r5]
      · show (if 246 = 0 then _ else M1 102 246) = _
        rw [if_neg (by omega), h, if_neg (by omega), r6]
      · show (if 247 + i = 0 then _ else M1 102 (247 + i)) = _
        rw [if_neg (by omega), h, if_neg (by omega), r7 i hi]
    | succ d ih =>
      intro k M1 hk f1 h
      refine rn_X6_spans_101_166 ⟨fun e => absurd e (by rw [m5]; exact nI_ge (show k < 5 * c by omega) (by omega)), fun _ => ?_⟩
      have e1 : M1 102 0 = nI n0 := by rw [h 0, if_neg (by omega), hs.1, h0]
      rw [e1, nI_clamp (show k < 2147483648 by omega), show ((1 : Int32) + 5 * nI n0) + nI k = nI (1 + (5 * n0 + k)) from jr_sp n0 k, nI_clamp (show 1 + (5 * n0 + k) < 2147483648 by omega), nI_1, f1 105 (by decide), hv k (by omega)]
      refine ⟨vp_in_nI (by omega) (by decide), vp_in_nI (by omega) (by decide), ih (k + 1) _ (by omega) (fun q hq => by rw [wi_m_p _ _ hq, f1 q hq]) (fun i => ?_)⟩
      rw [wi_m_f]
      show (if i = 1 + (5 * n0 + k) then _ else M1 102 i) = _
      rw [h i]
      by_cases hi : i = 1 + (5 * n0 + k)
      · rw [if_pos hi, if_pos (by omega), hi, Nat.add_sub_cancel_left]
      · rw [if_neg hi]
        by_cases hi2 : 1 + 5 * n0 ≤ i ∧ i < 1 + 5 * n0 + k
        · rw [if_pos hi2, if_pos (by omega)]
        · rw [if_neg hi2, if_neg (by omega)]
  exact l (5 * c) 0 M (Nat.zero_add _) (fun _ _ => rfl) (fun i => by rw [if_neg (by omega)])
theorem rr_spans (hA : jAw a) (hR : jRR M L a) (q0 : ∀ e, (jt_sp (ja_tn a) (ja_tx a) 80 (0, none) (ja_s a)).1.2 = some e → ∀ M', (∀ q, q ≠ 101 → q ≠ 105 → M' q = M q) → (∀ i, i ≠ 2 → i ≠ 5 → i ≠ 6 → i ≠ 7 → i ≠ 8 → M' 101 i = M 101 i) → M' 101 2 = 0 → Q (some (some (.int (-1 - nI e)))) (jm_s M' L G)) (q1 : (jt_sp (ja_tn a) (ja_tx a) 80 (0, none) (ja_s a)).1.2 = none → ∀ M', (∀ q, q < 101 → M' q = M q) → jRR M' L (ja_up (ja_t a 0 (ja_tx a)) (jt_sp (ja_tn a) (ja_tx a) 80 (0, none) (ja_s a)).2) → Q (some (some (.int (nI (jn (jt_sp (ja_tn a) (ja_tx a) 80 (0, none) (ja_s a)).2))))) (jm_s M' L G)) : am_T X 144 0 [some (.ref 101), none, none] [] (jm_s M L G) (0, 0) Q := by
  have hb0 : jtb (ja_tn a) (ja_tx a) (0, none) := ⟨Nat.zero_le _, hA.2.2.2.1.1, hA.2.2.2.1.2, fun e he => absurd he (by simp)⟩
  obtain ⟨w1, w2, w3, w4, w5⟩ := jt_sp_w 80 (0, none) (ja_s a) hb0 hA.1
  refine rg_X6_spans_101_0 (cl_v (ct_begin hR (fun M1 f1 g1 z1 t1 => ⟨rfl, rg_X6_spans_101_9 ?_⟩)))
  have hd : jt_e (ja_tn a) (ja_tx a) 80 (0, none) (ja_s a) := jt_e_sp (by show 80 ≤ 80 + 0; omega) hb0
  refine rl_sp (n := ja_tn a) (tx := ja_tx a) (n0 := jn (ja_s a)) 80 (0, none) (ja_s a) 0 M1 (fun _ => by show 80 ≤ 80 + 0; omega) t1 hb0 (by rw [f1 102 (by decide)]; exact hR.1.1.1) rfl hA.1.1 (fun i hi => absurd hi (by omega)) (fun M2 x f2 g2 t2 v2 => ?_)
  unfold jt_e at hd
  generalize jt_sp (ja_tn a) (ja_tx a) 80 (0, none) (ja_s a) = R at *
  refine cl_w (ct_wasRight t2 w1 (fun M3 f3 t3 => ⟨_, rfl, rn_X6_spans_101_150 ?_⟩))
  have eR : (if R.1.1 < ja_tn a then jq_f R.1 R.1.1 else R.1) = R.1 := by
    by_cases h : R.1.1 < ja_tn a
    · rw [if_pos h]
      unfold jq_f
      cases hp : R.1.2 with
      | none => exact absurd h (by have := hd hp; omega)
      | some e => rfl
    · rw [if_neg h]
  rw [eR] at t3 ⊢
  have F : ∀ q, q ≠ 101 → q ≠ 105 → M3 q = M q := fun q a1 a2 => by rw [f3.1 q a1, f2 q a1 a2, f1 q a1]
  have F1 : ∀ i, i ≠ 2 → i ≠ 5 → i ≠ 6 → i ≠ 7 → i ≠ 8 → M3 101 i = M 101 i := fun i a1 a2 a3 a4 a5 => by rw [f3.2 i a4 a5, g2 i a4 a5, g1 i a1 a2 a3 a4 a5]
  have F2 : M3 101 2 = 0 := by rw [f3.2 2 (by decide) (by decide), g2 2 (by decide) (by decide), z1]
  cases hp : R.1.2 with
  | some e =>
    refine ⟨fun _ => ?_, fun e => absurd rfl e⟩
    rw [t3.2.2.1, hp]
    exact q0 e hp M3 F F1 F2
  | none =>
    obtain ⟨c, ex, ec, ev⟩ := v2 hp
    subst ex
    refine ⟨fun e => absurd e (by decide), fun _ => ?_⟩
    have hR3 : jRR M3 L (ja_t a 0 (ja_tx a)) := jRR_te hR F F1 F2
    refine cl_v (ct_changeT (a := ja_t a 0 (ja_tx a)) (jAw_t hA (by decide) (fun i hi => absurd hi (Nat.not_lt_zero i))) hR3 (fun M4 f4 hR4 => ⟨rfl, rg_X6_spans_101_164 ?_⟩))
    have q1' := q1 hp
    rw [ec] at q1'
    refine rl_put (n0 := jn (ja_s a)) (c := c) (s := ja_s a) (s' := R.2) hR4.1.1 rfl ec (by have := w2.1; omega) w3 w5 (fun i hi => ?_) (fun M5 f5 h5 => q1' M5 (fun q hq => ?_) (jRR_st hR4 f5 h5))
    · rw [f4 105 (by decide) (by decide) (by decide), f3.1 105 (by decide)]
      exact ev i hi
    · rw [f5 q (by omega), f4 q (by omega) (by omega) (by omega), F q (by omega) (by omega)]
theorem pp_spans (hA : jAw a) (hC : jC M L G a) (hR : jRR M L a) : jpp X (jm_s M L G) 58 [some (.ref 0), none] 144 [some (.ref 101), none, none] :=
  pp_tx (p := (jt_sp (ja_tn a) (ja_tx a) 80 (0, none) (ja_s a)).1) (tx := ja_tx a) (k := jn (jt_sp (ja_tn a) (ja_tx a) 80 (0, none) (ja_s a)).2) (s' := (jt_sp (ja_tn a) (ja_tx a) 80 (0, none) (ja_s a)).2) hA hC hR (fun _ => (jt_sp_w 80 (0, none) (ja_s a) ⟨Nat.zero_le _, hA.2.2.2.1.1, hA.2.2.2.1.2, fun e he => absurd he (by simp)⟩ hA.1).2.1) (fun Q q0 q1 => cc_spans hA hC q0 q1) (fun M1 G1 hR1 Q q0 q1 => rr_spans hA hR1 q0 q1)
end Txt
