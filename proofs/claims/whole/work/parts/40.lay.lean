/-! ===== the reference's MONTHS (written by wip/gen/gen_lay.py) ===== -/
theorem jm_by_sd {sp od : Nat → Int32} {n k : Nat} (h : jm_ok sp n) (hn : n ≤ 64) (hk : k < n) : jm_by (jm_sd sp od k) = nI k := by
  obtain ⟨c, d, f, t, p, e0, e1, e2, e3, e4, b⟩ := h k hk
  have hlt := jm_sn_lt (od := od) (p := p) (x := jm_of sp k 1) b.1 (show k < 64 by omega)
  unfold jm_by
  rw [if_neg (jm_sd_ne h hn hk).2, jm_sd_eq e0 e4 b.2.2.2.2.2]
  unfold am_rem
  rw [show (64 : Int32) = nI 64 from rfl, pk_rem (by omega) (by decide) (by decide)]
  refine congrArg nI ?_
  unfold jm_sn
  omega
theorem jm_st_by {sp od : Nat → Int32} {n : Nat} (h : jm_ok sp n) (hn : n ≤ 64) (m j : Nat) (hj : j ≤ n) : (jm_st sp od m j = 1073741824 ∧ jm_by (jm_st sp od m j) = -1) ∨ ∃ b, b < j ∧ jm_st sp od m j = jm_sd sp od b ∧ jm_by (jm_st sp od m j) = nI b := by
  rcases jm_st_k sp od m j with e | ⟨b, hb, e⟩
  · refine Or.inl ⟨e, ?_⟩
    rw [e]
    rfl
  · refine Or.inr ⟨b, hb, e, ?_⟩
    rw [e]
    exact jm_by_sd h hn (by omega)
def jm_P0 (s : jS) (m : Nat) (M1 : Nat → Nat → Int32) : Prop := M1 106 m = (if jc_by s m = -1 then 0 else 1) ∧ M1 107 m = jm_ld (jsp s) (jm_st (jsp s) (jod s) m (jn s)) ∧ M1 108 m = jm_wg (jsp s) (jix s) (jm_st (jsp s) (jod s) m (jn s)) m ∧ M1 109 m = jc_by s m ∧ M1 110 m = jc_cv s m
def jm_O (M : Nat → Nat → Int32) (s : jS) (m : Nat) (M1 : Nat → Nat → Int32) : Prop := (∀ q, q < 106 ∨ 110 < q → M1 q = M q) ∧ ∀ j, j < m → jm_P0 s j M1
theorem jm_O_w {M M1 : Nat → Nat → Int32} {s : jS} {m p : Nat} {v : Int32} (h : jm_O M s m M1) (hp : 106 ≤ p ∧ p ≤ 110) : jm_O M s m (wi_m M1 p m v) := by
  refine ⟨fun q hq => ?_, fun j hj => ?_⟩
  · rw [wi_m_p _ _ (by omega), h.1 q hq]
  · have h2 := h.2 j hj
    have hne : ¬ j = m := by omega
    unfold jm_P0 at *
    simp only [wi_m_eq, if_neg hne, ite_self]
    exact h2
/-- where GAPS lie -/
def jm_gp (f : Nat → Int32) (r : Int32 × Nat × (Nat → Int32) × (Nat → Int32)) (g a b : Nat) : Prop := r.2.2.1 g = nI (a + 1) ∧ r.2.2.2 g = nI b ∧ f a ≠ -1 ∧ (∀ k, a < k → k < a + 1 + b → f k = -1) ∧ 1 ≤ b ∧ a + 1 + b < 360
theorem jm_gp_eq {f : Nat → Int32} {r : Int32 × Nat × (Nat → Int32) × (Nat → Int32)} {g a b a' b' : Nat} (h : jm_gp f r g a b) (h' : jm_gp f r g a' b') : a = a' ∧ b = b' := by
  obtain ⟨h1, h2, -, -, -, h6⟩ := h
  obtain ⟨h1', h2', -, -, -, h6'⟩ := h'
  have e1 := (nI_eq_iff (by omega) (by omega)).mp (h1.symm.trans h1')
  have e2 := (nI_eq_iff (by omega) (by omega)).mp (h2.symm.trans h2')
  omega
theorem jm_fg_all (f : Nat → Int32) : ∀ m, m ≤ 360 → (((jm_fg f m).1 = -1 ∧ (jm_fg f m).2.1 = 0 ∧ ∀ k, k < m → f k = -1) ∨ ∃ l, l < m ∧ (jm_fg f m).1 = nI l ∧ f l ≠ -1 ∧ (∀ k, l < k → k < m → f k = -1) ∧ ∀ g, g < (jm_fg f m).2.1 → ∃ a b, jm_gp f (jm_fg f m) g a b ∧ a + 1 + b ≤ l) ∧ ∀ g g' a b a' b', g < g' → g' < (jm_fg f m).2.1 → jm_gp f (jm_fg f m) g a b → jm_gp f (jm_fg f m) g' a' b' → a + 1 + b ≤ a'
  | 0, _ => ⟨Or.inl ⟨rfl, rfl, fun k h => absurd h (Nat.not_lt_zero k)⟩, fun g g' _ _ _ _ _ h => absurd h (Nat.not_lt_zero g')⟩
  | m + 1, hm => by
    obtain ⟨i1, i2⟩ := jm_fg_all f m (by omega)
    by_cases h1 : f m = -1
    · have e : jm_fg f (m + 1) = jm_fg f m := by rw [jm_fg, if_pos h1]
      rw [e]
      refine ⟨?_, i2⟩
      rcases i1 with ⟨j1, j2, j3⟩ | ⟨l, hl, j1, j2, j3, j4⟩
      · refine Or.inl ⟨j1, j2, fun k hk => ?_⟩
        by_cases hkm : k = m
        · rw [hkm]; exact h1
        · exact j3 k (by omega)
      · refine Or.inr ⟨l, by omega, j1, j2, fun k hk1 hk2 => ?_, j4⟩
        by_cases hkm : k = m
        · rw [hkm]; exact h1
        · exact j3 k hk1 (by omega)
    · rcases i1 with ⟨j1, j2, j3⟩ | ⟨l, hl, j1, j2, j3, j4⟩
      · have e : jm_fg f (m + 1) = (nI m, (jm_fg f m).2) := by rw [jm_fg, if_neg h1, if_pos j1]
        rw [e]
        refine ⟨Or.inr ⟨m, by omega, rfl, h1, fun k hk1 hk2 => by omega, fun g hg => ?_⟩, fun g g' a b a' b' _ hg => ?_⟩
        · have hg2 : g < (jm_fg f m).2.1 := hg
          omega
        · have hg2 : g' < (jm_fg f m).2.1 := hg
          omega
      · have hn1 : ¬ (jm_fg f m).1 = -1 := by
          rw [j1]
          exact jm_ne1 (by omega)
        by_cases h3 : nI m - (jm_fg f m).1 ≤ 1
        · have e : jm_fg f (m + 1) = (nI m, (jm_fg f m).2) := by rw [jm_fg, if_neg h1, if_neg hn1, if_pos h3]
          rw [e]
          refine ⟨Or.inr ⟨m, by omega, rfl, h1, fun k hk1 hk2 => by omega, fun g hg => ?_⟩, i2⟩
          obtain ⟨a, b, q1, q2⟩ := j4 g hg
          exact ⟨a, b, q1, by omega⟩
        · have e : jm_fg f (m + 1) = (nI m, (jm_fg f m).2.1 + 1, upd (jm_fg f m).2.2.1 (jm_fg f m).2.1 ((jm_fg f m).1 + 1), upd (jm_fg f m).2.2.2 (jm_fg f m).2.1 (nI m - (jm_fg f m).1 - 1)) := by rw [jm_fg, if_neg h1, if_neg hn1, if_neg h3]
          rw [j1, pk_sub (by omega), show (1 : Int32) = nI 1 from rfl, nI_le_iff (by omega) (by decide)] at h3
          have e2 : nI m - (jm_fg f m).1 - 1 = nI (m - l - 1) := by
            rw [j1, pk_sub (by omega), show (1 : Int32) = nI 1 from rfl, pk_sub (by omega)]
          have e3 : (jm_fg f m).1 + 1 = nI (l + 1) := by rw [j1, nI_1]
          rw [e2, e3] at e
          have old : ∀ g a b, g < (jm_fg f m).2.1 → (jm_gp f (jm_fg f (m + 1)) g a b ↔ jm_gp f (jm_fg f m) g a b) := by
            intro g a b hg
            rw [e]
            unfold jm_gp
            show upd _ _ _ g = _ ∧ upd _ _ _ g = _ ∧ _ ↔ _
            rw [pk_un (by omega), pk_un (by omega)]
          have new : jm_gp f (jm_fg f (m + 1)) (jm_fg f m).2.1 l (m - l - 1) := by
            rw [e]
            unfold jm_gp
            show upd _ _ _ _ = _ ∧ upd _ _ _ _ = _ ∧ _
            rw [pk_us, pk_us]
            exact ⟨rfl, rfl, j2, fun k hk1 hk2 => j3 k hk1 (by omega), by omega, by omega⟩
          have ec : (jm_fg f (m + 1)).2.1 = (jm_fg f m).2.1 + 1 := by rw [e]
          refine ⟨Or.inr ⟨m, by omega, by rw [e], h1, fun k hk1 hk2 => by omega, fun g hg => ?_⟩, fun g g' a b a' b' hgg hg q q' => ?_⟩
          · rw [ec] at hg
            by_cases hgc : g = (jm_fg f m).2.1
            · subst hgc
              exact ⟨l, m - l - 1, new, by omega⟩
            · obtain ⟨a, b, q1, q2⟩ := j4 g (by omega)
              exact ⟨a, b, (old g a b (by omega)).mpr q1, by omega⟩
          · rw [ec] at hg
            have q2 := (old g a b (by omega)).mp q
            by_cases hgc : g' = (jm_fg f m).2.1
            · subst hgc
              obtain ⟨u1, u2⟩ := jm_gp_eq q' new
              obtain ⟨a2, b2, q3, q4⟩ := j4 g (by omega)
              obtain ⟨u3, u4⟩ := jm_gp_eq q2 q3
              omega
            · exact i2 g g' a b a' b' hgg (by omega) q2 ((old g' a' b' (by omega)).mp q')
theorem jm_fg_gp (f : Nat → Int32) {g : Nat} (hg : g < (jm_fg f 360).2.1) : ∃ a b, jm_gp f (jm_fg f 360) g a b := by
  rcases (jm_fg_all f 360 (Nat.le_refl _)).1 with ⟨-, h, -⟩ | ⟨l, -, -, -, -, h⟩
  · omega
  · obtain ⟨a, b, h, -⟩ := h g hg
    exact ⟨a, b, h⟩
/-- what is CREDITED: covered MONTHS stay, a GAP's MONTHS get what is ahead -/
theorem jm_cg_cov (f : Nat → Int32) (cr : Int32) (ld wg : Nat → Int32) : ∀ c, c ≤ (jm_fg f 360).2.1 → ∀ m, m < 360 → f m ≠ -1 → (jm_cg cr (jm_fg f 360).2.2.1 (jm_fg f 360).2.2.2 ld wg c).1 m = ld m ∧ (jm_cg cr (jm_fg f 360).2.2.1 (jm_fg f 360).2.2.2 ld wg c).2 m = wg m
  | 0, _, _, _, _ => ⟨rfl, rfl⟩
  | c + 1, hc, m, hm, h => by
    have ih := jm_cg_cov f cr ld wg c (by omega) m hm h
    obtain ⟨a, b, q1, q2, q3, q4, q5, q6⟩ := jm_fg_gp f (show c < (jm_fg f 360).2.1 by omega)
    by_cases h1 : cr < (jm_fg f 360).2.2.2 c
    · rw [jm_cg, if_pos h1]
      exact ih
    · rw [jm_cg_s h1 q1 q2 (by omega)]
      unfold jm_cr
      have hn : ¬ (a + 1 ≤ m ∧ m < a + 1 + b) := fun e => h (q4 m (by omega) e.2)
      simp only [if_neg hn]
      exact ih
theorem jm_cg_gap (f : Nat → Int32) (cr : Int32) (ld wg : Nat → Int32) {g a b : Nat} (hg : g < (jm_fg f 360).2.1) (hp : jm_gp f (jm_fg f 360) g a b) {m : Nat} (hm1 : a < m) (hm2 : m < a + 1 + b) : ∀ c, c ≤ (jm_fg f 360).2.1 → (jm_cg cr (jm_fg f 360).2.2.1 (jm_fg f 360).2.2.2 ld wg c).1 m = (if g < c ∧ ¬ cr < (jm_fg f 360).2.2.2 g then ld a else ld m) ∧ (jm_cg cr (jm_fg f 360).2.2.1 (jm_fg f 360).2.2.2 ld wg c).2 m = (if g < c ∧ ¬ cr < (jm_fg f 360).2.2.2 g then wg a / 2 else wg m)
  | 0, _ => by
    have hn : ¬ (g < 0 ∧ ¬ cr < (jm_fg f 360).2.2.2 g) := fun e => absurd e.1 (Nat.not_lt_zero g)
    rw [if_neg hn, if_neg hn]
    exact ⟨rfl, rfl⟩
  | c + 1, hc => by
    have ih := jm_cg_gap f cr ld wg hg hp hm1 hm2 c (by omega)
    obtain ⟨a', b', q⟩ := jm_fg_gp f (show c < (jm_fg f 360).2.1 by omega)
    have hcov := jm_cg_cov f cr ld wg c (by omega) a' (by have := q.2.2.2.2.2; omega) q.2.2.1
    have ord := (jm_fg_all f 360 (Nat.le_refl _)).2
    by_cases h1 : cr < (jm_fg f 360).2.2.2 c
    · rw [jm_cg, if_pos h1, ih.1, ih.2]
      by_cases hgc : g = c
      · subst hgc
        rw [if_neg (fun e => e.2 h1), if_neg (fun e => e.2 h1), if_neg (fun e => e.2 h1), if_neg (fun e => e.2 h1)]
        exact ⟨rfl, rfl⟩
      · have e : (g < c ∧ ¬ cr < (jm_fg f 360).2.2.2 g) ↔ (g < c + 1 ∧ ¬ cr < (jm_fg f 360).2.2.2 g) := ⟨fun e => ⟨by omega, e.2⟩, fun e => ⟨by omega, e.2⟩⟩
        simp only [e, and_self]
    · rw [jm_cg_s h1 q.1 q.2.1 (by have := q.2.2.2.2.2; omega)]
      unfold jm_cr
      by_cases hgc : g = c
      · subst hgc
        obtain ⟨u1, u2⟩ := jm_gp_eq hp q
        subst u1
        subst u2
        have hy : a + 1 ≤ m ∧ m < a + 1 + b := ⟨hm1, hm2⟩
        simp only [if_pos hy]
        rw [if_pos ⟨Nat.lt_succ_self g, h1⟩, if_pos ⟨Nat.lt_succ_self g, h1⟩, hcov.1, hcov.2]
        exact ⟨rfl, rfl⟩
      · have hn : ¬ (a' + 1 ≤ m ∧ m < a' + 1 + b') := by
          rcases Nat.lt_or_ge g c with h2 | h2
          · have := ord g c a b a' b' h2 (by omega) hp q
            omega
          · have := ord c g a' b' a b (by omega) hg q hp
            omega
        have e : (g < c ∧ ¬ cr < (jm_fg f 360).2.2.2 g) ↔ (g < c + 1 ∧ ¬ cr < (jm_fg f 360).2.2.2 g) := ⟨fun e => ⟨by omega, e.2⟩, fun e => ⟨by omega, e.2⟩⟩
        simp only [if_neg hn, ← e]
        exact ih
def jc_so (s : jS) (m : Nat) : Int32 := if jc_by s m = -1 then (if jc_ld s m = -1 then 0 else 2) else 1
/-- the reference's MONTHS are reckoned of the state -/
def jL (M : Nat → Nat → Int32) (s : jS) : Prop := (∀ m, m < 360 → M 106 m = jc_so s m ∧ M 107 m = jc_ld s m ∧ M 108 m = jc_wg s m ∧ M 109 m = jc_by s m ∧ M 110 m = jc_cv s m) ∧ M 101 15 = nI (jc_gp s).2.1 ∧ ∀ g, g < (jc_gp s).2.1 → M 111 g = (jc_gp s).2.2.1 g ∧ M 112 g = (jc_gp s).2.2.2 g
def jm_I11 (M : Nat → Nat → Int32) (f : Nat → Int32) (r : (Nat → Int32) × (Nat → Int32)) (M1 : Nat → Nat → Int32) : Prop := (∀ p, p ≠ 106 → p ≠ 107 → p ≠ 108 → M1 p = M p) ∧ ∀ m, m < 360 → M1 107 m = r.1 m ∧ M1 108 m = r.2 m ∧ M1 106 m = if f m = -1 then (if r.1 m = -1 then 0 else 2) else 1
theorem jm_I11_next {M M1 M2 : Nat → Nat → Int32} {f : Nat → Int32} {a j : Nat} {r : (Nat → Int32) × (Nat → Int32)} (ha : a < 360) (hj : a + 1 ≤ j) (hf : f j = -1) (hr : r.1 a ≠ -1) (h : jm_I11 M f (jm_cr r a j) M1) (e : M2 = wi_m (wi_m (wi_m M1 106 j 2) 107 j (M1 107 a)) 108 j (M1 108 a / 2)) : jm_I11 M f (jm_cr r a (j + 1)) M2 := by
  subst e
  unfold jm_I11 jm_cr at *
  obtain ⟨h1, h2⟩ := h
  have ha2 := h2 a ha
  refine ⟨fun p q1 q2 q3 => ?_, fun m hm => ?_⟩
  · rw [wi_m_p _ _ q3, wi_m_p _ _ q2, wi_m_p _ _ q1, h1 p q1 q2 q3]
  · have hm2 := h2 m hm
    simp only [wi_m_eq] at *
    grind
theorem rp_X6_layMonths_101_2s {X : Nat × (Nat → Int32)} {M : Nat → Nat → Int32} {L : Nat → Nat → Int64} {G : Nat → Nat → Option Nat} {Q : am_Q} {m : Nat} (hk : m < 360) (h : am_T X 150 25 [some (.ref 101), some (.int (nI m)), some (.int 0)] [] (jm_s (wi_m (wi_m M 109 m (-1)) 110 m 0) L G) (0, 0) Q) : am_T X 150 2 [some (.ref 101), some (.int (nI m)), none] [] (jm_s M L G) (0, 0) Q := rg_X6_layMonths_101_2 (by
  rw [nI_clamp (show m < 2147483648 by omega)]
  exact ⟨fun e => absurd e (nI_ge hk (by decide)), fun _ => ⟨(vp_in_nI hk (by decide)), ⟨(vp_in_nI hk (by decide)), h⟩⟩⟩)
theorem rp_X6_layMonths_101_2e {X : Nat × (Nat → Int32)} {M : Nat → Nat → Int32} {L : Nat → Nat → Int64} {G : Nat → Nat → Option Nat} {Q : am_Q}  (h : ∃ K : am_S → Prop, am_T X 151 0 [some (.ref 101), none, none, none, none] [] (jm_s M L G) (0, 0) (am_qv K) ∧ ∀ σ', K σ' → am_T X 150 214 [none, none, none] [] σ' (0, 0) Q) : am_T X 150 2 [some (.ref 101), some (.int (nI 360)), none] [] (jm_s M L G) (0, 0) Q := rg_X6_layMonths_101_2 (by
  rw [nI_clamp (show 360 < 2147483648 by omega)]
  exact ⟨fun _ => h, fun e => absurd (nI_le (Nat.le_refl 360) (by decide)) e⟩)
theorem rp_X6_layMonths_101_25 {X : Nat × (Nat → Int32)} {M : Nat → Nat → Int32} {L : Nat → Nat → Int64} {G : Nat → Nat → Option Nat} {Q : am_Q} {k m : Nat} (hm : m < 360) (hk : k ≤ 44) (h : (((M 102 0) ≤ (nI k) → (((M 109 m) = (-1) → (am_T X 150 155 [some (.ref 101), some (.int (nI m)), none] [(.int (-1)), (.int (nI m)), (.ref 107)] (jm_s (wi_m M 106 m 0) L G) (0, 0) Q)) ∧ (¬ (M 109 m) = (-1) → (∃ K : Int32 → am_S → Prop, am_T X 127 0 [some (.ref 101), some (.int (M 109 m)), some (.int 0)] [] (jm_s (wi_m M 106 m 1) L G) (0, 0) (am_qi K) ∧ ∀ v σ', K v σ' → am_T X 150 155 [some (.ref 101), some (.int (nI m)), none] [(.int v), (.int (nI m)), (.ref 107)] σ' (0, 0) Q)))) ∧ (¬ (M 102 0) ≤ (nI k) → (∃ K : Int32 → am_S → Prop, am_T X 127 0 [some (.ref 101), some (.int (nI k)), some (.int 2)] [] (jm_s M L G) (0, 0) (am_qi K) ∧ ∀ v σ', K v σ' → am_T X 150 42 [some (.ref 101), some (.int (nI m)), some (.int (nI k))] [(.int v), (.int (nI m))] σ' (0, 0) Q)))) : am_T X 150 25 [some (.ref 101), some (.int (nI m)), some (.int (nI k))] [] (jm_s M L G) (0, 0) Q := rg_X6_layMonths_101_25 (by
  rw [nI_clamp (show m < 2147483648 by omega)]
  exact ⟨(vp_in_nI (show 0 < 277 by decide) (by decide)), ⟨fun e0 => ⟨(jm_in hm), ⟨fun e2 => ⟨(jm_in hm), ⟨(jm_in hm), ⟨fun _ => ⟨(jm_in hm), ((h.1 e0).2 e2)⟩, fun e => absurd e e2⟩⟩⟩, fun e2 => ⟨(jm_in hm), ⟨(jm_in hm), ⟨fun e => absurd e2 e, fun _ => ((h.1 e0).1 e2)⟩⟩⟩⟩⟩, fun e0 => (h.2 e0)⟩⟩)
theorem rp_X6_layMonths_101_51 {X : Nat × (Nat → Int32)} {M : Nat → Nat → Int32} {L : Nat → Nat → Int64} {G : Nat → Nat → Option Nat} {Q : am_Q} {s0 : Int32} {k m : Nat} (hm : m < 360) (hk : k ≤ 44) (h : ((s0 = 0 → (am_T X 150 25 [some (.ref 101), some (.int (nI m)), some (.int (nI (k + 1)))] [] (jm_s M L G) (0, 0) Q)) ∧ (¬ s0 = 0 → (((M 109 m) = (-1) → (am_T X 150 25 [some (.ref 101), some (.int (nI m)), some (.int (nI (k + 1)))] [] (jm_s (wi_m (wi_m M 110 m ((M 110 m) + 1)) 109 m (nI k)) L G) (0, 0) Q)) ∧ (¬ (M 109 m) = (-1) → (∃ K : Int32 → am_S → Prop, am_T X 149 0 [some (.ref 101), some (.int (nI k)), some (.int (M 109 m)), none, none] [] (jm_s (wi_m M 110 m ((M 110 m) + 1)) L G) (0, 0) (am_qi K) ∧ ∀ v σ', K v σ' → am_T X 150 88 [some (.ref 101), some (.int (nI m)), some (.int (nI k))] [(.int v)] σ' (0, 0) Q)))))) : am_T X 150 51 [some (.ref 101), some (.int (nI m)), some (.int (nI k))] [(.int s0)] (jm_s M L G) (0, 0) Q := rg_X6_layMonths_101_51 (by
  rw [nI_clamp (show m < 2147483648 by omega), nI_1 k]
  exact ⟨fun e0 => ⟨(jm_in hm), ⟨(jm_in hm), ⟨(jm_in hm), ⟨fun e2 => ⟨(jm_in hm), ((h.2 e0).1 e2)⟩, fun e2 => ⟨(jm_in hm), ((h.2 e0).2 e2)⟩⟩⟩⟩⟩, fun e0 => (h.1 e0)⟩)
theorem rp_X6_layMonths_101_88 {X : Nat × (Nat → Int32)} {M : Nat → Nat → Int32} {L : Nat → Nat → Int64} {G : Nat → Nat → Option Nat} {Q : am_Q} {s0 : Int32} {k m : Nat} (hm : m < 360) (hk : k ≤ 44) (h : ((s0 = 0 → (am_T X 150 25 [some (.ref 101), some (.int (nI m)), some (.int (nI (k + 1)))] [] (jm_s M L G) (0, 0) Q)) ∧ (¬ s0 = 0 → (am_T X 150 25 [some (.ref 101), some (.int (nI m)), some (.int (nI (k + 1)))] [] (jm_s (wi_m M 109 m (nI k)) L G) (0, 0) Q)))) : am_T X 150 88 [some (.ref 101), some (.int (nI m)), some (.int (nI k))] [(.int s0)] (jm_s M L G) (0, 0) Q := rg_X6_layMonths_101_88 (by
  rw [nI_clamp (show m < 2147483648 by omega), nI_1 k]
  exact ⟨fun e0 => (h.1 e0), fun e0 => ⟨(jm_in hm), (h.2 e0)⟩⟩)
theorem rp_X6_layMonths_101_155 {X : Nat × (Nat → Int32)} {M : Nat → Nat → Int32} {L : Nat → Nat → Int64} {G : Nat → Nat → Option Nat} {Q : am_Q} {s2 : Int32} {m : Nat} (hm : m < 360) (h : (((M 109 m) = (-1) → (am_T X 150 2 [some (.ref 101), some (.int (nI (m + 1))), none] [] (jm_s (wi_m (wi_m M 107 m s2) 108 m 0) L G) (0, 0) Q)) ∧ (¬ (M 109 m) = (-1) → (∃ K : Int32 → am_S → Prop, am_T X 127 0 [some (.ref 101), some (.int (M 109 m)), some (.int 4)] [] (jm_s (wi_m M 107 m s2) L G) (0, 0) (am_qi K) ∧ ∀ v σ', K v σ' → am_T X 150 186 [some (.ref 101), some (.int (nI m)), none] [(.int v), (.int (nI m)), (.ref 108)] σ' (0, 0) Q)))) : am_T X 150 155 [some (.ref 101), some (.int (nI m)), none] [(.int s2), (.int (nI m)), (.ref 107)] (jm_s M L G) (0, 0) Q := rg_X6_layMonths_101_155 (by
  rw [nI_clamp (show m < 2147483648 by omega), nI_1 m]
  exact ⟨(jm_in hm), ⟨(jm_in hm), ⟨fun e1 => ⟨(jm_in hm), (h.2 e1)⟩, fun e1 => ⟨(jm_in hm), (h.1 e1)⟩⟩⟩⟩)
section RefL
variable {X : Nat × (Nat → Int32)} {M : Nat → Nat → Int32} {L : Nat → Nat → Int64} {G : Nat → Nat → Option Nat} {Q : am_Q}
theorem ct_layGaps {f : Nat → Int32} {cr : Int32} (hs : ∀ m, m < 360 → M 106 m = if f m = -1 then 0 else 1) (hld : ∀ m, m < 360 → (M 107 m = -1 ↔ f m = -1)) (hcr : M 102 245 = cr) (hQ : ∀ M', (∀ q, q ≠ 101 → q ≠ 106 → q ≠ 107 → q ≠ 108 → q ≠ 111 → q ≠ 112 → M' q = M q) → (∀ i, i ≠ 15 → M' 101 i = M 101 i) → M' 101 15 = nI (jm_fg f 360).2.1 → (∀ g, g < (jm_fg f 360).2.1 → M' 111 g = (jm_fg f 360).2.2.1 g ∧ M' 112 g = (jm_fg f 360).2.2.2 g) → (∀ m, m < 360 → M' 107 m = (jm_cg cr (jm_fg f 360).2.2.1 (jm_fg f 360).2.2.2 (M 107) (M 108) (jm_fg f 360).2.1).1 m ∧ M' 108 m = (jm_cg cr (jm_fg f 360).2.2.1 (jm_fg f 360).2.2.2 (M 107) (M 108) (jm_fg f 360).2.1).2 m ∧ M' 106 m = if f m = -1 then (if (jm_cg cr (jm_fg f 360).2.2.1 (jm_fg f 360).2.2.2 (M 107) (M 108) (jm_fg f 360).2.1).1 m = -1 then 0 else 2) else 1) → Q (some none) (jm_s M' L G)) : am_T X 151 0 [some (.ref 101), none, none, none, none] [] (jm_s M L G) (0, 0) Q := by
  refine rg_X6_layGaps_101_0 ?_
  have hcnt : ∀ m, m ≤ 360 → (jm_fg f m).2.1 ≤ m := by
    intro m
    induction m with
    | zero => intro _; exact Nat.le_refl 0
    | succ m ih =>
      intro hm
      have := ih (by omega)
      rw [jm_fg]
      split
      · omega
      split
      · show (jm_fg f m).2.1 ≤ m + 1
        omega
      split
      · show (jm_fg f m).2.1 ≤ m + 1
        omega
      · show (jm_fg f m).2.1 + 1 ≤ m + 1
        omega
  -- the credited ones
  have l2 : ∀ M0, (∀ q, q ≠ 101 → q ≠ 111 → q ≠ 112 → M0 q = M q) → (∀ i, i ≠ 15 → M0 101 i = M 101 i) → M0 101 15 = nI (jm_fg f 360).2.1 → (∀ g, g < (jm_fg f 360).2.1 → M0 111 g = (jm_fg f 360).2.2.1 g ∧ M0 112 g = (jm_fg f 360).2.2.2 g) → ∀ g, g ≤ (jm_fg f 360).2.1 → ∀ M1, jm_I11 M0 f (jm_cg cr (jm_fg f 360).2.2.1 (jm_fg f 360).2.2.2 (M 107) (M 108) g) M1 → am_T X 151 87 [some (.ref 101), none, some (.int (nI g)), none, none] [] (jm_s M1 L G) (0, 0) Q := by
    intro M0 z1 z2 z3 z4
    have hc := hcnt 360 (Nat.le_refl _)
    refine lp_dn _ ?_ ?_
    · intro M1 hI
      have e1 : M1 101 = M0 101 := hI.1 101 (by decide) (by decide) (by decide)
      have e2 : M1 111 = M0 111 := hI.1 111 (by decide) (by decide) (by decide)
      have e3 : M1 112 = M0 112 := hI.1 112 (by decide) (by decide) (by decide)
      refine rg_X6_layGaps_101_87 ⟨fun _ => hQ M1 ?_ ?_ ?_ ?_ hI.2, fun h => absurd ?_ h⟩
      · intro q h1 h2 h3 h4 h5 h6
        rw [hI.1 q h2 h3 h4, z1 q h1 h5 h6]
      · intro i hi
        rw [e1, z2 i hi]
      · rw [e1, z3]
      · intro g hg
        rw [e2, e3]
        exact z4 g hg
      · rw [e1, z3]
        exact nI_le (Nat.le_refl _) (by omega)
    · intro g hg ih M1 hI
      have e1 : M1 101 = M0 101 := hI.1 101 (by decide) (by decide) (by decide)
      have e2 : M1 111 g = (jm_fg f 360).2.2.1 g := by rw [hI.1 111 (by decide) (by decide) (by decide)]; exact (z4 g hg).1
      have e3 : M1 112 g = (jm_fg f 360).2.2.2 g := by rw [hI.1 112 (by decide) (by decide) (by decide)]; exact (z4 g hg).2
      have e4 : M1 102 245 = cr := by rw [hI.1 102 (by decide) (by decide) (by decide), z1 102 (by decide) (by decide) (by decide), hcr]
      obtain ⟨a, b, hp⟩ := jm_fg_gp f hg
      have hp2 := hp
      obtain ⟨q1, q2, q3, q4, q5, q6⟩ := hp2
      have hv : vp_in (nI g) 360 := vp_in_nI (by omega) (by decide)
      refine rg_X6_layGaps_101_87 ⟨fun h => absurd h ?_, fun _ => ⟨hv, vp_in_nI (show 245 < 277 by decide) (by decide), ?_⟩⟩
      · rw [e1, z3]
        exact nI_ge hg (by omega)
      rw [nI_clamp (show g < 2147483648 by omega), nI_1, e3, e4, e2, q1, nI_pred]
      have cov := (jm_cg_cov f cr (M 107) (M 108) g (by omega) a (by omega) q3).1
      have hra : (jm_cg cr (jm_fg f 360).2.2.1 (jm_fg f 360).2.2.2 (M 107) (M 108) g).1 a ≠ -1 := by
        rw [cov]
        exact fun e => q3 ((hld a (by omega)).mp e)
      refine ⟨fun h => ⟨hv, hv, ?_⟩, fun h => ?_⟩
      · have hlt : ¬ cr < (jm_fg f 360).2.2.2 g := Int32.not_lt.mpr h
        rw [jm_cg_s hlt q1 q2 (by omega)] at ih
        have l3 : ∀ j, j ≤ a + 1 + b → a + 1 ≤ j → ∀ M2, jm_I11 M0 f (jm_cr (jm_cg cr (jm_fg f 360).2.2.1 (jm_fg f 360).2.2.2 (M 107) (M 108) g) a j) M2 → am_T X 151 132 [some (.ref 101), none, some (.int (nI g)), some (.int (nI a)), some (.int (nI j))] [] (jm_s M2 L G) (0, 0) Q := by
          refine lp_dn (a + 1 + b) ?_ ?_
          · intro _ M2 hI2
            have e2 : M2 111 g = nI (a + 1) := by rw [hI2.1 111 (by decide) (by decide) (by decide), (z4 g hg).1, q1]
            have e3 : M2 112 g = nI b := by rw [hI2.1 112 (by decide) (by decide) (by decide), (z4 g hg).2, q2]
            refine rg_X6_layGaps_101_132 ⟨hv, hv, ?_⟩
            rw [nI_clamp (show g < 2147483648 by omega), e2, e3, nI_add, nI_1]
            exact ⟨fun _ => ih M2 hI2, fun h => absurd (nI_le (Nat.le_refl _) (by omega)) h⟩
          · intro j hj ih2 haj M2 hI2
            have e2 : M2 111 g = nI (a + 1) := by rw [hI2.1 111 (by decide) (by decide) (by decide), (z4 g hg).1, q1]
            have e3 : M2 112 g = nI b := by rw [hI2.1 112 (by decide) (by decide) (by decide), (z4 g hg).2, q2]
            refine rg_X6_layGaps_101_132 ⟨hv, hv, ?_⟩
            rw [nI_clamp (show g < 2147483648 by omega), e2, e3, nI_add, jm_cl (show j < 360 by omega), jm_cl (show a < 360 by omega), nI_1 j]
            refine ⟨fun h => absurd h (nI_ge hj (by omega)), fun _ => ⟨jm_in (by omega), jm_in (by omega), jm_in (by omega), jm_in (by omega), by decide, jm_in (by omega), ?_⟩⟩
            refine ih2 (by omega) _ (jm_I11_next (by omega) haj (q4 j (by omega) hj) hra hI2 rfl)
        refine l3 (a + 1) (by omega) (Nat.le_refl _) M1 ⟨hI.1, fun m hm => ?_⟩
        have hn : ¬ (a + 1 ≤ m ∧ m < a + 1) := by omega
        unfold jm_cr
        simp only [if_neg hn]
        exact hI.2 m hm
      · have hlt : cr < (jm_fg f 360).2.2.2 g := Int32.not_le.mp h
        have e : jm_cg cr (jm_fg f 360).2.2.1 (jm_fg f 360).2.2.2 (M 107) (M 108) (g + 1) = jm_cg cr (jm_fg f 360).2.2.1 (jm_fg f 360).2.2.2 (M 107) (M 108) g := by rw [jm_cg, if_pos hlt]
        rw [e] at ih
        exact ih M1 hI
  -- the GAPS
  refine lp_dn (P := fun j => ∀ M1, jm_I5 M 101 15 111 112 (jm_fg f j) M1 → (∀ i, i ≠ 15 → M1 101 i = M 101 i) → am_T X 151 9 [some (.ref 101), some (.int (jm_fg f j).1), some (.int (nI j)), none, none] [] (jm_s M1 L G) (0, 0) Q) 360 ?_ ?_ 0 (by decide) _ ?_ ?_
  · intro M1 hI hI2
    refine rg_X6_layGaps_101_9 ⟨fun _ => l2 M1 hI.1 hI2 hI.2.1 hI.2.2 0 (Nat.zero_le _) M1 ⟨fun _ _ _ _ => rfl, fun m hm => ?_⟩, fun h => absurd jm_3e h⟩
    have e6 : M1 106 = M 106 := hI.1 106 (by decide) (by decide) (by decide)
    have e7 : M1 107 = M 107 := hI.1 107 (by decide) (by decide) (by decide)
    have e8 : M1 108 = M 108 := hI.1 108 (by decide) (by decide) (by decide)
    rw [e6, e7, e8]
    refine ⟨rfl, rfl, ?_⟩
    rw [hs m hm]
    show _ = if f m = -1 then (if M 107 m = -1 then 0 else 2) else 1
    by_cases hf : f m = -1
    · rw [if_pos hf, if_pos hf, if_pos ((hld m hm).mpr hf)]
    · rw [if_neg hf, if_neg hf]
  · intro j hj ih M1 hI hI2
    have e6 : M1 106 = M 106 := hI.1 106 (by decide) (by decide) (by decide)
    have hc := hcnt j (by omega)
    have hv : vp_in (nI (jm_fg f j).2.1) 360 := vp_in_nI (by omega) (by decide)
    refine rg_X6_layGaps_101_9 ⟨fun h => absurd h (jm_3 hj), fun _ => ⟨jm_in hj, ?_⟩⟩
    rw [jm_cl hj, e6, nI_1, hI.2.1, nI_clamp (show (jm_fg f j).2.1 < 2147483648 by omega), nI_1, hs j hj]
    by_cases hf : f j = -1
    · rw [if_pos hf]
      refine ⟨fun h => absurd h (by decide), fun _ => ?_⟩
      have e : jm_fg f (j + 1) = jm_fg f j := by rw [jm_fg, if_pos hf]
      rw [e] at ih
      exact ih M1 hI hI2
    · rw [if_neg hf]
      refine ⟨fun _ => ⟨fun ha => ?_, fun ha => ⟨fun hd => ?_, fun hd => ⟨hv, hv, ?_⟩⟩⟩, fun h => absurd rfl h⟩
      · have e : jm_fg f (j + 1) = (nI j, (jm_fg f j).2) := by rw [jm_fg, if_neg hf, if_pos ha]
        rw [e] at ih
        exact ih M1 hI hI2
      · have e : jm_fg f (j + 1) = (nI j, (jm_fg f j).2) := by rw [jm_fg, if_neg hf, if_neg ha, if_pos hd]
        rw [e] at ih
        exact ih M1 hI hI2
      · have e : jm_fg f (j + 1) = (nI j, (jm_fg f j).2.1 + 1, upd (jm_fg f j).2.2.1 (jm_fg f j).2.1 ((jm_fg f j).1 + 1), upd (jm_fg f j).2.2.2 (jm_fg f j).2.1 (nI j - (jm_fg f j).1 - 1)) := by rw [jm_fg, if_neg hf, if_neg ha, if_neg hd]
        rw [e] at ih
        refine ih _ (jm_I5_next (by decide) (by decide) (by decide) hI rfl) ?_
        intro i hi
        rw [wi_m_eq, if_pos rfl, if_neg hi, wi_m_p _ _ (show 101 ≠ 112 by decide), wi_m_p _ _ (show 101 ≠ 111 by decide), hI2 i hi]
  · exact ⟨fun q h1 h2 h3 => wi_m_p _ _ h1, wi_m_i _ _ _ _, fun g hg => absurd hg (Nat.not_lt_zero g)⟩
  · intro i hi
    rw [wi_m_eq, if_pos rfl, if_neg hi]
theorem jm_ld_b {sp od ix : Nat → Int32} {n b : Nat} (h : jm_ok sp n) (hn : n ≤ 64) (hb : b < n) (m : Nat) : jm_ld sp (jm_sd sp od b) = jm_of sp b 0 ∧ jm_wg sp ix (jm_sd sp od b) m = (jm_of sp b 4 * ix (m / 12)) / 100 := by
  have hne := (jm_sd_ne (od := od) h hn hb).2
  have e := jm_by_sd (od := od) h hn hb
  unfold jm_by at e
  rw [if_neg hne] at e
  have ek : jm_kk (jm_sd sp od b) = b := by
    unfold jm_kk
    rw [e, nI_clamp (by omega)]
  unfold jm_ld jm_wg
  rw [if_neg hne, if_neg hne, ek]
  exact ⟨rfl, rfl⟩
theorem jm_O_s {M M1 : Nat → Nat → Int32} {s : jS} {m : Nat} (h : jm_O M s m M1) (h2 : jm_P0 s m M1) : jm_O M s (m + 1) M1 := by
  refine ⟨h.1, fun j hj => ?_⟩
  by_cases e : j = m
  · rw [e]; exact h2
  · exact h.2 j (by omega)
theorem jm_st_co {sp od : Nat → Int32} {m k : Nat} (h : jm_of sp k 2 ≤ nI m ∧ nI m ≤ jm_of sp k 3) : jm_st sp od m (k + 1) = (if jm_sd sp od k < jm_st sp od m k then jm_sd sp od k else jm_st sp od m k) ∧ jm_cv sp m (k + 1) = jm_cv sp m k + 1 := by
  rw [jm_st, jm_cv, if_pos h, if_pos h]
  exact ⟨rfl, rfl⟩
theorem jm_st_nc {sp od : Nat → Int32} {m k : Nat} (h : ¬ (jm_of sp k 2 ≤ nI m ∧ nI m ≤ jm_of sp k 3)) : jm_st sp od m (k + 1) = jm_st sp od m k ∧ jm_cv sp m (k + 1) = jm_cv sp m k := by
  rw [jm_st, jm_cv, if_neg h, if_neg h]
  exact ⟨rfl, rfl⟩
theorem ct_layMonths {s : jS} (hR : jR (M 102) s) (hw : jw s 44) (hQ : ∀ M', (∀ q, q ≠ 101 → q < 106 ∨ 112 < q → M' q = M q) → (∀ i, i ≠ 15 → M' 101 i = M 101 i) → jL M' s → Q (some none) (jm_s M' L G)) : am_T X 150 0 [some (.ref 101), none, none] [] (jm_s M L G) (0, 0) Q := by
  have hw2 := hw
  obtain ⟨hn, hok, hod⟩ := hw2
  have byc : ∀ m j, j ≤ jn s → _ := fun m j hj => jm_st_by (od := jod s) hok (show jn s ≤ 64 by omega) m j hj
  refine rg_X6_layMonths_101_0 ?_
  refine lp_dn (P := fun m => ∀ M1, jm_O M s m M1 → am_T X 150 2 [some (.ref 101), some (.int (nI m)), none] [] (jm_s M1 L G) (0, 0) Q) 360 ?_ ?_ 0 (by decide) M ⟨fun _ _ => rfl, fun j h => absurd h (Nat.not_lt_zero j)⟩
  · intro M1 hO
    have e102 : M1 102 = M 102 := hO.1 102 (by decide)
    refine rp_X6_layMonths_101_2e (cl_v (ct_layGaps (f := jc_by s) (cr := jcr s) (fun m hm => (hO.2 m hm).1) (fun m hm => ?_) (by rw [e102]; exact hR.2.2.2.2.1) (fun M' f1 f2 f3 f4 f5 => ⟨rfl, rg_X6_layMonths_101_214 (hQ M' ?_ ?_ ?_)⟩)))
    · rw [(hO.2 m hm).2.1]
      show _ ↔ jm_by (jm_st (jsp s) (jod s) m (jn s)) = -1
      rcases byc m (jn s) (Nat.le_refl _) with ⟨e1, e2⟩ | ⟨b, hb, e1, e2⟩
      · rw [e2]
        unfold jm_ld
        rw [if_pos e1]
      · rw [e2, e1, (jm_ld_b (ix := jix s) hok (by omega) hb m).1]
        obtain ⟨c, d, f, t, p, e0, -, -, -, -, b0, -⟩ := hok b hb
        rw [e0]
        exact ⟨fun h => absurd h (jm_ne1 (by omega)), fun h => absurd h (jm_ne1 (by omega))⟩
    · intro q h1 h2
      rw [f1 q h1 (by omega) (by omega) (by omega) (by omega) (by omega), hO.1 q (by omega)]
    · intro i hi
      rw [f2 i hi, hO.1 101 (by decide)]
    · have cong := jm_cg_cong (cr := jcr s) (gf := (jm_fg (jc_by s) 360).2.2.1) (gl := (jm_fg (jc_by s) 360).2.2.2) (ld := M1 107) (wg := M1 108) (gf' := (jm_fg (jc_by s) 360).2.2.1) (gl' := (jm_fg (jc_by s) 360).2.2.2) (ld' := fun m => jm_ld (jsp s) (jm_st (jsp s) (jod s) m (jn s))) (wg' := fun m => jm_wg (jsp s) (jix s) (jm_st (jsp s) (jod s) m (jn s)) m) (fun m hm => ⟨(hO.2 m hm).2.1, (hO.2 m hm).2.2.1⟩) (c := (jm_fg (jc_by s) 360).2.1) (fun g hg => ⟨rfl, rfl, by
        obtain ⟨a, b, q1, q2, q3, q4, q5, q6⟩ := jm_fg_gp (jc_by s) hg
        rw [q1, nI_clamp (by omega)]
        omega⟩)
      refine ⟨fun m hm => ?_, f3, f4⟩
      obtain ⟨g1, g2, g3⟩ := f5 m hm
      obtain ⟨c1, c2⟩ := cong m hm
      have c1' : _ = jc_ld s m := c1
      have c2' : _ = jc_wg s m := c2
      rw [c1'] at g1 g3
      rw [c2'] at g2
      refine ⟨g3, g1, g2, ?_, ?_⟩
      · rw [f1 109 (by decide) (by decide) (by decide) (by decide) (by decide) (by decide)]
        exact (hO.2 m hm).2.2.2.1
      · rw [f1 110 (by decide) (by decide) (by decide) (by decide) (by decide) (by decide)]
        exact (hO.2 m hm).2.2.2.2
  · intro m hm ih M1 hO
    refine rp_X6_layMonths_101_2s hm ?_
    refine lp_dn (P := fun k => ∀ M2, jm_O M s m M2 → M2 109 m = jm_by (jm_st (jsp s) (jod s) m k) → M2 110 m = jm_cv (jsp s) m k → am_T X 150 25 [some (.ref 101), some (.int (nI m)), some (.int (nI k))] [] (jm_s M2 L G) (0, 0) Q) (jn s) ?_ ?_ 0 (Nat.zero_le _) _ (jm_O_w (jm_O_w hO (by decide)) (by decide)) ?_ ?_
    · intro M2 hO2 h9 h10
      have e102 : M2 102 = M 102 := hO2.1 102 (by decide)
      refine rp_X6_layMonths_101_25 hm hn ⟨fun _ => ?_, fun h => absurd ?_ h⟩
      · rcases byc m (jn s) (Nat.le_refl _) with ⟨e1, e2⟩ | ⟨b, hb, e1, e2⟩
        · rw [h9, e2]
          refine ⟨fun _ => ?_, fun h => absurd rfl h⟩
          refine rp_X6_layMonths_101_155 hm ⟨fun _ => ih _ (jm_O_s (jm_O_w (jm_O_w (jm_O_w hO2 (by decide)) (by decide)) (by decide)) ?_), fun h => absurd ?_ h⟩
          · refine ⟨?_, ?_, ?_, ?_, ?_⟩
            · rw [wi_m_p _ _ (show 106 ≠ 108 by decide), wi_m_p _ _ (show 106 ≠ 107 by decide), wi_m_i]
              show _ = if jm_by (jm_st (jsp s) (jod s) m (jn s)) = -1 then 0 else 1
              rw [if_pos e2]
            · rw [wi_m_p _ _ (show 107 ≠ 108 by decide), wi_m_i]
              unfold jm_ld
              rw [if_pos e1]
            · rw [wi_m_i]
              unfold jm_wg
              rw [if_pos e1]
            · rw [wi_m_p _ _ (show 109 ≠ 108 by decide), wi_m_p _ _ (show 109 ≠ 107 by decide), wi_m_p _ _ (show 109 ≠ 106 by decide), h9]
              rfl
            · rw [wi_m_p _ _ (show 110 ≠ 108 by decide), wi_m_p _ _ (show 110 ≠ 107 by decide), wi_m_p _ _ (show 110 ≠ 106 by decide), h10]
              rfl
          · rw [wi_m_p _ _ (show 109 ≠ 106 by decide), h9, e2]
        · have hb1 : ¬ nI b = -1 := jm_ne1 (by omega)
          rw [h9, e2]
          refine ⟨fun h => absurd h hb1, fun _ => ?_⟩
          have hR3 : ∀ v, jR ((wi_m M2 106 m v) 102) s := by
            intro v
            rw [wi_m_p _ _ (show 102 ≠ 106 by decide), e102]
            exact hR
          refine cl_i (fun _ h => ct_of_s (hR3 1) hn (w := 0) hb (by decide) h) (rp_X6_layMonths_101_155 hm ⟨fun h => absurd ?_ hb1, fun _ => ?_⟩)
          · rw [wi_m_p _ _ (show 109 ≠ 106 by decide), h9, e2] at h
            exact h
          rw [wi_m_p _ _ (show 109 ≠ 106 by decide), h9, e2]
          have hR4 : ∀ v, jR ((wi_m (wi_m M2 106 m 1) 107 m v) 102) s := by
            intro v
            rw [wi_m_p _ _ (show 102 ≠ 107 by decide)]
            exact hR3 1
          refine cl_i (fun _ h => ct_of_s (hR4 _) hn (w := 4) hb (by decide) h) (rg_X6_layMonths_101_186 ?_)
          have ediv : (247 : Int32) + nI m / 12 = nI (247 + m / 12) := by
            rw [show (12 : Int32) = nI 12 from rfl, pk_div (by omega) (by decide) (by decide)]
            exact nI_add 247 (m / 12)
          rw [ediv, nI_clamp (show 247 + m / 12 < 2147483648 by omega), (hR4 _).2.2.2.2.2.2 (m / 12) (by omega), jm_cl hm, nI_1]
          refine ⟨by decide, vp_in_nI (by omega) (by decide), by decide, jm_in hm, ih _ (jm_O_s (jm_O_w (jm_O_w (jm_O_w hO2 (by decide)) (by decide)) (by decide)) ?_)⟩
          have hl := jm_ld_b (od := jod s) (ix := jix s) hok (by omega) hb m
          refine ⟨?_, ?_, ?_, ?_, ?_⟩
          · rw [wi_m_p _ _ (show 106 ≠ 108 by decide), wi_m_p _ _ (show 106 ≠ 107 by decide), wi_m_i]
            show _ = if jm_by (jm_st (jsp s) (jod s) m (jn s)) = -1 then 0 else 1
            rw [e2, if_neg hb1]
          · rw [wi_m_p _ _ (show 107 ≠ 108 by decide), wi_m_i, e1, hl.1]
          · rw [wi_m_i, e1, hl.2]
          · rw [wi_m_p _ _ (show 109 ≠ 108 by decide), wi_m_p _ _ (show 109 ≠ 107 by decide), wi_m_p _ _ (show 109 ≠ 106 by decide), h9]
            rfl
          · rw [wi_m_p _ _ (show 110 ≠ 108 by decide), wi_m_p _ _ (show 110 ≠ 107 by decide), wi_m_p _ _ (show 110 ≠ 106 by decide), h10]
            rfl
      · rw [e102, hR.1]
        exact nI_le (Nat.le_refl _) (by omega)
    · intro k hk ih2 M2 hO2 h9 h10
      have e102 : M2 102 = M 102 := hO2.1 102 (by decide)
      have hR2 : jR (M2 102) s := by rw [e102]; exact hR
      refine rp_X6_layMonths_101_25 hm (by omega) ⟨fun h => absurd h ?_, fun _ => ?_⟩
      · rw [e102, hR.1]
        exact nI_ge hk (by omega)
      refine cl_i (fun _ h => ct_of_s hR2 hn (w := 2) hk (by decide) h) (rg_X6_layMonths_101_42 (cl_i (fun _ h => ct_of_s hR2 hn (w := 3) hk (by decide) h) (rg_X6_layMonths_101_48 (cl_i (fun _ h => ct_in h) (rp_X6_layMonths_101_51 hm (by omega) ?_)))))
      by_cases hco : jm_of (jsp s) k 2 ≤ nI m ∧ nI m ≤ jm_of (jsp s) k 3
      · obtain ⟨c1, c2⟩ := jm_st_co (od := jod s) hco
        rw [jb_y (decide_eq_true hco)]
        refine ⟨fun h => absurd h (by decide), fun _ => ?_⟩
        rw [h10, h9, ← c2]
        rcases byc m k (by omega) with ⟨e1, e2⟩ | ⟨b, hb, e1, e2⟩
        · rw [e2]
          refine ⟨fun _ => ih2 _ (jm_O_w (jm_O_w hO2 (by decide)) (by decide)) ?_ ?_, fun h => absurd rfl h⟩
          · rw [wi_m_i, c1, e1, if_pos (jm_sd_ne hok (by omega) hk).1, jm_by_sd hok (by omega) hk]
          · rw [wi_m_p _ _ (show 110 ≠ 109 by decide), wi_m_i]
        · have hb1 : ¬ nI b = -1 := jm_ne1 (by omega)
          rw [e2]
          refine ⟨fun h => absurd h hb1, fun _ => ?_⟩
          have hR3 : jR ((wi_m M2 110 m (jm_cv (jsp s) m (k + 1))) 102) s := by
            rw [wi_m_p _ _ (show 102 ≠ 110 by decide)]
            exact hR2
          refine cl_i (fun _ h => ct_isBetter hR3 hw hk hb h) (rp_X6_layMonths_101_88 hm (by omega) ?_)
          by_cases hlt : jm_sd (jsp s) (jod s) k < jm_sd (jsp s) (jod s) b
          · rw [jb_y (decide_eq_true hlt)]
            refine ⟨fun h => absurd h (by decide), fun _ => ih2 _ (jm_O_w (jm_O_w hO2 (by decide)) (by decide)) ?_ ?_⟩
            · rw [wi_m_i, c1, e1, if_pos hlt, jm_by_sd hok (by omega) hk]
            · rw [wi_m_p _ _ (show 110 ≠ 109 by decide), wi_m_i]
          · rw [jb_n (decide_eq_false hlt)]
            refine ⟨fun _ => ih2 _ (jm_O_w hO2 (by decide)) ?_ ?_, fun h => absurd rfl h⟩
            · rw [wi_m_p _ _ (show 109 ≠ 110 by decide), h9, c1, e1, if_neg hlt]
            · rw [wi_m_i]
      · obtain ⟨c1, c2⟩ := jm_st_nc (od := jod s) hco
        rw [jb_n (decide_eq_false hco)]
        refine ⟨fun _ => ih2 M2 hO2 ?_ ?_, fun h => absurd rfl h⟩
        · rw [h9, c1]
        · rw [h10, c2]
    · rw [wi_m_p _ _ (show 109 ≠ 110 by decide), wi_m_i]
      rfl
    · rw [wi_m_i]
      rfl
end RefL
