/-! ===== a state as a value (written by wip/gen/gen_state.py) ===== -/
abbrev jS : Type := Nat × (Nat → Int32) × (Nat → Int32) × (Nat → Int32) × (Nat → Int32) × Int32 × Int32
abbrev jn (s : jS) : Nat := s.1
abbrev jsp (s : jS) : Nat → Int32 := s.2.1
abbrev jlw (s : jS) : Nat → Int32 := s.2.2.1
abbrev jod (s : jS) : Nat → Int32 := s.2.2.2.1
abbrev jix (s : jS) : Nat → Int32 := s.2.2.2.2.1
abbrev jcr (s : jS) : Int32 := s.2.2.2.2.2.1
abbrev jle (s : jS) : Int32 := s.2.2.2.2.2.2
/-- place p holds the state -/
def jh (M : Nat → Nat → Int32) (p : Nat) (s : jS) : Prop := M p 0 = nI (jn s) ∧ (∀ i, i < 5 * jn s → M (p + 4) i = jsp s i) ∧ (∀ i, i < 20 → M (p + 1) i = jlw s i) ∧ (∀ i, i < 4 → M (p + 2) i = jod s i) ∧ (∀ i, i < 30 → M (p + 3) i = jix s i) ∧ M p 5 = jcr s ∧ M p 6 = jle s
/-- a state that can be, of at most b SPANS -/
def jwn (s : jS) : Prop := (∀ i, i < 20 → ∃ k, k ≤ 359 ∧ jlw s i = nI k) ∧ (∀ i, i < 30 → ∃ k, k ≤ 400 ∧ jix s i = nI k) ∧ (∃ k, k ≤ 24 ∧ jcr s = nI k) ∧ ∃ k, k ≤ 60 ∧ jle s = nI k
def jw (s : jS) (b : Nat) : Prop := jn s ≤ b ∧ jm_ok (jsp s) (jn s) ∧ (∀ d, d < 4 → ∃ i, i < 4 ∧ jod s i = nI d) ∧ jwn s
theorem jg_of {sp sp' : Nat → Int32} {n k w : Nat} (h : ∀ i, i < 5 * n → sp i = sp' i) (hk : k < n) (hw : w < 5) : jm_of sp k w = jm_of sp' k w := h _ (by omega)
theorem jg_pl {od od' : Nat → Int32} (h : ∀ i, i < 4 → od i = od' i) (x : Int32) : ∀ n k, k + n ≤ 4 → jm_pl od x n k = jm_pl od' x n k
  | 0, _, _ => rfl
  | n + 1, k, e => by
    unfold jm_pl
    rw [h k (by omega), jg_pl h x n (k + 1) (by omega)]
theorem jg_sd {sp sp' od od' : Nat → Int32} {n k : Nat} (h : ∀ i, i < 5 * n → sp i = sp' i) (ho : ∀ i, i < 4 → od i = od' i) (hk : k < n) : jm_sd sp od k = jm_sd sp' od' k := by
  unfold jm_sd
  rw [jg_of h hk (show 1 < 5 by decide), jg_of h hk (show 4 < 5 by decide), jg_of h hk (show 0 < 5 by decide), jg_pl ho _ 4 0 (by decide)]
theorem jg_st {sp sp' od od' : Nat → Int32} {n : Nat} (h : ∀ i, i < 5 * n → sp i = sp' i) (ho : ∀ i, i < 4 → od i = od' i) (m : Nat) : ∀ j, j ≤ n → jm_st sp od m j = jm_st sp' od' m j
  | 0, _ => rfl
  | j + 1, hj => by
    unfold jm_st
    rw [jg_st h ho m j (by omega), jg_of h (show j < n by omega) (show 2 < 5 by decide), jg_of h (show j < n by omega) (show 3 < 5 by decide), jg_sd h ho (show j < n by omega)]
theorem jg_cv {sp sp' : Nat → Int32} {n : Nat} (h : ∀ i, i < 5 * n → sp i = sp' i) (m : Nat) : ∀ j, j ≤ n → jm_cv sp m j = jm_cv sp' m j
  | 0, _ => rfl
  | j + 1, hj => by
    unfold jm_cv
    rw [jg_cv h m j (by omega), jg_of h (show j < n by omega) (show 2 < 5 by decide), jg_of h (show j < n by omega) (show 3 < 5 by decide)]
theorem jg_B {sp sp' od od' : Nat → Int32} {n : Nat} (h : ∀ i, i < 5 * n → sp i = sp' i) (ho : ∀ i, i < 4 → od i = od' i) : jm_B sp od n = jm_B sp' od' n := by
  funext m
  unfold jm_B
  rw [jg_st h ho m n (Nat.le_refl n)]
theorem jg_GP {sp sp' od od' : Nat → Int32} {n : Nat} (h : ∀ i, i < 5 * n → sp i = sp' i) (ho : ∀ i, i < 4 → od i = od' i) : jm_GP sp od n = jm_GP sp' od' n := by
  unfold jm_GP
  rw [jg_B h ho]
theorem jg_ok {sp sp' : Nat → Int32} {n : Nat} (h : ∀ i, i < 5 * n → sp i = sp' i) (hok : jm_ok sp n) : jm_ok sp' n := by
  intro k hk
  have := hok k hk
  rw [jg_of h hk (show 0 < 5 by decide), jg_of h hk (show 1 < 5 by decide), jg_of h hk (show 2 < 5 by decide), jg_of h hk (show 3 < 5 by decide), jg_of h hk (show 4 < 5 by decide)] at this
  exact this
theorem jg_LW {sp sp' od od' ix ix' : Nat → Int32} {n : Nat} {cr : Int32} (h : ∀ i, i < 5 * n → sp i = sp' i) (ho : ∀ i, i < 4 → od i = od' i) (hx : ∀ i, i < 30 → ix i = ix' i) (hok : jm_ok sp n) (hn : n ≤ 64) : ∀ m, m < 360 → (jm_LW sp od ix n cr).1 m = (jm_LW sp' od' ix' n cr).1 m ∧ (jm_LW sp od ix n cr).2 m = (jm_LW sp' od' ix' n cr).2 m := by
  unfold jm_LW
  rw [← jg_GP h ho]
  refine jm_cg_cong ?_ ?_
  · intro m hm
    show jm_ld sp (jm_st sp od m n) = jm_ld sp' (jm_st sp' od' m n) ∧ jm_wg sp ix (jm_st sp od m n) m = jm_wg sp' ix' (jm_st sp' od' m n) m
    rw [← jg_st h ho m n (Nat.le_refl n)]
    unfold jm_ld jm_wg
    rcases jm_st_rem (od := od) (m := m) hok hn with e | ⟨k, hk, e⟩
    · rw [if_pos e, if_pos e, if_pos e, if_pos e]
      exact ⟨rfl, rfl⟩
    · have ek : jm_kk (jm_st sp od m n) = k := by
        unfold jm_kk
        rw [e, nI_clamp (by omega)]
      rw [ek, jg_of h hk (show 0 < 5 by decide), jg_of h hk (show 4 < 5 by decide), hx (m / 12) (by omega)]
      exact ⟨rfl, rfl⟩
  · intro g hg
    obtain ⟨a, b, ha, hb, hab⟩ := (jm_fg_ok (jm_B sp od n) 360 (Nat.le_refl _)).2 g hg
    refine ⟨rfl, rfl, ?_⟩
    rw [show (jm_GP sp od n).2.2.1 g = nI (a + 1) from ha, nI_clamp (by omega)]
    omega
/-! what there is to reckon of a state -/
def jc_cv (s : jS) (m : Nat) : Int32 := jm_cv (jsp s) m (jn s)
def jc_by (s : jS) (m : Nat) : Int32 := jm_B (jsp s) (jod s) (jn s) m
def jc_gp (s : jS) : Int32 × Nat × (Nat → Int32) × (Nat → Int32) := jm_GP (jsp s) (jod s) (jn s)
def jc_ld (s : jS) (m : Nat) : Int32 := (jm_LW (jsp s) (jod s) (jix s) (jn s) (jcr s)).1 m
def jc_wg (s : jS) (m : Nat) : Int32 := (jm_LW (jsp s) (jod s) (jix s) (jn s) (jcr s)).2 m
def jc_ow (s : jS) (c : Nat) : Int32 := jm_ow (jc_ld s) c 360
def jc_cn (s : jS) (c : Nat) : Int32 := jm_cn (jc_ld s) (jc_by s) c 360
def jc_os (s : jS) (c : Nat) : Int32 := jm_os (jc_ld s) (jc_wg s) c 360
def jc_ww (s : jS) (c : Nat) : Int32 := jm_bm (jc_os s c) (jc_ow s c)
def jc_J (s : jS) : Int32 := jm_sm (jc_ow s) 5
def jc_W (s : jS) : Int32 := jm_bm (jm_sm (jc_os s) 5) (jc_J s)
def jc_br (s : jS) : Int32 := jm_br (jc_ow s) (jle s) 5
def jc_lt (s : jS) : Int32 := jm_le (jc_ow s) (jle s) (jc_br s) 5
def jc_ba (s : jS) (c : Nat) : Int32 := jm_ba (jc_ow s) (jle s) (jc_br s) (jc_lt s) c
def jc_na (s : jS) (c : Nat) : Int32 := jm_na (jlw s) c (jc_ow s c) (jc_ww s c)
def jc_th (s : jS) (c : Nat) : Int32 := jm_th (jlw s) c (jc_J s) (jc_W s) (jc_ba s c)
def jc_sh (s : jS) (c : Nat) : Int32 := jm_bm (jc_th s c * jc_ba s c) (jc_J s)
def jc_py (s : jS) (c : Nat) : Int32 := if jc_na s c < jc_sh s c then jc_sh s c else jc_na s c
def jc_all (s : jS) : Int32 := jm_sm (jc_py s) 5
/-- the MONTHS at place p are reckoned of the state -/
def jkm (M : Nat → Nat → Int32) (p : Nat) (s : jS) : Prop := (∀ m, m < 360 → M (p + 2) m = jc_cv s m ∧ M (p + 3) m = jc_by s m ∧ M (p + 4) m = jc_ld s m ∧ M (p + 5) m = jc_wg s m) ∧ M p 7 = nI (jc_gp s).2.1 ∧ ∀ g, g < (jc_gp s).2.1 → M (p + 6) g = (jc_gp s).2.2.1 g ∧ M (p + 7) g = (jc_gp s).2.2.2 g
/-- the CLAIMS at place p are reckoned of the state -/
def jk (M : Nat → Nat → Int32) (p : Nat) (s : jS) : Prop := jkm M (p + 1) s ∧ (M p 8 = jc_J s ∧ M p 9 = jc_W s ∧ M p 10 = jc_br s ∧ M p 11 = jc_lt s ∧ M p 12 = jc_all s) ∧ ∀ c, c < 5 → M (p + 9) c = jc_ow s c ∧ M (p + 10) c = jc_cn s c ∧ M (p + 11) c = jc_ww s c ∧ M (p + 12) c = jc_ba s c ∧ M (p + 13) c = jc_na s c ∧ M (p + 14) c = jc_th s c ∧ M (p + 15) c = jc_sh s c
theorem jm_cg_la {cr : Int32} {gf gl ld wg : Nat → Int32} (h : jm_la ld) : ∀ {c : Nat}, (∀ g, g < c → ∃ a b : Nat, gf g = nI (a + 1) ∧ gl g = nI b ∧ a + 1 + b ≤ 360) → jm_la (jm_cg cr gf gl ld wg c).1
  | 0, _ => h
  | c + 1, hg => by
    have ih := jm_cg_la (cr := cr) (wg := wg) h (c := c) (fun g hc => hg g (by omega))
    obtain ⟨a, b, ha, hb, hab⟩ := hg c (by omega)
    by_cases h1 : cr < gl c
    · have e : jm_cg cr gf gl ld wg (c + 1) = jm_cg cr gf gl ld wg c := by
        rw [jm_cg, if_pos h1]
      rw [e]
      exact ih
    · rw [jm_cg_s h1 ha hb hab]
      intro m hm
      show (if a + 1 ≤ m ∧ m < a + 1 + b then (jm_cg cr gf gl ld wg c).1 a else (jm_cg cr gf gl ld wg c).1 m) = -1 ∨ _
      unfold jm_cr
      by_cases h2 : a + 1 ≤ m ∧ m < a + 1 + b
      · have := ih a (by omega)
        simp only [if_pos h2]
        exact this
      · have := ih m hm
        simp only [if_neg h2]
        exact this
theorem jc_la {s : jS} {b : Nat} (h : jw s b) (hb : b ≤ 64) : jm_la (jc_ld s) := by
  obtain ⟨h1, h2, h3⟩ := h
  refine jm_cg_la ?_ (fun g hg => (jm_fg_ok (jm_B (jsp s) (jod s) (jn s)) 360 (Nat.le_refl _)).2 g hg)
  intro m hm
  show jm_ld (jsp s) (jm_st (jsp s) (jod s) m (jn s)) = -1 ∨ ∃ c, c < 5 ∧ jm_ld (jsp s) (jm_st (jsp s) (jod s) m (jn s)) = nI c
  unfold jm_ld
  rcases jm_st_rem (od := jod s) (m := m) h2 (by omega) with e | ⟨k, hk, e⟩
  · rw [if_pos e]
    exact Or.inl rfl
  · by_cases e2 : jm_st (jsp s) (jod s) m (jn s) = 1073741824
    · rw [if_pos e2]
      exact Or.inl rfl
    · rw [if_neg e2]
      have ek : jm_kk (jm_st (jsp s) (jod s) m (jn s)) = k := by
        unfold jm_kk
        rw [e, nI_clamp (by omega)]
      obtain ⟨c, d, f, t, p, hc, -, -, -, -, hc5, -⟩ := h2 k hk
      rw [ek, hc]
      exact Or.inr ⟨c, hc5, rfl⟩
section CallV
variable {X : Nat × (Nat → Int32)}
theorem cl_v {y : Nat} {lo : am_L} {σ : am_S} {P : am_S → Prop} (hc : am_T X y 0 lo [] σ (0, 0) (am_qv P)) : ∃ K : am_S → Prop, am_T X y 0 lo [] σ (0, 0) (am_qv K) ∧ ∀ σ', K σ' → P σ' := ⟨P, hc, fun _ h => h⟩
theorem cl_w {y : Nat} {lo : am_L} {σ : am_S} {P : Int32 → am_S → Prop} (hc : am_T X y 0 lo [] σ (0, 0) (am_qi P)) : ∃ K : Int32 → am_S → Prop, am_T X y 0 lo [] σ (0, 0) (am_qi K) ∧ ∀ v σ', K v σ' → P v σ' := ⟨P, hc, fun _ _ h => h⟩
end CallV
theorem jm_br_cong {f g : Nat → Int32} {le : Int32} : ∀ {n : Nat}, (∀ k, k < n → f k = g k) → n ≤ 5 → jm_br f le n = jm_br g le n
  | 0, _, _ => rfl
  | n + 1, h, h5 => by
    have ih := jm_br_cong (le := le) (n := n) (fun k hk => h k (by omega)) (by omega)
    unfold jm_br
    rw [ih, h n (by omega)]
    rcases jm_br_ok g le n with e | ⟨c, hc, e⟩
    · rw [if_pos e, if_pos e]
    · rw [e]
      rw [nI_clamp (by omega), h c (by omega)]
theorem jm_le_cong {f g : Nat → Int32} {le br : Int32} : ∀ {n : Nat}, (∀ k, k < n → f k = g k) → jm_le f le br n = jm_le g le br n
  | 0, _ => rfl
  | n + 1, h => by
    show jm_le f le br n + _ = jm_le g le br n + _
    rw [jm_le_cong (n := n) (fun k hk => h k (by omega)), h n (by omega)]
section Rk15
variable {X : Nat × (Nat → Int32)} {M : Nat → Nat → Int32} {L : Nat → Nat → Int64} {G : Nat → Nat → Option Nat} {Q : am_Q}
theorem ct_reckon_15_5 {s : jS} (hS : jh M 5 s) (hw : jw s 20) (hQ : ∀ M', (∀ q, q < 15 ∨ 30 < q → M' q = M q) → jk M' 15 s → Q (some none) (jm_s M' L G)) : am_T X 1 0 [some (.ref 15), some (.ref 5), none] [] (jm_s M L G) (0, 0) Q := by
  obtain ⟨a1, a2, a3, a4, a5, a6, a7⟩ := hS
  have hok : jm_ok (M 9) (jn s) := jg_ok (fun i hi => (a2 i hi).symm) hw.2.1
  have hn := hw.1
  refine rg_X0_reckon_15_5_0 (cl_v (ct_monthsReckon_16_5 (n := jn s) a1 (by omega) hok (jm_gaps44 hok (by omega)) (fun M1 h1 => ⟨rfl, ?_⟩)))
  rw [a6] at h1
  have k1 : jkm M1 16 s := by
    have hLW := jg_LW (cr := jcr s) a2 a4 a5 hok (by omega)
    refine ⟨fun m hm => ?_, ?_, ?_⟩
    · obtain ⟨b1, b2, b3, b4⟩ := h1.2.1 m hm
      exact ⟨b1.trans (jg_cv a2 m (jn s) (Nat.le_refl _)), b2.trans (congrFun (jg_B a2 a4) m), b3.trans (hLW m hm).1, b4.trans (hLW m hm).2⟩
    · have := h1.2.2.1
      rw [jg_GP a2 a4] at this
      exact this
    · have := h1.2.2.2
      rw [jg_GP a2 a4] at this
      exact this
  have f1 := h1.1
  clear h1
  have cl : ∀ m, m < 360 → M1 20 m = jc_ld s m := fun m hm => (k1.1 m hm).2.2.1
  have cw : ∀ m, m < 360 → M1 21 m = jc_wg s m := fun m hm => (k1.1 m hm).2.2.2
  have cb : ∀ m, m < 360 → M1 19 m = jc_by s m := fun m hm => (k1.1 m hm).2.1
  have hla : jm_la (M1 20) := by
    intro m hm
    rw [cl m hm]
    exact jc_la hw (by decide) m hm
  refine rg_X0_reckon_15_5_8 (cl_v (ct_addMonths_15 hla (fun M2 h2 => ⟨rfl, ?_⟩)))
  have eow : ∀ c, jm_ow (M1 20) c 360 = jc_ow s c := fun c => jm_sm_cong (fun m hm => by rw [cl m hm])
  have ecn : ∀ c, jm_cn (M1 20) (M1 19) c 360 = jc_cn s c := fun c => jm_sm_cong (fun m hm => by rw [cl m hm, cb m hm])
  have eos : ∀ c, jm_os (M1 20) (M1 21) c 360 = jc_os s c := fun c => jm_sm_cong (fun m hm => by rw [cl m hm, cw m hm])
  obtain ⟨f2, g2, j2, w2, r2⟩ := h2
  simp only [eow, ecn, eos] at j2 w2 r2
  have s2 : M2 5 = M 5 := by rw [f2 5 (by decide) (by decide) (by decide) (by decide), f1 5 (by decide)]
  refine rg_X0_reckon_15_5_12 (cl_v (ct_findBearer_15 ⟨rfl, ?_⟩))
  have eb : jm_br (M2 24) (M2 5 6) 5 = jc_br s := by
    rw [s2, a7]
    exact jm_br_cong (fun c hc => (r2 c hc).1) (by decide)
  rw [eb]
  refine rg_X0_reckon_15_5_20 (cl_v (ct_layBases_15 ?_ (fun M3 h3 => ⟨rfl, ?_⟩)))
  · rw [wi_m_i]
    exact jm_br_ok _ _ _
  rw [wi_m_i, wi_m_p _ _ (show 24 ≠ 15 by decide), wi_m_p _ _ (show 5 ≠ 15 by decide), s2, a7] at h3
  obtain ⟨f3, g3, l3, r3⟩ := h3
  have el : jm_le (M2 24) (jle s) (jc_br s) 5 = jc_lt s := jm_le_cong (fun c hc => (r2 c hc).1)
  rw [el] at l3
  have eba : ∀ c, c < 5 → M3 27 c = jc_ba s c := by
    intro c hc
    rw [r3 c hc, el]
    unfold jc_ba jm_ba
    rw [(r2 c hc).1]
  have p3 : ∀ i, i ≠ 10 → i ≠ 11 → M3 15 i = M2 15 i := by
    intro i h1 h2
    rw [g3 i h2, wi_m_eq, if_pos rfl, if_neg h1]
  have b3 : M3 15 10 = jc_br s := by
    rw [g3 10 (by decide), wi_m_i]
  have q3 : ∀ q, q ≠ 15 → q ≠ 27 → M3 q = M2 q := by
    intro q h1 h2
    rw [f3 q h1 h2, wi_m_p _ _ h1]
  refine rg_X0_reckon_15_5_28 ?_
  -- over the COUNTRIES
  refine lp_dn (P := fun k => ∀ M4, (∀ q, q ≠ 15 → q ≠ 28 → q ≠ 29 → q ≠ 30 → M4 q = M3 q) → (∀ i, i ≠ 12 → M4 15 i = M3 15 i) → M4 15 12 = jm_sm (jc_py s) k → (∀ c, c < k → M4 28 c = jc_na s c ∧ M4 29 c = jc_th s c ∧ M4 30 c = jc_sh s c) → am_T X 1 35 [some (.ref 15), some (.ref 5), some (.int (nI k))] [] (jm_s M4 L G) (0, 0) Q) 5 ?_ ?_ 0 (by decide) _ ?_ ?_ ?_ ?_
  · intro M4 f4 g4 l4 r4
    refine rg_X0_reckon_15_5_35 ⟨fun _ => hQ M4 ?_ ?_, fun h => absurd (nI_le (Nat.le_refl 5) (by decide)) h⟩
    · intro q hq
      rw [f4 q (by omega) (by omega) (by omega) (by omega), q3 q (by omega) (by omega), f2 q (by omega) (by omega) (by omega) (by omega), f1 q (by omega)]
    · have E : ∀ q, q ≠ 15 → q ≠ 28 → q ≠ 29 → q ≠ 30 → q ≠ 27 → M4 q = M2 q := by
        intro q h1 h2 h3 h4 h5
        rw [f4 q h1 h2 h3 h4, q3 q h1 h5]
      have E1 : ∀ q, q ≠ 15 → q ≠ 24 → q ≠ 25 → q ≠ 26 → q ≠ 28 → q ≠ 29 → q ≠ 30 → q ≠ 27 → M4 q = M1 q := by
        intro q h1 h2 h3 h4 h5 h6 h7 h8
        rw [E q h1 h5 h6 h7 h8, f2 q h1 h2 h3 h4]
      refine ⟨⟨fun m hm => ?_, ?_, fun g hg => ?_⟩, ⟨?_, ?_, ?_, ?_, ?_⟩, fun c hc => ?_⟩
      · rw [E1 (16 + 2) (by decide) (by decide) (by decide) (by decide) (by decide) (by decide) (by decide) (by decide), E1 (16 + 3) (by decide) (by decide) (by decide) (by decide) (by decide) (by decide) (by decide) (by decide), E1 (16 + 4) (by decide) (by decide) (by decide) (by decide) (by decide) (by decide) (by decide) (by decide), E1 (16 + 5) (by decide) (by decide) (by decide) (by decide) (by decide) (by decide) (by decide) (by decide)]
        exact k1.1 m hm
      · rw [E1 16 (by decide) (by decide) (by decide) (by decide) (by decide) (by decide) (by decide) (by decide)]
        exact k1.2.1
      · rw [E1 (16 + 6) (by decide) (by decide) (by decide) (by decide) (by decide) (by decide) (by decide) (by decide), E1 (16 + 7) (by decide) (by decide) (by decide) (by decide) (by decide) (by decide) (by decide) (by decide)]
        exact k1.2.2 g hg
      · rw [g4 8 (by decide), p3 8 (by decide) (by decide), j2]
        rfl
      · rw [g4 9 (by decide), p3 9 (by decide) (by decide), w2]
        rfl
      · rw [g4 10 (by decide), b3]
      · rw [g4 11 (by decide), l3]
      · rw [l4]
        rfl
      · obtain ⟨u1, u2, u3⟩ := r2 c hc
        obtain ⟨v1, v2, v3⟩ := r4 c hc
        have e1 : M4 24 = M2 24 := E 24 (by decide) (by decide) (by decide) (by decide) (by decide)
        have e2 : M4 25 = M2 25 := E 25 (by decide) (by decide) (by decide) (by decide) (by decide)
        have e3 : M4 26 = M2 26 := E 26 (by decide) (by decide) (by decide) (by decide) (by decide)
        have e4 : M4 27 = M3 27 := f4 27 (by decide) (by decide) (by decide) (by decide)
        refine ⟨?_, ?_, ?_, ?_, v1, v2, v3⟩
        · exact (congrFun e1 c).trans u1
        · exact (congrFun e2 c).trans u2
        · exact (congrFun e3 c).trans u3
        · exact (congrFun e4 c).trans (eba c hc)
  · intro k hk ih M4 f4 g4 l4 r4
    refine rg_X0_reckon_15_5_35 ⟨fun h => absurd h (nI_ge hk (by decide)), fun _ => cl_v (ct_reckonCountry_15_5 hk ⟨rfl, ?_⟩)⟩
    obtain ⟨u1, u2, u3⟩ := r2 k hk
    have e1 : M4 24 k = jc_ow s k := by rw [f4 24 (by decide) (by decide) (by decide) (by decide), q3 24 (by decide) (by decide), u1]
    have e3 : M4 26 k = jc_ww s k := by rw [f4 26 (by decide) (by decide) (by decide) (by decide), q3 26 (by decide) (by decide), u3]; rfl
    have e4 : M4 27 k = jc_ba s k := by rw [f4 27 (by decide) (by decide) (by decide) (by decide), eba k hk]
    have e8 : M4 15 8 = jc_J s := by rw [g4 8 (by decide), p3 8 (by decide) (by decide), j2]; rfl
    have e9 : M4 15 9 = jc_W s := by rw [g4 9 (by decide), p3 9 (by decide) (by decide), w2]; rfl
    have elw : M4 6 = M 6 := by rw [f4 6 (by decide) (by decide) (by decide) (by decide), q3 6 (by decide) (by decide), f2 6 (by decide) (by decide) (by decide) (by decide), f1 6 (by decide)]
    have ena : jm_na (M4 6) k (M4 24 k) (M4 26 k) = jc_na s k := by
      rw [e1, e3, elw]
      unfold jc_na jm_na jm_su
      rw [a3 (4 * k) (by omega), a3 (4 * k + 1) (by omega), a3 (4 * k + 2) (by omega)]
    have eth : jm_th (M4 6) k (M4 15 8) (M4 15 9) (M4 27 k) = jc_th s k := by
      rw [e8, e9, e4, elw]
      unfold jc_th jm_th jm_su
      rw [a3 (4 * k) (by omega), a3 (4 * k + 1) (by omega), a3 (4 * k + 2) (by omega)]
    have esh : jm_bm (jc_th s k * M4 27 k) (M4 15 8) = jc_sh s k := by
      rw [e8, e4]
      rfl
    rw [ena, eth, esh]
    refine rg_X0_reckon_15_5_46 (cl_i (fun _ h => ct_paysOf_15 hk h) ?_)
    rw [wi_m_p _ _ (show 15 ≠ 30 by decide), wi_m_p _ _ (show 15 ≠ 29 by decide), wi_m_p _ _ (show 15 ≠ 28 by decide), wi_m_i, wi_m_p _ _ (show 28 ≠ 30 by decide), wi_m_p _ _ (show 28 ≠ 29 by decide), wi_m_i, l4]
    refine rg_X0_reckon_15_5_56 ?_
    rw [nI_1]
    refine ih _ ?_ ?_ ?_ ?_
    · intro q h1 h2 h3 h4
      rw [wi_m_p _ _ h1, wi_m_p _ _ h4, wi_m_p _ _ h3, wi_m_p _ _ h2, f4 q h1 h2 h3 h4]
    · intro i hi
      rw [wi_m_eq, if_pos rfl, if_neg hi, wi_m_p _ _ (show 15 ≠ 30 by decide), wi_m_p _ _ (show 15 ≠ 29 by decide), wi_m_p _ _ (show 15 ≠ 28 by decide), g4 i hi]
    · rw [wi_m_i]
      rfl
    · intro c hc
      have h := r4 c
      simp only [wi_m_eq]
      grind
  · intro q h1 h2 h3 h4
    exact wi_m_p _ _ h1
  · intro i hi
    rw [wi_m_eq, if_pos rfl, if_neg hi]
  · exact wi_m_i _ _ _ _
  · intro c hc
    exact absurd hc (Nat.not_lt_zero c)
end Rk15
section Rk31
variable {X : Nat × (Nat → Int32)} {M : Nat → Nat → Int32} {L : Nat → Nat → Int64} {G : Nat → Nat → Option Nat} {Q : am_Q}
theorem ct_reckon_31_10 {s : jS} (hS : jh M 10 s) (hw : jw s 44) (hQ : ∀ M', (∀ q, q < 31 ∨ 46 < q → M' q = M q) → jk M' 31 s → Q (some none) (jm_s M' L G)) : am_T X 1 0 [some (.ref 31), some (.ref 10), none] [] (jm_s M L G) (0, 0) Q := by
  obtain ⟨a1, a2, a3, a4, a5, a6, a7⟩ := hS
  have hok : jm_ok (M 14) (jn s) := jg_ok (fun i hi => (a2 i hi).symm) hw.2.1
  have hn := hw.1
  refine rg_X0_reckon_31_10_0 (cl_v (ct_monthsReckon_32_10 (n := jn s) a1 (by omega) hok (jm_gaps44 hok (by omega)) (fun M1 h1 => ⟨rfl, ?_⟩)))
  rw [a6] at h1
  have k1 : jkm M1 32 s := by
    have hLW := jg_LW (cr := jcr s) a2 a4 a5 hok (by omega)
    refine ⟨fun m hm => ?_, ?_, ?_⟩
    · obtain ⟨b1, b2, b3, b4⟩ := h1.2.1 m hm
      exact ⟨b1.trans (jg_cv a2 m (jn s) (Nat.le_refl _)), b2.trans (congrFun (jg_B a2 a4) m), b3.trans (hLW m hm).1, b4.trans (hLW m hm).2⟩
    · have := h1.2.2.1
      rw [jg_GP a2 a4] at this
      exact this
    · have := h1.2.2.2
      rw [jg_GP a2 a4] at this
      exact this
  have f1 := h1.1
  clear h1
  have cl : ∀ m, m < 360 → M1 36 m = jc_ld s m := fun m hm => (k1.1 m hm).2.2.1
  have cw : ∀ m, m < 360 → M1 37 m = jc_wg s m := fun m hm => (k1.1 m hm).2.2.2
  have cb : ∀ m, m < 360 → M1 35 m = jc_by s m := fun m hm => (k1.1 m hm).2.1
  have hla : jm_la (M1 36) := by
    intro m hm
    rw [cl m hm]
    exact jc_la hw (by decide) m hm
  refine rg_X0_reckon_31_10_8 (cl_v (ct_addMonths_31 hla (fun M2 h2 => ⟨rfl, ?_⟩)))
  have eow : ∀ c, jm_ow (M1 36) c 360 = jc_ow s c := fun c => jm_sm_cong (fun m hm => by rw [cl m hm])
  have ecn : ∀ c, jm_cn (M1 36) (M1 35) c 360 = jc_cn s c := fun c => jm_sm_cong (fun m hm => by rw [cl m hm, cb m hm])
  have eos : ∀ c, jm_os (M1 36) (M1 37) c 360 = jc_os s c := fun c => jm_sm_cong (fun m hm => by rw [cl m hm, cw m hm])
  obtain ⟨f2, g2, j2, w2, r2⟩ := h2
  simp only [eow, ecn, eos] at j2 w2 r2
  have s2 : M2 10 = M 10 := by rw [f2 10 (by decide) (by decide) (by decide) (by decide), f1 10 (by decide)]
  refine rg_X0_reckon_31_10_12 (cl_v (ct_findBearer_31 ⟨rfl, ?_⟩))
  have eb : jm_br (M2 40) (M2 10 6) 5 = jc_br s := by
    rw [s2, a7]
    exact jm_br_cong (fun c hc => (r2 c hc).1) (by decide)
  rw [eb]
  refine rg_X0_reckon_31_10_20 (cl_v (ct_layBases_31 ?_ (fun M3 h3 => ⟨rfl, ?_⟩)))
  · rw [wi_m_i]
    exact jm_br_ok _ _ _
  rw [wi_m_i, wi_m_p _ _ (show 40 ≠ 31 by decide), wi_m_p _ _ (show 10 ≠ 31 by decide), s2, a7] at h3
  obtain ⟨f3, g3, l3, r3⟩ := h3
  have el : jm_le (M2 40) (jle s) (jc_br s) 5 = jc_lt s := jm_le_cong (fun c hc => (r2 c hc).1)
  rw [el] at l3
  have eba : ∀ c, c < 5 → M3 43 c = jc_ba s c := by
    intro c hc
    rw [r3 c hc, el]
    unfold jc_ba jm_ba
    rw [(r2 c hc).1]
  have p3 : ∀ i, i ≠ 10 → i ≠ 11 → M3 31 i = M2 31 i := by
    intro i h1 h2
    rw [g3 i h2, wi_m_eq, if_pos rfl, if_neg h1]
  have b3 : M3 31 10 = jc_br s := by
    rw [g3 10 (by decide), wi_m_i]
  have q3 : ∀ q, q ≠ 31 → q ≠ 43 → M3 q = M2 q := by
    intro q h1 h2
    rw [f3 q h1 h2, wi_m_p _ _ h1]
  refine rg_X0_reckon_31_10_28 ?_
  -- over the COUNTRIES
  refine lp_dn (P := fun k => ∀ M4, (∀ q, q ≠ 31 → q ≠ 44 → q ≠ 45 → q ≠ 46 → M4 q = M3 q) → (∀ i, i ≠ 12 → M4 31 i = M3 31 i) → M4 31 12 = jm_sm (jc_py s) k → (∀ c, c < k → M4 44 c = jc_na s c ∧ M4 45 c = jc_th s c ∧ M4 46 c = jc_sh s c) → am_T X 1 35 [some (.ref 31), some (.ref 10), some (.int (nI k))] [] (jm_s M4 L G) (0, 0) Q) 5 ?_ ?_ 0 (by decide) _ ?_ ?_ ?_ ?_
  · intro M4 f4 g4 l4 r4
    refine rg_X0_reckon_31_10_35 ⟨fun _ => hQ M4 ?_ ?_, fun h => absurd (nI_le (Nat.le_refl 5) (by decide)) h⟩
    · intro q hq
      rw [f4 q (by omega) (by omega) (by omega) (by omega), q3 q (by omega) (by omega), f2 q (by omega) (by omega) (by omega) (by omega), f1 q (by omega)]
    · have E : ∀ q, q ≠ 31 → q ≠ 44 → q ≠ 45 → q ≠ 46 → q ≠ 43 → M4 q = M2 q := by
        intro q h1 h2 h3 h4 h5
        rw [f4 q h1 h2 h3 h4, q3 q h1 h5]
      have E1 : ∀ q, q ≠ 31 → q ≠ 40 → q ≠ 41 → q ≠ 42 → q ≠ 44 → q ≠ 45 → q ≠ 46 → q ≠ 43 → M4 q = M1 q := by
        intro q h1 h2 h3 h4 h5 h6 h7 h8
        rw [E q h1 h5 h6 h7 h8, f2 q h1 h2 h3 h4]
      refine ⟨⟨fun m hm => ?_, ?_, fun g hg => ?_⟩, ⟨?_, ?_, ?_, ?_, ?_⟩, fun c hc => ?_⟩
      · rw [E1 (32 + 2) (by decide) (by decide) (by decide) (by decide) (by decide) (by decide) (by decide) (by decide), E1 (32 + 3) (by decide) (by decide) (by decide) (by decide) (by decide) (by decide) (by decide) (by decide), E1 (32 + 4) (by decide) (by decide) (by decide) (by decide) (by decide) (by decide) (by decide) (by decide), E1 (32 + 5) (by decide) (by decide) (by decide) (by decide) (by decide) (by decide) (by decide) (by decide)]
        exact k1.1 m hm
      · rw [E1 32 (by decide) (by decide) (by decide) (by decide) (by decide) (by decide) (by decide) (by decide)]
        exact k1.2.1
      · rw [E1 (32 + 6) (by decide) (by decide) (by decide) (by decide) (by decide) (by decide) (by decide) (by decide), E1 (32 + 7) (by decide) (by decide) (by decide) (by decide) (by decide) (by decide) (by decide) (by decide)]
        exact k1.2.2 g hg
      · rw [g4 8 (by decide), p3 8 (by decide) (by decide), j2]
        rfl
      · rw [g4 9 (by decide), p3 9 (by decide) (by decide), w2]
        rfl
      · rw [g4 10 (by decide), b3]
      · rw [g4 11 (by decide), l3]
      · rw [l4]
        rfl
      · obtain ⟨u1, u2, u3⟩ := r2 c hc
        obtain ⟨v1, v2, v3⟩ := r4 c hc
        have e1 : M4 40 = M2 40 := E 40 (by decide) (by decide) (by decide) (by decide) (by decide)
        have e2 : M4 41 = M2 41 := E 41 (by decide) (by decide) (by decide) (by decide) (by decide)
        have e3 : M4 42 = M2 42 := E 42 (by decide) (by decide) (by decide) (by decide) (by decide)
        have e4 : M4 43 = M3 43 := f4 43 (by decide) (by decide) (by decide) (by decide)
        refine ⟨?_, ?_, ?_, ?_, v1, v2, v3⟩
        · exact (congrFun e1 c).trans u1
        · exact (congrFun e2 c).trans u2
        · exact (congrFun e3 c).trans u3
        · exact (congrFun e4 c).trans (eba c hc)
  · intro k hk ih M4 f4 g4 l4 r4
    refine rg_X0_reckon_31_10_35 ⟨fun h => absurd h (nI_ge hk (by decide)), fun _ => cl_v (ct_reckonCountry_31_10 hk ⟨rfl, ?_⟩)⟩
    obtain ⟨u1, u2, u3⟩ := r2 k hk
    have e1 : M4 40 k = jc_ow s k := by rw [f4 40 (by decide) (by decide) (by decide) (by decide), q3 40 (by decide) (by decide), u1]
    have e3 : M4 42 k = jc_ww s k := by rw [f4 42 (by decide) (by decide) (by decide) (by decide), q3 42 (by decide) (by decide), u3]; rfl
    have e4 : M4 43 k = jc_ba s k := by rw [f4 43 (by decide) (by decide) (by decide) (by decide), eba k hk]
    have e8 : M4 31 8 = jc_J s := by rw [g4 8 (by decide), p3 8 (by decide) (by decide), j2]; rfl
    have e9 : M4 31 9 = jc_W s := by rw [g4 9 (by decide), p3 9 (by decide) (by decide), w2]; rfl
    have elw : M4 11 = M 11 := by rw [f4 11 (by decide) (by decide) (by decide) (by decide), q3 11 (by decide) (by decide), f2 11 (by decide) (by decide) (by decide) (by decide), f1 11 (by decide)]
    have ena : jm_na (M4 11) k (M4 40 k) (M4 42 k) = jc_na s k := by
      rw [e1, e3, elw]
      unfold jc_na jm_na jm_su
      rw [a3 (4 * k) (by omega), a3 (4 * k + 1) (by omega), a3 (4 * k + 2) (by omega)]
    have eth : jm_th (M4 11) k (M4 31 8) (M4 31 9) (M4 43 k) = jc_th s k := by
      rw [e8, e9, e4, elw]
      unfold jc_th jm_th jm_su
      rw [a3 (4 * k) (by omega), a3 (4 * k + 1) (by omega), a3 (4 * k + 2) (by omega)]
    have esh : jm_bm (jc_th s k * M4 43 k) (M4 31 8) = jc_sh s k := by
      rw [e8, e4]
      rfl
    rw [ena, eth, esh]
    refine rg_X0_reckon_31_10_46 (cl_i (fun _ h => ct_paysOf_31 hk h) ?_)
    rw [wi_m_p _ _ (show 31 ≠ 46 by decide), wi_m_p _ _ (show 31 ≠ 45 by decide), wi_m_p _ _ (show 31 ≠ 44 by decide), wi_m_i, wi_m_p _ _ (show 44 ≠ 46 by decide), wi_m_p _ _ (show 44 ≠ 45 by decide), wi_m_i, l4]
    refine rg_X0_reckon_31_10_56 ?_
    rw [nI_1]
    refine ih _ ?_ ?_ ?_ ?_
    · intro q h1 h2 h3 h4
      rw [wi_m_p _ _ h1, wi_m_p _ _ h4, wi_m_p _ _ h3, wi_m_p _ _ h2, f4 q h1 h2 h3 h4]
    · intro i hi
      rw [wi_m_eq, if_pos rfl, if_neg hi, wi_m_p _ _ (show 31 ≠ 46 by decide), wi_m_p _ _ (show 31 ≠ 45 by decide), wi_m_p _ _ (show 31 ≠ 44 by decide), g4 i hi]
    · rw [wi_m_i]
      rfl
    · intro c hc
      have h := r4 c
      simp only [wi_m_eq]
      grind
  · intro q h1 h2 h3 h4
    exact wi_m_p _ _ h1
  · intro i hi
    rw [wi_m_eq, if_pos rfl, if_neg hi]
  · exact wi_m_i _ _ _ _
  · intro c hc
    exact absurd hc (Nat.not_lt_zero c)
end Rk31
