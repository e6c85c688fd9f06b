/-! ===== what holds between two calls (written by wip/gen/gen_inv.py) ===== -/
/-- the state; what can be undone; what is kept; the TEXT; the ROW -/
abbrev jA : Type := jS × (Nat × (Nat → jS)) × ((Nat → Bool) × (Nat → jS)) × (Nat × (Nat → Nat)) × List Int64
abbrev ja_s (a : jA) : jS := a.1
abbrev ja_pn (a : jA) : Nat := a.2.1.1
abbrev ja_pa (a : jA) : Nat → jS := a.2.1.2
abbrev ja_sv (a : jA) : Nat → Bool := a.2.2.1.1
abbrev ja_sh (a : jA) : Nat → jS := a.2.2.1.2
abbrev ja_tn (a : jA) : Nat := a.2.2.2.1.1
abbrev ja_tx (a : jA) : Nat → Nat := a.2.2.2.1.2
abbrev ja_r (a : jA) : List Int64 := a.2.2.2.2
def jAw (a : jA) : Prop := jw (ja_s a) 20 ∧ (ja_pn a ≤ 8 ∧ ∀ j, j < ja_pn a → jw (ja_pa a j) 20) ∧ (∀ i, i < 2 → ja_sv a i = true → jw (ja_sh a i) 20) ∧ (ja_tn a ≤ 80 ∧ ∀ i, i < ja_tn a → ja_tx a i < 256) ∧ (ja_r a).length ≤ 120
/-- a byte as the reference keeps it -/
def jby (c : Nat) : Int32 := if c < 128 then nI c else nI c - 256
/-- the class's own part: state, past, shelf -/
def jC0 (M : Nat → Nat → Int32) (G : Nat → Nat → Option Nat) (a : jA) : Prop := (jh M 5 (ja_s a) ∧ jk M 15 (ja_s a)) ∧ (M 0 7 = nI (ja_pn a) ∧ ja_pn a ≤ 8 ∧ ∃ π : Nat → Nat, (∀ j, j < 8 → π j < 8 ∧ G 47 j = some (48 + 5 * π j)) ∧ (∀ j i, j < 8 → i < 8 → π j = π i → j = i) ∧ ∀ j, j < ja_pn a → jh M (48 + 5 * π j) (ja_pa a j)) ∧ G 88 0 = some 89 ∧ G 88 1 = some 94 ∧ ∀ i, i < 2 → M 99 i = jb (ja_sv a i) ∧ (ja_sv a i = true → jh M (89 + 5 * i) (ja_sh a i))
def jCt (M : Nat → Nat → Int32) (a : jA) : Prop := M 1 1 = nI (ja_tn a) ∧ ∀ i, i < ja_tn a → M 2 i = nI (ja_tx a i)
def jCr (M : Nat → Nat → Int32) (L : Nat → Nat → Int64) (a : jA) : Prop := M 3 1 = nI (ja_r a).length ∧ ∀ i, i < (ja_r a).length → L 4 i = (ja_r a).getD i 0
/-- the reference's part -/
def jR0 (M : Nat → Nat → Int32) (a : jA) : Prop := jR (M 102) (ja_s a) ∧ (M 101 27 = nI (ja_pn a) ∧ ja_pn a ≤ 8 ∧ ∀ j, j < ja_pn a → jR (fun i => M 119 (277 * j + i)) (ja_pa a j)) ∧ ∀ i, i < 2 → M 122 i = jb (ja_sv a i) ∧ (ja_sv a i = true → jR (fun k => M 121 (277 * i + k)) (ja_sh a i))
def jRt (M : Nat → Nat → Int32) (a : jA) : Prop := M 101 2 = nI (ja_tn a) ∧ ∀ i, i < ja_tn a → M 103 i = jby (ja_tx a i)
def jRr (M : Nat → Nat → Int32) (L : Nat → Nat → Int64) (a : jA) : Prop := M 101 4 = nI (ja_r a).length ∧ ∀ i, i < (ja_r a).length → L 104 i = (ja_r a).getD i 0
def jC (M : Nat → Nat → Int32) (L : Nat → Nat → Int64) (G : Nat → Nat → Option Nat) (a : jA) : Prop := jC0 M G a ∧ jCt M a ∧ jCr M L a
def jRR (M : Nat → Nat → Int32) (L : Nat → Nat → Int64) (a : jA) : Prop := jR0 M a ∧ jRt M a ∧ jRr M L a
def jI (σ : am_S) : Prop := ∃ M L G a, σ = jm_s M L G ∧ jAw a ∧ jC M L G a ∧ jRR M L a
/-- a call of the class and the same one of the reference answer alike -/
def jpp (X : Nat × (Nat → Int32)) (σ : am_S) (y : Nat) (lo : am_L) (z : Nat) (lp : am_L) : Prop := ∃ v, am_T X y 0 lo [] σ (0, 0) (am_qi (fun v' σ1 => (v', σ1.1, σ1.2.2.2.2) = (v, am_SH, 1) ∧ am_T X z 0 lp [] σ1 (0, 0) (am_qi (fun v'' σ2 => v'' = v ∧ jI σ2))))
/-- places of the class's own part -/
def jc0p (q : Nat) : Prop := q = 0 ∨ (5 ≤ q ∧ q ≤ 9) ∨ (15 ≤ q ∧ q ≤ 30) ∨ (47 ≤ q ∧ q ≤ 99)
theorem jh_f {M M' : Nat → Nat → Int32} {p : Nat} {s : jS} (h : jh M p s) (e : ∀ q, p ≤ q → q ≤ p + 4 → M' q = M q) : jh M' p s := by
  unfold jh at *
  rw [e p (by omega) (by omega), e (p + 1) (by omega) (by omega), e (p + 2) (by omega) (by omega), e (p + 3) (by omega) (by omega), e (p + 4) (by omega) (by omega)]
  exact h
theorem jkm_f {M M' : Nat → Nat → Int32} {p : Nat} {s : jS} (h : jkm M p s) (e : ∀ q, p ≤ q → q ≤ p + 7 → M' q = M q) : jkm M' p s := by
  unfold jkm at *
  rw [e p (by omega) (by omega), e (p + 2) (by omega) (by omega), e (p + 3) (by omega) (by omega), e (p + 4) (by omega) (by omega), e (p + 5) (by omega) (by omega), e (p + 6) (by omega) (by omega), e (p + 7) (by omega) (by omega)]
  exact h
theorem jk_f {M M' : Nat → Nat → Int32} {p : Nat} {s : jS} (h : jk M p s) (e : ∀ q, p ≤ q → q ≤ p + 15 → M' q = M q) : jk M' p s := by
  unfold jk at *
  rw [e p (by omega) (by omega), e (p + 9) (by omega) (by omega), e (p + 10) (by omega) (by omega), e (p + 11) (by omega) (by omega), e (p + 12) (by omega) (by omega), e (p + 13) (by omega) (by omega), e (p + 14) (by omega) (by omega), e (p + 15) (by omega) (by omega)]
  exact ⟨jkm_f h.1 (fun q h1 h2 => e q (by omega) (by omega)), h.2⟩
theorem jC0_f {M M' : Nat → Nat → Int32} {G : Nat → Nat → Option Nat} {a a' : jA} (h : jC0 M G a) (e : ∀ q, jc0p q → M' q = M q) (ha : (a'.1, a'.2.1, a'.2.2.1) = (a.1, a.2.1, a.2.2.1)) : jC0 M' G a' := by
  obtain ⟨s, p, v, t, r⟩ := a
  obtain ⟨s', p', v', t', r'⟩ := a'
  simp only [Prod.mk.injEq] at ha
  obtain ⟨e1, e2, e3⟩ := ha
  subst e1 e2 e3
  obtain ⟨⟨h1, h2⟩, ⟨h3, h38, π, h4, h5, h6⟩, h7, h8, h9⟩ := h
  refine ⟨⟨jh_f h1 (fun q _ _ => e q (Or.inr (Or.inl ⟨by omega, by omega⟩))), jk_f h2 (fun q _ _ => e q (Or.inr (Or.inr (Or.inl ⟨by omega, by omega⟩))))⟩, ⟨?_, h38, π, h4, h5, fun j hj => jh_f (h6 j hj) (fun q _ _ => e q ?_)⟩, h7, h8, fun i hi => ⟨?_, fun hv => jh_f ((h9 i hi).2 hv) (fun q _ _ => e q (Or.inr (Or.inr (Or.inr ⟨by omega, by omega⟩))))⟩⟩
  · rw [e 0 (Or.inl rfl)]
    exact h3
  · have hj2 : j < 8 := Nat.lt_of_lt_of_le hj h38
    have := (h4 j hj2).1
    exact Or.inr (Or.inr (Or.inr ⟨by omega, by omega⟩))
  · rw [e 99 (Or.inr (Or.inr (Or.inr ⟨by omega, by omega⟩)))]
    exact (h9 i hi).1
theorem jR_f {f g : Nat → Int32} {s : jS} (h : jR f s) (e : ∀ i, i < 277 → g i = f i) (hn : jn s ≤ 44) : jR g s := by
  obtain ⟨h1, h2, h3, h4, h5, h6, h7⟩ := h
  exact ⟨(e 0 (by decide)).trans h1, fun i hi => (e (1 + i) (by omega)).trans (h2 i hi), fun i hi => (e (221 + i) (by omega)).trans (h3 i hi), fun i hi => (e (241 + i) (by omega)).trans (h4 i hi), (e 245 (by decide)).trans h5, (e 246 (by decide)).trans h6, fun i hi => (e (247 + i) (by omega)).trans (h7 i hi)⟩
/-- the ROW is l -/
abbrev ja_w (a : jA) (l : List Int64) : jA := (a.1, a.2.1, a.2.2.1, a.2.2.2.1, l)
/-- numbers written one behind the other -/
def wls (L : Nat → Nat → Int64) (p k : Nat) : List Int64 → Nat → Nat → Int64
  | [] => L
  | v :: l => wls (wl_m L p k v) p (k + 1) l
theorem wls_q {p q : Nat} (h : q ≠ p) : ∀ (l : List Int64) (L : Nat → Nat → Int64) (k : Nat), wls L p k l q = L q
  | [], _, _ => rfl
  | v :: l, L, k => by
    show wls (wl_m L p k v) p (k + 1) l q = L q
    rw [wls_q h l]
    funext j
    rw [wl_m_eq, if_neg h]
theorem wls_lt {p : Nat} : ∀ (l : List Int64) (L : Nat → Nat → Int64) (k i : Nat), i < k → wls L p k l p i = L p i
  | [], _, _, _, _ => rfl
  | v :: l, L, k, i, h => by
    show wls (wl_m L p k v) p (k + 1) l p i = L p i
    rw [wls_lt l _ (k + 1) i (by omega), wl_m_eq, if_pos rfl, if_neg (by omega)]
theorem wls_at {p : Nat} : ∀ (l : List Int64) (L : Nat → Nat → Int64) (k i : Nat), i < l.length → wls L p k l p (k + i) = l.getD i 0
  | [], _, _, i, h => absurd h (Nat.not_lt_zero i)
  | v :: l, L, k, 0, _ => by
    show wls (wl_m L p k v) p (k + 1) l p k = v
    rw [wls_lt l _ (k + 1) k (by omega), wl_m_eq, if_pos rfl, if_pos rfl]
  | v :: l, L, k, i + 1, h => by
    show wls (wl_m L p k v) p (k + 1) l p (k + (i + 1)) = l.getD i 0
    rw [show k + (i + 1) = (k + 1) + i by omega]
    exact wls_at l _ (k + 1) i (Nat.lt_of_succ_lt_succ h)
theorem wls_app {p : Nat} {v : Int64} : ∀ (l : List Int64) (L : Nat → Nat → Int64) (k : Nat), wls L p k (l ++ [v]) = wl_m (wls L p k l) p (k + l.length) v
  | [], _, _ => rfl
  | w :: l, L, k => by
    show wls (wl_m L p k w) p (k + 1) (l ++ [v]) = wl_m (wls (wl_m L p k w) p (k + 1) l) p (k + (l.length + 1)) v
    rw [wls_app l _ (k + 1), show k + (l.length + 1) = (k + 1) + l.length by omega]
theorem jC_row {M : Nat → Nat → Int32} {L : Nat → Nat → Int64} {G : Nat → Nat → Option Nat} {a : jA} (h : jC M L G a) (l : List Int64) : jC (wi_m M 3 1 (nI l.length)) (wls L 4 0 l) G (ja_w a l) := by
  obtain ⟨h0, ht, hr⟩ := h
  refine ⟨jC0_f h0 (fun q hq => wi_m_p _ _ ?_) rfl, ?_, wi_m_i _ _ _ _, fun i hi => ?_⟩
  · unfold jc0p at hq
    omega
  · unfold jCt
    rw [wi_m_p _ _ (show 1 ≠ 3 by decide), wi_m_p _ _ (show 2 ≠ 3 by decide)]
    exact ht
  · have := wls_at (p := 4) l L 0 i hi
    rw [Nat.zero_add] at this
    exact this
theorem jRR_f {M M' : Nat → Nat → Int32} {L L' : Nat → Nat → Int64} {a : jA} (h : jRR M L a) (e : ∀ q, 101 ≤ q → q < 123 → M' q = M q) (eL : L' 104 = L 104) : jRR M' L' a := by
  unfold jRR jR0 jRt jRr at *
  rw [e 101 (by decide) (by decide), e 102 (by decide) (by decide), e 103 (by decide) (by decide), e 119 (by decide) (by decide), e 121 (by decide) (by decide), e 122 (by decide) (by decide), eL]
  exact h
theorem jRR_row {M M' : Nat → Nat → Int32} {L : Nat → Nat → Int64} {a : jA} (h : jRR M L a) (l : List Int64) (e : ∀ q, q ≠ 101 → q < 106 ∨ 112 < q → M' q = M q) (e1 : ∀ i, i ≠ 4 → i ≠ 5 → i ≠ 15 → M' 101 i = M 101 i) (e2 : M' 101 4 = nI l.length) : jRR M' (wls L 104 0 l) (ja_w a l) := by
  unfold jRR jR0 jRt at *
  rw [e1 2 (by decide) (by decide) (by decide), e1 27 (by decide) (by decide) (by decide), e 102 (by decide) (by decide), e 103 (by decide) (by decide), e 119 (by decide) (by decide), e 121 (by decide) (by decide), e 122 (by decide) (by decide)]
  refine ⟨h.1, h.2.1, e2, fun i hi => ?_⟩
  have := wls_at (p := 104) l L 0 i hi
  rw [Nat.zero_add] at this
  exact this
theorem jRR_id {M M' : Nat → Nat → Int32} {L : Nat → Nat → Int64} {a : jA} (h : jRR M L a) (e : ∀ q, q ≠ 101 → q < 106 ∨ 112 < q → M' q = M q) (e1 : ∀ i, i ≠ 5 → i ≠ 15 → M' 101 i = M 101 i) : jRR M' L a := by
  unfold jRR jR0 jRt jRr at *
  rw [e1 2 (by decide) (by decide), e1 27 (by decide) (by decide), e1 4 (by decide) (by decide), e 102 (by decide) (by decide), e 103 (by decide) (by decide), e 119 (by decide) (by decide), e 121 (by decide) (by decide), e 122 (by decide) (by decide)]
  exact h
theorem jC_f {M M' : Nat → Nat → Int32} {L L' : Nat → Nat → Int64} {G : Nat → Nat → Option Nat} {a : jA} (h : jC M L G a) (e : ∀ q, q < 101 → M' q = M q) (eL : L' 4 = L 4) : jC M' L' G a := by
  obtain ⟨h0, ht, hr⟩ := h
  refine ⟨jC0_f h0 (fun q hq => e q ?_) rfl, ?_, ?_⟩
  · unfold jc0p at hq
    omega
  · unfold jCt at *
    rw [e 1 (by decide), e 2 (by decide)]
    exact ht
  · unfold jCr at *
    rw [e 3 (by decide), eL]
    exact hr
theorem jI_mk {M1 M2 : Nat → Nat → Int32} {L1 L2 : Nat → Nat → Int64} {G : Nat → Nat → Option Nat} {a : jA} (hA : jAw a) (hC : jC M1 L1 G a) (e : ∀ q, q < 101 → M2 q = M1 q) (eL : L2 4 = L1 4) (hR : jRR M2 L2 a) : jI (jm_s M2 L2 G) := ⟨M2, L2, G, a, rfl, hA, jC_f hC e eL, hR⟩
theorem jAw_w {a : jA} (h : jAw a) {l : List Int64} (hl : l.length ≤ 120) : jAw (ja_w a l) := ⟨h.1, h.2.1, h.2.2.1, h.2.2.2.1, hl⟩
/-- a pair of calls that read, and tell the ROW -/
theorem pp_row {X : Nat × (Nat → Int32)} {M : Nat → Nat → Int32} {L : Nat → Nat → Int64} {G : Nat → Nat → Option Nat} {a : jA} {v : Int32} {y z : Nat} {lo lp : am_L} (hA : jAw a) (hC : jC M L G a) (hR : jRR M L a) (l : List Int64) (hl : l.length ≤ 120) (c : ∀ Q : am_Q, Q (some (some (.int v))) (jm_s (wi_m M 3 1 (nI l.length)) (wls L 4 0 l) G) → am_T X y 0 lo [] (jm_s M L G) (0, 0) Q) (r : ∀ M1 L1, jRR M1 L1 a → ∀ Q : am_Q, (∀ M2, (∀ q, q ≠ 101 → q < 106 ∨ 112 < q → M2 q = M1 q) → (∀ i, i ≠ 4 → i ≠ 5 → i ≠ 15 → M2 101 i = M1 101 i) → M2 101 4 = nI l.length → Q (some (some (.int v))) (jm_s M2 (wls L1 104 0 l) G)) → am_T X z 0 lp [] (jm_s M1 L1 G) (0, 0) Q) : jpp X (jm_s M L G) y lo z lp := by
  have hR1 : jRR (wi_m M 3 1 (nI l.length)) (wls L 4 0 l) a := jRR_f hR (fun q h1 h2 => wi_m_p _ _ (by omega)) (wls_q (by decide) l L 0)
  refine ⟨v, c _ ⟨v, rfl, rfl, r _ _ hR1 _ (fun M2 e e1 e2 => ⟨v, rfl, rfl, ?_⟩)⟩⟩
  exact jI_mk (jAw_w hA hl) (jC_row hC l) (fun q hq => e q (by omega) (by omega)) (wls_q (by decide) l _ 0) (jRR_row hR1 l e e1 e2)
/-- a pair of calls that only read -/
theorem pp_id {X : Nat × (Nat → Int32)} {M : Nat → Nat → Int32} {L : Nat → Nat → Int64} {G : Nat → Nat → Option Nat} {a : jA} {v : Int32} {y z : Nat} {lo lp : am_L} (hA : jAw a) (hC : jC M L G a) (hR : jRR M L a) (c : ∀ Q : am_Q, Q (some (some (.int v))) (jm_s M L G) → am_T X y 0 lo [] (jm_s M L G) (0, 0) Q) (r : ∀ Q : am_Q, (∀ M2, (∀ q, q ≠ 101 → q < 106 ∨ 112 < q → M2 q = M q) → (∀ i, i ≠ 5 → i ≠ 15 → M2 101 i = M 101 i) → Q (some (some (.int v))) (jm_s M2 L G)) → am_T X z 0 lp [] (jm_s M L G) (0, 0) Q) : jpp X (jm_s M L G) y lo z lp := by
  refine ⟨v, c _ ⟨v, rfl, rfl, r _ (fun M2 e e1 => ⟨v, rfl, rfl, ?_⟩)⟩⟩
  exact jI_mk hA hC (fun q hq => e q (by omega) (by omega)) rfl (jRR_id hR e e1)
section Rows
variable {X : Nat × (Nat → Int32)} {M : Nat → Nat → Int32} {L : Nat → Nat → Int64} {G : Nat → Nat → Option Nat} {Q : am_Q}
theorem ct_clear (hQ : Q (some none) (jm_s (wi_m M 3 1 (nI 0)) L G)) : am_T X 23 0 [some (.ref 3)] [] (jm_s M L G) (0, 0) Q := rg_X2_clear_3_0 hQ
theorem ct_tell {v : Int64} {l : List Int64} (hl : l.length < 120) (hQ : Q (some none) (jm_s (wi_m M 3 1 (nI (l ++ [v]).length)) (wls L 4 0 (l ++ [v])) G)) : am_T X 24 0 [some (.ref 3), some (.long v), none] [] (jm_s (wi_m M 3 1 (nI l.length)) (wls L 4 0 l) G) (0, 0) Q := by
  refine rg_X2_tell_3_0 ?_
  rw [wi_m_i, wi_m_2, nI_1, nI_clamp (show l.length < 2147483648 by omega)]
  refine ⟨fun h => absurd h (nI_ge hl (by decide)), fun _ => ⟨vp_in_nI hl (by decide), ?_⟩⟩
  rw [wls_app, Nat.zero_add, List.length_append] at hQ
  exact hQ
theorem ct_rtell {v : Int64} {l : List Int64} (hl : l.length < 160) (hQ : Q (some none) (jm_s (wi_m M 101 4 (nI (l ++ [v]).length)) (wls L 104 0 (l ++ [v])) G)) : am_T X 126 0 [some (.ref 101), some (.long v), none] [] (jm_s (wi_m M 101 4 (nI l.length)) (wls L 104 0 l) G) (0, 0) Q := by
  refine rg_X6_tell_101_0 ?_
  rw [wi_m_i, wi_m_2, nI_1, nI_clamp (show l.length < 2147483648 by omega)]
  refine ⟨vp_in_nI hl (by decide), ?_⟩
  rw [wls_app, Nat.zero_add, List.length_append] at hQ
  exact hQ
theorem jL_w {s : jS} {i : Nat} {v : Int32} (h : jL M s) (hi : i ≠ 15) : jL (wi_m M 101 i v) s := by
  unfold jL at *
  rw [wi_m_p _ _ (show 106 ≠ 101 by decide), wi_m_p _ _ (show 107 ≠ 101 by decide), wi_m_p _ _ (show 108 ≠ 101 by decide), wi_m_p _ _ (show 109 ≠ 101 by decide), wi_m_p _ _ (show 110 ≠ 101 by decide), wi_m_p _ _ (show 111 ≠ 101 by decide), wi_m_p _ _ (show 112 ≠ 101 by decide), wi_m_eq, if_pos rfl, if_neg (fun e => hi e.symm)]
  exact h
end Rows
