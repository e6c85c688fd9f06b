/-! ===== contracts of the constructors (written by wip/gen/gen_ctor2.py) ===== -/
/-- the LAWS of a new object -/
def zlw (i : Nat) : Int32 := if i % 4 = 0 then 60 else if i % 4 = 1 then 10 else if i % 4 = 2 then 20 else 300
/-- the state of a new object -/
def z0 : jS := (0, fun _ => 0, zlw, fun i => nI i, fun _ => 100, 6, 12)
theorem zlw_0 (k : Nat) : 60 = zlw (4 * k) := by
  unfold zlw
  rw [if_pos (by omega)]
theorem zlw_1 (k : Nat) : 10 = zlw (4 * k + 1) := by
  unfold zlw
  rw [if_neg (by omega), if_pos (by omega)]
theorem zlw_2 (k : Nat) : 20 = zlw (4 * k + 1 + 1) := by
  unfold zlw
  rw [if_neg (by omega), if_neg (by omega), if_pos (by omega)]
theorem zlw_3 (k : Nat) : 300 = zlw (4 * k + 1 + 1 + 1) := by
  unfold zlw
  rw [if_neg (by omega), if_neg (by omega), if_neg (by omega)]
/-- place a is filled from o on, n numbers of f -/
def zF (M M1 : Nat → Nat → Int32) (a o n : Nat) (f : Nat → Int32) : Prop := (∀ q, q ≠ a → M1 q = M q) ∧ (∀ i, i < n → M1 a (o + i) = f i) ∧ ∀ i, i < o ∨ o + n ≤ i → M1 a i = M a i
section Fill
variable {M M1 M' : Nat → Nat → Int32} {G G' : Nat → Nat → Option Nat} {a o n k p i : Nat} {f : Nat → Int32} {v : Int32}
theorem zF_0 : zF M M a o 0 f := ⟨fun _ _ => rfl, fun i h => absurd h (Nat.not_lt_zero i), fun _ _ => rfl⟩
theorem zF_s (h : zF M M1 a o n f) (hv : v = f n) : zF M (wi_m M1 a (o + n) v) a o (n + 1) f := by
  refine ⟨fun q hq => ?_, fun i hi => ?_, fun i hi => ?_⟩
  · rw [wi_m_p _ _ hq]
    exact h.1 q hq
  · rw [wi_m_eq, if_pos rfl]
    by_cases e : i = n
    · rw [if_pos (by omega), hv, e]
    · rw [if_neg (by omega)]
      exact h.2.1 i (by omega)
  · rw [wi_m_eq, if_pos rfl, if_neg (by omega)]
    exact h.2.2 i (by omega)
theorem zF_4 (h : zF M M1 a o (4 * k) zlw) : zF M (wi_m (wi_m (wi_m (wi_m M1 a (o + 4 * k + 0) 60) a (o + 4 * k + 1) 10) a (o + 4 * k + 2) 20) a (o + 4 * k + 3) 300) a o (4 * (k + 1)) zlw :=
  zF_s (zF_s (zF_s (zF_s h (zlw_0 k)) (zlw_1 k)) (zlw_2 k)) (zlw_3 k)
/-- below p nothing has changed -/
def zfr (p : Nat) (M M' : Nat → Nat → Int32) : Prop := ∀ q, q < p → M' q = M q
def zgr (p : Nat) (G G' : Nat → Nat → Option Nat) : Prop := ∀ q, q < p → G' q = G q
theorem zfr_rf : zfr p M M := fun _ _ => rfl
theorem zgr_rf : zgr p G G := fun _ _ => rfl
theorem zfr_wi (h : zfr p M M') (hp : p ≤ a) : zfr p M (wi_m M' a i v) := fun q hq => by
  rw [wi_m_p _ _ (show q ≠ a by omega)]
  exact h q hq
theorem zn_m_ne {q : Nat} (h : q ≠ a) : zn_m M a q = M q := if_neg h
theorem zn_g_ne {q : Nat} (h : q ≠ a) : zn_g G a q = G q := if_neg h
theorem zn_m_at : zn_m M a a = fun _ => 0 := if_pos rfl
theorem zfr_zn (h : zfr p M M') (hp : p ≤ a) : zfr p M (zn_m M' a) := fun q hq => by
  rw [zn_m_ne (show q ≠ a by omega)]
  exact h q hq
theorem zgr_zn (h : zgr p G G') (hp : p ≤ a) : zgr p G (zn_g G' a) := fun q hq => by
  rw [zn_g_ne (show q ≠ a by omega)]
  exact h q hq
theorem zfr_tr {M2 : Nat → Nat → Int32} (h1 : zfr p M M1) (h2 : zfr p M1 M2) : zfr p M M2 := fun q hq => (h2 q hq).trans (h1 q hq)
theorem zgr_tr {G1 G2 : Nat → Nat → Option Nat} (h1 : zgr p G G1) (h2 : zgr p G1 G2) : zgr p G G2 := fun q hq => (h2 q hq).trans (h1 q hq)
theorem zfr_le {r : Nat} (h : zfr p M M') (hr : r ≤ p) : zfr r M M' := fun q hq => h q (by omega)
theorem zgr_le {r : Nat} (h : zgr p G G') (hr : r ≤ p) : zgr r G G' := fun q hq => h q (by omega)
/-- what State.<init> writes ahead of its loops -/
def zsM (M : Nat → Nat → Int32) (p : Nat) : Nat → Nat → Int32 := zn_m (wi_m (wi_m (zn_m (zn_m (zn_m (wi_m M p 0 0) (p + 1)) (p + 2)) (p + 3)) p 5 6) p 6 12) (p + 4)
def zst (M M' : Nat → Nat → Int32) (a : Nat) : Prop := (∀ q, q ≠ a + 1 → q ≠ a + 2 → q ≠ a + 3 → M' q = M q) ∧ (∀ i, i < 20 → M' (a + 1) i = zlw i) ∧ (∀ i, i < 4 → M' (a + 2) i = nI i) ∧ ∀ i, i < 30 → M' (a + 3) i = 100
theorem zsM_fr : zfr p M (zsM M p) := zfr_zn (zfr_wi (zfr_wi (zfr_zn (zfr_zn (zfr_zn (zfr_wi zfr_rf (Nat.le_refl p)) (by omega)) (by omega)) (by omega)) (Nat.le_refl p)) (Nat.le_refl p)) (by omega)
theorem zst_fr (h : zst (zsM M p) M' p) : zfr p M M' := fun q hq => (h.1 q (by omega) (by omega) (by omega)).trans (zsM_fr q hq)
theorem zsM_p : zsM M p p 0 = 0 ∧ zsM M p p 5 = 6 ∧ zsM M p p 6 = 12 := by
  unfold zsM
  rw [zn_m_ne (show p ≠ p + 4 by omega)]
  refine ⟨?_, ?_, ?_⟩
  · rw [wi_m_eq, if_pos rfl, if_neg (by decide), wi_m_eq, if_pos rfl, if_neg (by decide), zn_m_ne (show p ≠ p + 3 by omega), zn_m_ne (show p ≠ p + 2 by omega), zn_m_ne (show p ≠ p + 1 by omega), wi_m_eq, if_pos rfl, if_pos rfl]
  · rw [wi_m_eq, if_pos rfl, if_neg (by decide), wi_m_eq, if_pos rfl, if_pos rfl]
  · rw [wi_m_eq, if_pos rfl, if_pos rfl]
theorem zst_jh (h : zst (zsM M p) M' p) : jh M' p z0 := by
  obtain ⟨h1, h2, h3, h4⟩ := h
  have hp := h1 p (by omega) (by omega) (by omega)
  obtain ⟨e0, e5, e6⟩ := zsM_p (M := M) (p := p)
  refine ⟨?_, fun i hi => absurd hi (Nat.not_lt_zero i), h2, h3, h4, ?_, ?_⟩
  · rw [hp, e0]
    exact nI_0.symm
  · rw [hp, e5]
    rfl
  · rw [hp, e6]
    rfl
theorem zsG_fr : zgr (p + 1) G (zn_g (zn_g (zn_g (zn_g G (p + 1)) (p + 2)) (p + 3)) (p + 4)) := zgr_zn (zgr_zn (zgr_zn (zgr_zn zgr_rf (by omega)) (by omega)) (by omega)) (by omega)
/-- the three loops of State.<init>, whatever the rows are -/
theorem zl_st {T59 T117 T137 : (Nat → Nat → Int32) → Int32 → Prop} {QQ : (Nat → Nat → Int32) → Prop} (a : Nat)
    (r59 : ∀ M x2, ((nI 20 ≤ x2 → T117 M 0) ∧ (¬ nI 20 ≤ x2 → (vp_in (x2 + 0) 20 ∧ (vp_in (x2 + 1) 20 ∧ (vp_in (x2 + 2) 20 ∧ (vp_in (x2 + 3) 20 ∧ T59 (wi_m (wi_m (wi_m (wi_m M (a + 1) (x2 + 0).toNatClampNeg 60) (a + 1) (x2 + 1).toNatClampNeg 10) (a + 1) (x2 + 2).toNatClampNeg 20) (a + 1) (x2 + 3).toNatClampNeg 300) (x2 + 4))))))) → T59 M x2)
    (r117 : ∀ M x2, ((4 ≤ x2 → T137 M 0) ∧ (¬ 4 ≤ x2 → (vp_in x2 4 ∧ T117 (wi_m M (a + 2) x2.toNatClampNeg x2) (x2 + 1)))) → T117 M x2)
    (r137 : ∀ M x2, ((30 ≤ x2 → QQ M) ∧ (¬ 30 ≤ x2 → (vp_in x2 30 ∧ T137 (wi_m M (a + 3) x2.toNatClampNeg 100) (x2 + 1)))) → T137 M x2)
    (hQ : ∀ M', zst M M' a → QQ M') : T59 M 0 := by
  have l3 : ∀ M1, (∀ M', zF M1 M' (a + 3) 0 30 (fun _ => 100) → QQ M') → T137 M1 0 := by
    intro M1 h
    have t : ∀ r k M2, k + r = 30 → zF M1 M2 (a + 3) 0 k (fun _ => 100) → T137 M2 (nI k) := by
      intro r
      induction r with
      | zero =>
        intro k M2 e hk
        have e2 : k = 30 := e
        subst e2
        exact r137 _ _ ⟨fun _ => h M2 hk, fun hn => absurd (nI_le (Nat.le_refl 30) (by decide)) hn⟩
      | succ r ih =>
        intro k M2 e hk
        refine r137 _ _ ⟨fun hle => absurd hle (nI_ge (show k < 30 by omega) (by decide)), fun _ => ⟨vp_in_nI (by omega) (by decide), ?_⟩⟩
        have hz := zF_s hk (v := 100) rfl
        rw [Nat.zero_add] at hz
        rw [nI_clamp (by omega), nI_1]
        exact ih (k + 1) _ (by omega) hz
    have t0 := t 30 0 M1 rfl zF_0
    rw [nI_0] at t0
    exact t0
  have l2 : ∀ M1, (∀ M', zF M1 M' (a + 2) 0 4 (fun i => nI i) → T137 M' 0) → T117 M1 0 := by
    intro M1 h
    have t : ∀ r k M2, k + r = 4 → zF M1 M2 (a + 2) 0 k (fun i => nI i) → T117 M2 (nI k) := by
      intro r
      induction r with
      | zero =>
        intro k M2 e hk
        have e2 : k = 4 := e
        subst e2
        exact r117 _ _ ⟨fun _ => h M2 hk, fun hn => absurd (nI_le (Nat.le_refl 4) (by decide)) hn⟩
      | succ r ih =>
        intro k M2 e hk
        refine r117 _ _ ⟨fun hle => absurd hle (nI_ge (show k < 4 by omega) (by decide)), fun _ => ⟨vp_in_nI (by omega) (by decide), ?_⟩⟩
        have hz := zF_s hk (v := nI k) rfl
        rw [Nat.zero_add] at hz
        rw [nI_clamp (by omega), nI_1]
        exact ih (k + 1) _ (by omega) hz
    have t0 := t 4 0 M1 rfl zF_0
    rw [nI_0] at t0
    exact t0
  have l1 : ∀ M1, (∀ M', zF M1 M' (a + 1) 0 20 zlw → T117 M' 0) → T59 M1 0 := by
    intro M1 h
    have t : ∀ r k M2, k + r = 5 → zF M1 M2 (a + 1) 0 (4 * k) zlw → T59 M2 (nI (4 * k)) := by
      intro r
      induction r with
      | zero =>
        intro k M2 e hk
        have e2 : k = 5 := e
        subst e2
        exact r59 _ _ ⟨fun _ => h M2 hk, fun hn => absurd (nI_le (Nat.le_refl 20) (by decide)) hn⟩
      | succ r ih =>
        intro k M2 e hk
        have hz := zF_4 hk
        rw [Nat.zero_add] at hz
        have n0 : nI (4 * k) + 0 = nI (4 * k + 0) := nI_add _ 0
        have n1 : nI (4 * k) + 1 = nI (4 * k + 1) := nI_add _ 1
        have n2 : nI (4 * k) + 2 = nI (4 * k + 2) := nI_add _ 2
        have n3 : nI (4 * k) + 3 = nI (4 * k + 3) := nI_add _ 3
        have n4 : nI (4 * k) + 4 = nI (4 * (k + 1)) := nI_add _ 4
        refine r59 _ _ ⟨fun hle => absurd hle (nI_ge (show 4 * k < 20 by omega) (by decide)), fun _ => ?_⟩
        rw [n0, n1, n2, n3, n4, nI_clamp (show 4 * k + 0 < 2147483648 by omega), nI_clamp (show 4 * k + 1 < 2147483648 by omega), nI_clamp (show 4 * k + 2 < 2147483648 by omega), nI_clamp (show 4 * k + 3 < 2147483648 by omega)]
        exact ⟨vp_in_nI (by omega) (by decide), vp_in_nI (by omega) (by decide), vp_in_nI (by omega) (by decide), vp_in_nI (by omega) (by decide), ih (k + 1) _ (by omega) hz⟩
    have t0 := t 5 0 M1 rfl zF_0
    rw [Nat.mul_zero, nI_0] at t0
    exact t0
  refine l1 M (fun M1 h1 => l2 M1 (fun M2 h2 => l3 M2 (fun M3 h3 => hQ M3 ⟨fun q q1 q2 q3 => ?_, fun i hi => ?_, fun i hi => ?_, fun i hi => ?_⟩)))
  · rw [h3.1 q q3, h2.1 q q2, h1.1 q q1]
  · have := h1.2.1 i hi
    rw [Nat.zero_add] at this
    rw [h3.1 (a + 1) (by omega), h2.1 (a + 1) (by omega)]
    exact this
  · have := h2.2.1 i hi
    rw [Nat.zero_add] at this
    rw [h3.1 (a + 2) (by omega)]
    exact this
  · have := h3.2.1 i hi
    rw [Nat.zero_add] at this
    exact this
end Fill
section Ctor
variable {X : Nat × (Nat → Int32)} {M : Nat → Nat → Int32} {L : Nat → Nat → Int64} {G : Nat → Nat → Option Nat} {Q : am_Q}
theorem cz_st_5 (hQ : ∀ M' L' G', zfr 5 M M' → zgr 6 G G' → jh M' 5 z0 → Q (some none) (zs_8, M', L', G', 0)) : am_T X 25 0 [some (.ref 5), some (.int 20), none] [] (zs_6, M, L, G, 0) (0, 0) Q := by
  refine rz_X3i_5_0 ⟨by decide, by decide, by decide, ?_⟩
  rw [show (if (0 : Int32) < 20 then 20 else 0) = (20 : Int32) from if_pos (by decide)]
  refine rz_X3i_5_50 ?_
  rw [show (20 : Int32) * 5 = 100 from by decide]
  refine rz_X3i_5_52 ⟨by decide, ?_⟩
  exact zl_st (T59 := (fun M x2 => am_T X 25 59 [some (.ref 5), none, some (.int x2)] [] (zs_8, M, zn_l (zn_l (zn_l (zn_l L 6) 7) 8) 9, zn_g (zn_g (zn_g (zn_g G 6) 7) 8) 9, 0) (4, 154) Q)) (T117 := (fun M x2 => am_T X 25 117 [some (.ref 5), none, some (.int x2)] [] (zs_8, M, zn_l (zn_l (zn_l (zn_l L 6) 7) 8) 9, zn_g (zn_g (zn_g (zn_g G 6) 7) 8) 9, 0) (4, 154) Q)) (T137 := (fun M x2 => am_T X 25 137 [some (.ref 5), none, some (.int x2)] [] (zs_8, M, zn_l (zn_l (zn_l (zn_l L 6) 7) 8) 9, zn_g (zn_g (zn_g (zn_g G 6) 7) 8) 9, 0) (4, 154) Q)) (QQ := fun M' => Q (some none) (zs_8, M', zn_l (zn_l (zn_l (zn_l L 6) 7) 8) 9, zn_g (zn_g (zn_g (zn_g G 6) 7) 8) 9, 0)) 5 (fun M x2 h => rz_X3i_5_59 h) (fun M x2 h => rz_X3i_5_117 h) (fun M x2 h => rz_X3i_5_137 h) (fun M' (h : zst (zsM M 5) M' 5) => hQ M' _ _ (zst_fr h) zsG_fr (zst_jh h))
theorem cz_st_10 (hQ : ∀ M' L' G', zfr 10 M M' → zgr 11 G G' → jh M' 10 z0 → Q (some none) (zs_11, M', L', G', 0)) : am_T X 25 0 [some (.ref 10), some (.int 44), none] [] (zs_9, M, L, G, 0) (0, 0) Q := by
  refine rz_X3i_10_0 ⟨by decide, by decide, by decide, ?_⟩
  rw [show (if (0 : Int32) < 44 then 44 else 0) = (44 : Int32) from if_pos (by decide)]
  refine rz_X3i_10_50 ?_
  rw [show (44 : Int32) * 5 = 220 from by decide]
  refine rz_X3i_10_52 ⟨by decide, ?_⟩
  exact zl_st (T59 := (fun M x2 => am_T X 25 59 [some (.ref 10), none, some (.int x2)] [] (zs_11, M, zn_l (zn_l (zn_l (zn_l L 11) 12) 13) 14, zn_g (zn_g (zn_g (zn_g G 11) 12) 13) 14, 0) (4, 274) Q)) (T117 := (fun M x2 => am_T X 25 117 [some (.ref 10), none, some (.int x2)] [] (zs_11, M, zn_l (zn_l (zn_l (zn_l L 11) 12) 13) 14, zn_g (zn_g (zn_g (zn_g G 11) 12) 13) 14, 0) (4, 274) Q)) (T137 := (fun M x2 => am_T X 25 137 [some (.ref 10), none, some (.int x2)] [] (zs_11, M, zn_l (zn_l (zn_l (zn_l L 11) 12) 13) 14, zn_g (zn_g (zn_g (zn_g G 11) 12) 13) 14, 0) (4, 274) Q)) (QQ := fun M' => Q (some none) (zs_11, M', zn_l (zn_l (zn_l (zn_l L 11) 12) 13) 14, zn_g (zn_g (zn_g (zn_g G 11) 12) 13) 14, 0)) 10 (fun M x2 h => rz_X3i_10_59 h) (fun M x2 h => rz_X3i_10_117 h) (fun M x2 h => rz_X3i_10_137 h) (fun M' (h : zst (zsM M 10) M' 10) => hQ M' _ _ (zst_fr h) zsG_fr (zst_jh h))
theorem cz_st_48 (hQ : ∀ M' L' G', zfr 48 M M' → zgr 49 G G' → jh M' 48 z0 → Q (some none) (zs_23, M', L', G', 0)) : am_T X 25 0 [some (.ref 48), some (.int 20), none] [] (zs_21, M, L, G, 0) (0, 0) Q := by
  refine rz_X3i_48_0 ⟨by decide, by decide, by decide, ?_⟩
  rw [show (if (0 : Int32) < 20 then 20 else 0) = (20 : Int32) from if_pos (by decide)]
  refine rz_X3i_48_50 ?_
  rw [show (20 : Int32) * 5 = 100 from by decide]
  refine rz_X3i_48_52 ⟨by decide, ?_⟩
  exact zl_st (T59 := (fun M x2 => am_T X 25 59 [some (.ref 48), none, some (.int x2)] [] (zs_23, M, zn_l (zn_l (zn_l (zn_l L 49) 50) 51) 52, zn_g (zn_g (zn_g (zn_g G 49) 50) 51) 52, 0) (4, 154) Q)) (T117 := (fun M x2 => am_T X 25 117 [some (.ref 48), none, some (.int x2)] [] (zs_23, M, zn_l (zn_l (zn_l (zn_l L 49) 50) 51) 52, zn_g (zn_g (zn_g (zn_g G 49) 50) 51) 52, 0) (4, 154) Q)) (T137 := (fun M x2 => am_T X 25 137 [some (.ref 48), none, some (.int x2)] [] (zs_23, M, zn_l (zn_l (zn_l (zn_l L 49) 50) 51) 52, zn_g (zn_g (zn_g (zn_g G 49) 50) 51) 52, 0) (4, 154) Q)) (QQ := fun M' => Q (some none) (zs_23, M', zn_l (zn_l (zn_l (zn_l L 49) 50) 51) 52, zn_g (zn_g (zn_g (zn_g G 49) 50) 51) 52, 0)) 48 (fun M x2 h => rz_X3i_48_59 h) (fun M x2 h => rz_X3i_48_117 h) (fun M x2 h => rz_X3i_48_137 h) (fun M' (h : zst (zsM M 48) M' 48) => hQ M' _ _ (zst_fr h) zsG_fr (zst_jh h))
theorem cz_st_53 (hQ : ∀ M' L' G', zfr 53 M M' → zgr 54 G G' → jh M' 53 z0 → Q (some none) (zs_26, M', L', G', 0)) : am_T X 25 0 [some (.ref 53), some (.int 20), none] [] (zs_24, M, L, G, 0) (0, 0) Q := by
  refine rz_X3i_53_0 ⟨by decide, by decide, by decide, ?_⟩
  rw [show (if (0 : Int32) < 20 then 20 else 0) = (20 : Int32) from if_pos (by decide)]
  refine rz_X3i_53_50 ?_
  rw [show (20 : Int32) * 5 = 100 from by decide]
  refine rz_X3i_53_52 ⟨by decide, ?_⟩
  exact zl_st (T59 := (fun M x2 => am_T X 25 59 [some (.ref 53), none, some (.int x2)] [] (zs_26, M, zn_l (zn_l (zn_l (zn_l L 54) 55) 56) 57, zn_g (zn_g (zn_g (zn_g G 54) 55) 56) 57, 0) (4, 154) Q)) (T117 := (fun M x2 => am_T X 25 117 [some (.ref 53), none, some (.int x2)] [] (zs_26, M, zn_l (zn_l (zn_l (zn_l L 54) 55) 56) 57, zn_g (zn_g (zn_g (zn_g G 54) 55) 56) 57, 0) (4, 154) Q)) (T137 := (fun M x2 => am_T X 25 137 [some (.ref 53), none, some (.int x2)] [] (zs_26, M, zn_l (zn_l (zn_l (zn_l L 54) 55) 56) 57, zn_g (zn_g (zn_g (zn_g G 54) 55) 56) 57, 0) (4, 154) Q)) (QQ := fun M' => Q (some none) (zs_26, M', zn_l (zn_l (zn_l (zn_l L 54) 55) 56) 57, zn_g (zn_g (zn_g (zn_g G 54) 55) 56) 57, 0)) 53 (fun M x2 h => rz_X3i_53_59 h) (fun M x2 h => rz_X3i_53_117 h) (fun M x2 h => rz_X3i_53_137 h) (fun M' (h : zst (zsM M 53) M' 53) => hQ M' _ _ (zst_fr h) zsG_fr (zst_jh h))
theorem cz_st_58 (hQ : ∀ M' L' G', zfr 58 M M' → zgr 59 G G' → jh M' 58 z0 → Q (some none) (zs_29, M', L', G', 0)) : am_T X 25 0 [some (.ref 58), some (.int 20), none] [] (zs_27, M, L, G, 0) (0, 0) Q := by
  refine rz_X3i_58_0 ⟨by decide, by decide, by decide, ?_⟩
  rw [show (if (0 : Int32) < 20 then 20 else 0) = (20 : Int32) from if_pos (by decide)]
  refine rz_X3i_58_50 ?_
  rw [show (20 : Int32) * 5 = 100 from by decide]
  refine rz_X3i_58_52 ⟨by decide, ?_⟩
  exact zl_st (T59 := (fun M x2 => am_T X 25 59 [some (.ref 58), none, some (.int x2)] [] (zs_29, M, zn_l (zn_l (zn_l (zn_l L 59) 60) 61) 62, zn_g (zn_g (zn_g (zn_g G 59) 60) 61) 62, 0) (4, 154) Q)) (T117 := (fun M x2 => am_T X 25 117 [some (.ref 58), none, some (.int x2)] [] (zs_29, M, zn_l (zn_l (zn_l (zn_l L 59) 60) 61) 62, zn_g (zn_g (zn_g (zn_g G 59) 60) 61) 62, 0) (4, 154) Q)) (T137 := (fun M x2 => am_T X 25 137 [some (.ref 58), none, some (.int x2)] [] (zs_29, M, zn_l (zn_l (zn_l (zn_l L 59) 60) 61) 62, zn_g (zn_g (zn_g (zn_g G 59) 60) 61) 62, 0) (4, 154) Q)) (QQ := fun M' => Q (some none) (zs_29, M', zn_l (zn_l (zn_l (zn_l L 59) 60) 61) 62, zn_g (zn_g (zn_g (zn_g G 59) 60) 61) 62, 0)) 58 (fun M x2 h => rz_X3i_58_59 h) (fun M x2 h => rz_X3i_58_117 h) (fun M x2 h => rz_X3i_58_137 h) (fun M' (h : zst (zsM M 58) M' 58) => hQ M' _ _ (zst_fr h) zsG_fr (zst_jh h))
theorem cz_st_63 (hQ : ∀ M' L' G', zfr 63 M M' → zgr 64 G G' → jh M' 63 z0 → Q (some none) (zs_32, M', L', G', 0)) : am_T X 25 0 [some (.ref 63), some (.int 20), none] [] (zs_30, M, L, G, 0) (0, 0) Q := by
  refine rz_X3i_63_0 ⟨by decide, by decide, by decide, ?_⟩
  rw [show (if (0 : Int32) < 20 then 20 else 0) = (20 : Int32) from if_pos (by decide)]
  refine rz_X3i_63_50 ?_
  rw [show (20 : Int32) * 5 = 100 from by decide]
  refine rz_X3i_63_52 ⟨by decide, ?_⟩
  exact zl_st (T59 := (fun M x2 => am_T X 25 59 [some (.ref 63), none, some (.int x2)] [] (zs_32, M, zn_l (zn_l (zn_l (zn_l L 64) 65) 66) 67, zn_g (zn_g (zn_g (zn_g G 64) 65) 66) 67, 0) (4, 154) Q)) (T117 := (fun M x2 => am_T X 25 117 [some (.ref 63), none, some (.int x2)] [] (zs_32, M, zn_l (zn_l (zn_l (zn_l L 64) 65) 66) 67, zn_g (zn_g (zn_g (zn_g G 64) 65) 66) 67, 0) (4, 154) Q)) (T137 := (fun M x2 => am_T X 25 137 [some (.ref 63), none, some (.int x2)] [] (zs_32, M, zn_l (zn_l (zn_l (zn_l L 64) 65) 66) 67, zn_g (zn_g (zn_g (zn_g G 64) 65) 66) 67, 0) (4, 154) Q)) (QQ := fun M' => Q (some none) (zs_32, M', zn_l (zn_l (zn_l (zn_l L 64) 65) 66) 67, zn_g (zn_g (zn_g (zn_g G 64) 65) 66) 67, 0)) 63 (fun M x2 h => rz_X3i_63_59 h) (fun M x2 h => rz_X3i_63_117 h) (fun M x2 h => rz_X3i_63_137 h) (fun M' (h : zst (zsM M 63) M' 63) => hQ M' _ _ (zst_fr h) zsG_fr (zst_jh h))
theorem cz_st_68 (hQ : ∀ M' L' G', zfr 68 M M' → zgr 69 G G' → jh M' 68 z0 → Q (some none) (zs_35, M', L', G', 0)) : am_T X 25 0 [some (.ref 68), some (.int 20), none] [] (zs_33, M, L, G, 0) (0, 0) Q := by
  refine rz_X3i_68_0 ⟨by decide, by decide, by decide, ?_⟩
  rw [show (if (0 : Int32) < 20 then 20 else 0) = (20 : Int32) from if_pos (by decide)]
  refine rz_X3i_68_50 ?_
  rw [show (20 : Int32) * 5 = 100 from by decide]
  refine rz_X3i_68_52 ⟨by decide, ?_⟩
  exact zl_st (T59 := (fun M x2 => am_T X 25 59 [some (.ref 68), none, some (.int x2)] [] (zs_35, M, zn_l (zn_l (zn_l (zn_l L 69) 70) 71) 72, zn_g (zn_g (zn_g (zn_g G 69) 70) 71) 72, 0) (4, 154) Q)) (T117 := (fun M x2 => am_T X 25 117 [some (.ref 68), none, some (.int x2)] [] (zs_35, M, zn_l (zn_l (zn_l (zn_l L 69) 70) 71) 72, zn_g (zn_g (zn_g (zn_g G 69) 70) 71) 72, 0) (4, 154) Q)) (T137 := (fun M x2 => am_T X 25 137 [some (.ref 68), none, some (.int x2)] [] (zs_35, M, zn_l (zn_l (zn_l (zn_l L 69) 70) 71) 72, zn_g (zn_g (zn_g (zn_g G 69) 70) 71) 72, 0) (4, 154) Q)) (QQ := fun M' => Q (some none) (zs_35, M', zn_l (zn_l (zn_l (zn_l L 69) 70) 71) 72, zn_g (zn_g (zn_g (zn_g G 69) 70) 71) 72, 0)) 68 (fun M x2 h => rz_X3i_68_59 h) (fun M x2 h => rz_X3i_68_117 h) (fun M x2 h => rz_X3i_68_137 h) (fun M' (h : zst (zsM M 68) M' 68) => hQ M' _ _ (zst_fr h) zsG_fr (zst_jh h))
theorem cz_st_73 (hQ : ∀ M' L' G', zfr 73 M M' → zgr 74 G G' → jh M' 73 z0 → Q (some none) (zs_38, M', L', G', 0)) : am_T X 25 0 [some (.ref 73), some (.int 20), none] [] (zs_36, M, L, G, 0) (0, 0) Q := by
  refine rz_X3i_73_0 ⟨by decide, by decide, by decide, ?_⟩
  rw [show (if (0 : Int32) < 20 then 20 else 0) = (20 : Int32) from if_pos (by decide)]
  refine rz_X3i_73_50 ?_
  rw [show (20 : Int32) * 5 = 100 from by decide]
  refine rz_X3i_73_52 ⟨by decide, ?_⟩
  exact zl_st (T59 := (fun M x2 => am_T X 25 59 [some (.ref 73), none, some (.int x2)] [] (zs_38, M, zn_l (zn_l (zn_l (zn_l L 74) 75) 76) 77, zn_g (zn_g (zn_g (zn_g G 74) 75) 76) 77, 0) (4, 154) Q)) (T117 := (fun M x2 => am_T X 25 117 [some (.ref 73), none, some (.int x2)] [] (zs_38, M, zn_l (zn_l (zn_l (zn_l L 74) 75) 76) 77, zn_g (zn_g (zn_g (zn_g G 74) 75) 76) 77, 0) (4, 154) Q)) (T137 := (fun M x2 => am_T X 25 137 [some (.ref 73), none, some (.int x2)] [] (zs_38, M, zn_l (zn_l (zn_l (zn_l L 74) 75) 76) 77, zn_g (zn_g (zn_g (zn_g G 74) 75) 76) 77, 0) (4, 154) Q)) (QQ := fun M' => Q (some none) (zs_38, M', zn_l (zn_l (zn_l (zn_l L 74) 75) 76) 77, zn_g (zn_g (zn_g (zn_g G 74) 75) 76) 77, 0)) 73 (fun M x2 h => rz_X3i_73_59 h) (fun M x2 h => rz_X3i_73_117 h) (fun M x2 h => rz_X3i_73_137 h) (fun M' (h : zst (zsM M 73) M' 73) => hQ M' _ _ (zst_fr h) zsG_fr (zst_jh h))
theorem cz_st_78 (hQ : ∀ M' L' G', zfr 78 M M' → zgr 79 G G' → jh M' 78 z0 → Q (some none) (zs_41, M', L', G', 0)) : am_T X 25 0 [some (.ref 78), some (.int 20), none] [] (zs_39, M, L, G, 0) (0, 0) Q := by
  refine rz_X3i_78_0 ⟨by decide, by decide, by decide, ?_⟩
  rw [show (if (0 : Int32) < 20 then 20 else 0) = (20 : Int32) from if_pos (by decide)]
  refine rz_X3i_78_50 ?_
  rw [show (20 : Int32) * 5 = 100 from by decide]
  refine rz_X3i_78_52 ⟨by decide, ?_⟩
  exact zl_st (T59 := (fun M x2 => am_T X 25 59 [some (.ref 78), none, some (.int x2)] [] (zs_41, M, zn_l (zn_l (zn_l (zn_l L 79) 80) 81) 82, zn_g (zn_g (zn_g (zn_g G 79) 80) 81) 82, 0) (4, 154) Q)) (T117 := (fun M x2 => am_T X 25 117 [some (.ref 78), none, some (.int x2)] [] (zs_41, M, zn_l (zn_l (zn_l (zn_l L 79) 80) 81) 82, zn_g (zn_g (zn_g (zn_g G 79) 80) 81) 82, 0) (4, 154) Q)) (T137 := (fun M x2 => am_T X 25 137 [some (.ref 78), none, some (.int x2)] [] (zs_41, M, zn_l (zn_l (zn_l (zn_l L 79) 80) 81) 82, zn_g (zn_g (zn_g (zn_g G 79) 80) 81) 82, 0) (4, 154) Q)) (QQ := fun M' => Q (some none) (zs_41, M', zn_l (zn_l (zn_l (zn_l L 79) 80) 81) 82, zn_g (zn_g (zn_g (zn_g G 79) 80) 81) 82, 0)) 78 (fun M x2 h => rz_X3i_78_59 h) (fun M x2 h => rz_X3i_78_117 h) (fun M x2 h => rz_X3i_78_137 h) (fun M' (h : zst (zsM M 78) M' 78) => hQ M' _ _ (zst_fr h) zsG_fr (zst_jh h))
theorem cz_st_83 (hQ : ∀ M' L' G', zfr 83 M M' → zgr 84 G G' → jh M' 83 z0 → Q (some none) (zs_44, M', L', G', 0)) : am_T X 25 0 [some (.ref 83), some (.int 20), none] [] (zs_42, M, L, G, 0) (0, 0) Q := by
  refine rz_X3i_83_0 ⟨by decide, by decide, by decide, ?_⟩
  rw [show (if (0 : Int32) < 20 then 20 else 0) = (20 : Int32) from if_pos (by decide)]
  refine rz_X3i_83_50 ?_
  rw [show (20 : Int32) * 5 = 100 from by decide]
  refine rz_X3i_83_52 ⟨by decide, ?_⟩
  exact zl_st (T59 := (fun M x2 => am_T X 25 59 [some (.ref 83), none, some (.int x2)] [] (zs_44, M, zn_l (zn_l (zn_l (zn_l L 84) 85) 86) 87, zn_g (zn_g (zn_g (zn_g G 84) 85) 86) 87, 0) (4, 154) Q)) (T117 := (fun M x2 => am_T X 25 117 [some (.ref 83), none, some (.int x2)] [] (zs_44, M, zn_l (zn_l (zn_l (zn_l L 84) 85) 86) 87, zn_g (zn_g (zn_g (zn_g G 84) 85) 86) 87, 0) (4, 154) Q)) (T137 := (fun M x2 => am_T X 25 137 [some (.ref 83), none, some (.int x2)] [] (zs_44, M, zn_l (zn_l (zn_l (zn_l L 84) 85) 86) 87, zn_g (zn_g (zn_g (zn_g G 84) 85) 86) 87, 0) (4, 154) Q)) (QQ := fun M' => Q (some none) (zs_44, M', zn_l (zn_l (zn_l (zn_l L 84) 85) 86) 87, zn_g (zn_g (zn_g (zn_g G 84) 85) 86) 87, 0)) 83 (fun M x2 h => rz_X3i_83_59 h) (fun M x2 h => rz_X3i_83_117 h) (fun M x2 h => rz_X3i_83_137 h) (fun M' (h : zst (zsM M 83) M' 83) => hQ M' _ _ (zst_fr h) zsG_fr (zst_jh h))
theorem cz_st_89 (hQ : ∀ M' L' G', zfr 89 M M' → zgr 90 G G' → jh M' 89 z0 → Q (some none) (zs_49, M', L', G', 0)) : am_T X 25 0 [some (.ref 89), some (.int 20), none] [] (zs_47, M, L, G, 0) (0, 0) Q := by
  refine rz_X3i_89_0 ⟨by decide, by decide, by decide, ?_⟩
  rw [show (if (0 : Int32) < 20 then 20 else 0) = (20 : Int32) from if_pos (by decide)]
  refine rz_X3i_89_50 ?_
  rw [show (20 : Int32) * 5 = 100 from by decide]
  refine rz_X3i_89_52 ⟨by decide, ?_⟩
  exact zl_st (T59 := (fun M x2 => am_T X 25 59 [some (.ref 89), none, some (.int x2)] [] (zs_49, M, zn_l (zn_l (zn_l (zn_l L 90) 91) 92) 93, zn_g (zn_g (zn_g (zn_g G 90) 91) 92) 93, 0) (4, 154) Q)) (T117 := (fun M x2 => am_T X 25 117 [some (.ref 89), none, some (.int x2)] [] (zs_49, M, zn_l (zn_l (zn_l (zn_l L 90) 91) 92) 93, zn_g (zn_g (zn_g (zn_g G 90) 91) 92) 93, 0) (4, 154) Q)) (T137 := (fun M x2 => am_T X 25 137 [some (.ref 89), none, some (.int x2)] [] (zs_49, M, zn_l (zn_l (zn_l (zn_l L 90) 91) 92) 93, zn_g (zn_g (zn_g (zn_g G 90) 91) 92) 93, 0) (4, 154) Q)) (QQ := fun M' => Q (some none) (zs_49, M', zn_l (zn_l (zn_l (zn_l L 90) 91) 92) 93, zn_g (zn_g (zn_g (zn_g G 90) 91) 92) 93, 0)) 89 (fun M x2 h => rz_X3i_89_59 h) (fun M x2 h => rz_X3i_89_117 h) (fun M x2 h => rz_X3i_89_137 h) (fun M' (h : zst (zsM M 89) M' 89) => hQ M' _ _ (zst_fr h) zsG_fr (zst_jh h))
theorem cz_st_94 (hQ : ∀ M' L' G', zfr 94 M M' → zgr 95 G G' → jh M' 94 z0 → Q (some none) (zs_52, M', L', G', 0)) : am_T X 25 0 [some (.ref 94), some (.int 20), none] [] (zs_50, M, L, G, 0) (0, 0) Q := by
  refine rz_X3i_94_0 ⟨by decide, by decide, by decide, ?_⟩
  rw [show (if (0 : Int32) < 20 then 20 else 0) = (20 : Int32) from if_pos (by decide)]
  refine rz_X3i_94_50 ?_
  rw [show (20 : Int32) * 5 = 100 from by decide]
  refine rz_X3i_94_52 ⟨by decide, ?_⟩
  exact zl_st (T59 := (fun M x2 => am_T X 25 59 [some (.ref 94), none, some (.int x2)] [] (zs_52, M, zn_l (zn_l (zn_l (zn_l L 95) 96) 97) 98, zn_g (zn_g (zn_g (zn_g G 95) 96) 97) 98, 0) (4, 154) Q)) (T117 := (fun M x2 => am_T X 25 117 [some (.ref 94), none, some (.int x2)] [] (zs_52, M, zn_l (zn_l (zn_l (zn_l L 95) 96) 97) 98, zn_g (zn_g (zn_g (zn_g G 95) 96) 97) 98, 0) (4, 154) Q)) (T137 := (fun M x2 => am_T X 25 137 [some (.ref 94), none, some (.int x2)] [] (zs_52, M, zn_l (zn_l (zn_l (zn_l L 95) 96) 97) 98, zn_g (zn_g (zn_g (zn_g G 95) 96) 97) 98, 0) (4, 154) Q)) (QQ := fun M' => Q (some none) (zs_52, M', zn_l (zn_l (zn_l (zn_l L 95) 96) 97) 98, zn_g (zn_g (zn_g (zn_g G 95) 96) 97) 98, 0)) 94 (fun M x2 h => rz_X3i_94_59 h) (fun M x2 h => rz_X3i_94_117 h) (fun M x2 h => rz_X3i_94_137 h) (fun M' (h : zst (zsM M 94) M' 94) => hQ M' _ _ (zst_fr h) zsG_fr (zst_jh h))
theorem cz_cl_15 (hQ : ∀ M' L' G', zfr 15 M M' → zgr 15 G G' → Q (some none) (zs_15, M', L', G', 0)) : am_T X 0 0 [some (.ref 15)] [] (zs_12, M, L, G, 0) (0, 0) Q := by
  refine rz_X0i_15_0 (cl_v (rz_X1i_16_0 ⟨by decide, by decide, by decide, by decide, by decide, by decide, by decide, ⟨rfl, rz_X0i_15_12 ⟨by decide, by decide, by decide, by decide, by decide, by decide, by decide, hQ _ _ _ ?_ ?_⟩⟩⟩))
  · (repeat (first | exact zfr_rf | refine zfr_wi ?_ (by decide) | refine zfr_zn ?_ (by decide)))
  · (repeat (first | exact zgr_rf | refine zgr_zn ?_ (by decide)))
theorem cz_cl_31 (hQ : ∀ M' L' G', zfr 31 M M' → zgr 31 G G' → Q (some none) (zs_19, M', L', G', 0)) : am_T X 0 0 [some (.ref 31)] [] (zs_16, M, L, G, 0) (0, 0) Q := by
  refine rz_X0i_31_0 (cl_v (rz_X1i_32_0 ⟨by decide, by decide, by decide, by decide, by decide, by decide, by decide, ⟨rfl, rz_X0i_31_12 ⟨by decide, by decide, by decide, by decide, by decide, by decide, by decide, hQ _ _ _ ?_ ?_⟩⟩⟩))
  · (repeat (first | exact zfr_rf | refine zfr_wi ?_ (by decide) | refine zfr_zn ?_ (by decide)))
  · (repeat (first | exact zgr_rf | refine zgr_zn ?_ (by decide)))
end Ctor
