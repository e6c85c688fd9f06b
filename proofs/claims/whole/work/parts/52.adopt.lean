/-! ===== what can be undone (written by wip/gen/gen_adopt.py) ===== -/
def jPa (M : Nat → Nat → Int32) (G : Nat → Nat → Option Nat) (n : Nat) (pa : Nat → jS) : Prop := M 0 7 = nI n ∧ n ≤ 8 ∧ ∃ π : Nat → Nat, (∀ j, j < 8 → π j < 8 ∧ G 47 j = some (48 + 5 * π j)) ∧ (∀ j i, j < 8 → i < 8 → π j = π i → j = i) ∧ ∀ j, j < n → jh M (48 + 5 * π j) (pa j)
/-- the past with one more -/
def jpush (n : Nat) (pa : Nat → jS) (s : jS) : Nat × (Nat → jS) := if n < 8 then (n + 1, fun j => if j = n then s else pa j) else (8, fun j => if j = 7 then s else pa (j + 1))
abbrev ja_up (a : jA) (s : jS) : jA := (s, jpush (ja_pn a) (ja_pa a) (ja_s a), a.2.2)
theorem jpush_w {n : Nat} {pa : Nat → jS} {s : jS} (hn : n ≤ 8) (h : ∀ j, j < n → jw (pa j) 20) (hs : jw s 20) : (jpush n pa s).1 ≤ 8 ∧ ∀ j, j < (jpush n pa s).1 → jw ((jpush n pa s).2 j) 20 := by
  unfold jpush
  by_cases h8 : n < 8
  · rw [if_pos h8]
    refine ⟨h8, fun j hj => ?_⟩
    show jw (if j = n then s else pa j) 20
    have hj2 : j < n + 1 := hj
    by_cases e : j = n
    · rw [if_pos e]; exact hs
    · rw [if_neg e]; exact h j (by omega)
  · rw [if_neg h8]
    refine ⟨Nat.le_refl 8, fun j hj => ?_⟩
    have hj2 : j < 8 := hj
    show jw (if j = 7 then s else pa (j + 1)) 20
    by_cases e : j = 7
    · rw [if_pos e]; exact hs
    · rw [if_neg e]; exact h (j + 1) (by omega)
theorem jAw_up {a : jA} {s : jS} (h : jAw a) (hs : jw s 20) : jAw (ja_up a s) := ⟨hs, jpush_w h.2.1.1 h.2.1.2 h.1, h.2.2⟩
theorem jm_cls8 {M : Nat → Nat → Int32} {L : Nat → Nat → Int64} {G : Nat → Nat → Option Nat} : ∀ p, p < 8 → am_cls (jm_s M L G) (48 + 5 * p) = 3
  | 0, _ => rfl
  | 1, _ => rfl
  | 2, _ => rfl
  | 3, _ => rfl
  | 4, _ => rfl
  | 5, _ => rfl
  | 6, _ => rfl
  | 7, _ => rfl
  | _ + 8, h => absurd h (by omega)
section Adopt
variable {X : Nat × (Nat → Int32)} {M : Nat → Nat → Int32} {L : Nat → Nat → Int64} {G : Nat → Nat → Option Nat} {Q : am_Q} {a : jA}
/-- the state there is, copied to one that can be undone -/
theorem ct_rem67 {s : jS} (hS : jh M 5 s) (hn : jn s ≤ 20) {p : Nat} (hp : p < 8) (hQ : ∀ M', (∀ q, q < 48 + 5 * p ∨ 48 + 5 * p + 4 < q → M' q = M q) → jh M' (48 + 5 * p) s → Q (some none) (jm_s (wi_m M' 0 7 (M' 0 7 + 1)) L G)) : am_T X 110 67 [some (.ref 0), none, none] [(.ref (48 + 5 * p))] (jm_s M L G) (0, 0) Q := by
  have h8 : p = 0 ∨ p = 1 ∨ p = 2 ∨ p = 3 ∨ p = 4 ∨ p = 5 ∨ p = 6 ∨ p = 7 := by omega
  rcases h8 with e | e | e | e | e | e | e | e <;> subst e
  · exact rg_X5_remember_0_67_v9 (cl_v (ct_copy_48_5 hS hn (fun M1 f h => ⟨rfl, rg_X5_remember_0_74 (hQ M1 f h)⟩)))
  · exact rg_X5_remember_0_67_v8 (cl_v (ct_copy_53_5 hS hn (fun M1 f h => ⟨rfl, rg_X5_remember_0_74 (hQ M1 f h)⟩)))
  · exact rg_X5_remember_0_67_v7 (cl_v (ct_copy_58_5 hS hn (fun M1 f h => ⟨rfl, rg_X5_remember_0_74 (hQ M1 f h)⟩)))
  · exact rg_X5_remember_0_67_v6 (cl_v (ct_copy_63_5 hS hn (fun M1 f h => ⟨rfl, rg_X5_remember_0_74 (hQ M1 f h)⟩)))
  · exact rg_X5_remember_0_67_v5 (cl_v (ct_copy_68_5 hS hn (fun M1 f h => ⟨rfl, rg_X5_remember_0_74 (hQ M1 f h)⟩)))
  · exact rg_X5_remember_0_67_v4 (cl_v (ct_copy_73_5 hS hn (fun M1 f h => ⟨rfl, rg_X5_remember_0_74 (hQ M1 f h)⟩)))
  · exact rg_X5_remember_0_67_v3 (cl_v (ct_copy_78_5 hS hn (fun M1 f h => ⟨rfl, rg_X5_remember_0_74 (hQ M1 f h)⟩)))
  · exact rg_X5_remember_0_67_v2 (cl_v (ct_copy_83_5 hS hn (fun M1 f h => ⟨rfl, rg_X5_remember_0_74 (hQ M1 f h)⟩)))
theorem ct_remember {s : jS} {n : Nat} {pa : Nat → jS} (hS : jh M 5 s) (hn : jn s ≤ 20) (hP : jPa M G n pa) (hQ : ∀ M' G', (∀ q, q ≠ 0 → q < 48 ∨ 87 < q → M' q = M q) → (∀ i, i ≠ 7 → M' 0 i = M 0 i) → (∀ q, q ≠ 47 → G' q = G q) → jPa M' G' (jpush n pa s).1 (jpush n pa s).2 → Q (some none) (jm_s M' L G')) : am_T X 110 0 [some (.ref 0), none, none] [] (jm_s M L G) (0, 0) Q := by
  obtain ⟨p1, p2, π, p3, p4, p5⟩ := hP
  by_cases h8 : n < 8
  · refine rg_X5_remember_0_0 ⟨fun _ => ⟨?_, 48 + 5 * π n, ?_, ct_rem67 hS hn (p3 n h8).1 (fun M' f h => hQ _ G ?_ ?_ (fun _ _ => rfl) ?_)⟩, fun h => absurd ?_ h⟩
    · rw [p1]; exact vp_in_nI h8 (by decide)
    · rw [p1, nI_clamp (by omega)]; exact (p3 n h8).2
    · intro q h1 h2
      have := (p3 n h8).1
      rw [wi_m_p _ _ h1, f q (by omega)]
    · intro i hi
      rw [wi_m_eq, if_pos rfl, if_neg hi, f 0 (by omega)]
    · unfold jpush
      rw [if_pos h8]
      have e0 : M' 0 7 = nI n := by rw [f 0 (by omega), p1]
      refine ⟨?_, h8, π, p3, p4, fun j hj => ?_⟩
      · rw [wi_m_i, e0, nI_1]
      · have hj2 : j < n + 1 := hj
        show jh _ _ (if j = n then s else pa j)
        by_cases e : j = n
        · subst e
          rw [if_pos rfl]
          exact jh_f h (fun q h1 h2 => wi_m_p _ _ (by omega))
        · rw [if_neg e]
          have a1 := (p3 j (by omega)).1
          have a2 := (p3 n h8).1
          have a3 : π j ≠ π n := fun q => e (p4 j n (by omega) h8 q)
          refine jh_f (p5 j (by omega)) (fun q h1 h2 => ?_)
          rw [wi_m_p _ _ (by omega), f q (by omega)]
    · rw [p1]; exact nI_lt h8 (by decide)
  · have hn8 : n = 8 := by omega
    subst hn8
    refine rg_X5_remember_0_0 ⟨fun h => absurd h ?_, fun _ => ⟨vp_in_nI (show 0 < 8 by decide) (by decide), 48 + 5 * π 0, (p3 0 (by decide)).2, rg_X5_remember_0_15 ?_⟩⟩
    · rw [p1]; exact nI_nlt (Nat.le_refl 8) (by decide)
    have l : ∀ i, i ≤ 8 → 1 ≤ i → ∀ G1, (∀ j, j < 8 → G1 47 j = if j + 1 < i then G 47 (j + 1) else G 47 j) → (∀ q, q ≠ 47 → G1 q = G q) → am_T X 110 18 [some (.ref 0), some (.ref (48 + 5 * π 0)), some (.int (nI i))] [] (jm_s M L G1) (0, 0) Q := by
      refine lp_dn 8 ?_ ?_
      · intro _ G1 g1 g2
        refine rg_X5_remember_0_18 ⟨fun _ => ⟨vp_in_nI (show 7 < 8 by decide) (by decide), jm_cls8 (π 0) (p3 0 (by decide)).1, vp_in_nI (show 7 < 8 by decide) (by decide), 48 + 5 * π 0, ?_, ?_⟩, fun h => absurd (nI_le (Nat.le_refl 8) (by decide)) h⟩
        · rw [wr_m_eq, if_pos rfl, if_pos rfl]
        · have hS2 : jh (wi_m M 0 7 7) 5 s := jh_f hS (fun q h1 h2 => wi_m_p _ _ (by omega))
          refine ct_rem67 hS2 hn (p3 0 (by decide)).1 (fun M' f h => hQ _ _ ?_ ?_ ?_ ?_)
          · intro q h1 h2
            have := (p3 0 (by decide)).1
            rw [wi_m_p _ _ h1, f q (by omega), wi_m_p _ _ h1]
          · intro i hi
            rw [wi_m_eq, if_pos rfl, if_neg hi, f 0 (by omega), wi_m_eq, if_pos rfl, if_neg hi]
          · intro q hq
            funext j
            rw [wr_m_eq, if_neg hq, g2 q hq]
          · unfold jpush
            rw [if_neg (by decide)]
            have e0 : M' 0 7 = nI 7 := by rw [f 0 (by omega), wi_m_i]; rfl
            refine ⟨?_, Nat.le_refl 8, fun j => if j = 7 then π 0 else π (j + 1), fun j hj => ?_, fun j i hj hi e => ?_, fun j hj => ?_⟩
            · rw [wi_m_i, e0, nI_1]
            · show (if j = 7 then π 0 else π (j + 1)) < 8 ∧ _ = some (48 + 5 * (if j = 7 then π 0 else π (j + 1)))
              rw [wr_m_eq, if_pos rfl]
              by_cases e : j = 7
              · rw [if_pos e, if_pos e]
                exact ⟨(p3 0 (by decide)).1, rfl⟩
              · rw [if_neg e, if_neg e, g1 j hj, if_pos (by omega)]
                exact p3 (j + 1) (by omega)
            · have e2 : (if j = 7 then π 0 else π (j + 1)) = (if i = 7 then π 0 else π (i + 1)) := e
              by_cases ej : j = 7
              · by_cases ei : i = 7
                · omega
                · rw [if_pos ej, if_neg ei] at e2
                  have := p4 0 (i + 1) (by decide) (by omega) e2
                  omega
              · by_cases ei : i = 7
                · rw [if_neg ej, if_pos ei] at e2
                  have := p4 (j + 1) 0 (by omega) (by decide) e2
                  omega
                · rw [if_neg ej, if_neg ei] at e2
                  have := p4 (j + 1) (i + 1) (by omega) (by omega) e2
                  omega
            · have hj2 : j < 8 := hj
              show jh _ (48 + 5 * (if j = 7 then π 0 else π (j + 1))) (if j = 7 then s else pa (j + 1))
              by_cases e : j = 7
              · rw [if_pos e, if_pos e]
                exact jh_f h (fun q h1 h2 => wi_m_p _ _ (by omega))
              · rw [if_neg e, if_neg e]
                have a1 := (p3 (j + 1) (by omega)).1
                have a2 := (p3 0 (by decide)).1
                have a3 : π (j + 1) ≠ π 0 := fun q => by
                  have := p4 (j + 1) 0 (by omega) (by decide) q
                  omega
                refine jh_f (p5 (j + 1) (by omega)) (fun q h1 h2 => ?_)
                rw [wi_m_p _ _ (by omega), f q (by omega), wi_m_p _ _ (by omega)]
      · intro i hi ih hi1 G1 g1 g2
        have ei : G1 47 i = some (48 + 5 * π i) := by
          rw [g1 i hi, if_neg (by omega)]
          exact (p3 i hi).2
        have es : nI i - 1 = nI (i - 1) := pk_sub (b := 1) (by omega)
        refine rg_X5_remember_0_18 ⟨fun h => absurd h (nI_ge hi (by decide)), fun _ => ⟨vp_in_nI hi (by decide), 48 + 5 * π i, ?_, rg_X5_remember_0_37 ?_⟩⟩
        · rw [nI_clamp (by omega)]; exact ei
        rw [es, nI_clamp (show i - 1 < 2147483648 by omega), nI_1]
        refine ⟨vp_in_nI (by omega) (by decide), jm_cls8 (π i) (p3 i hi).1, ih (by omega) _ (fun j hj => ?_) (fun q hq => ?_)⟩
        · rw [wr_m_eq, if_pos rfl]
          by_cases e : j = i - 1
          · rw [if_pos e, if_pos (by omega), show j + 1 = i by omega]
            exact (p3 i hi).2.symm
          · rw [if_neg e, g1 j hj]
            by_cases e2 : j + 1 < i
            · rw [if_pos e2, if_pos (by omega)]
            · rw [if_neg e2, if_neg (by omega)]
        · funext j
          rw [wr_m_eq, if_neg hq, g2 q hq]
    exact l 1 (by decide) (Nat.le_refl 1) G (fun j hj => by rw [if_neg (by omega)]) (fun _ _ => rfl)
theorem ct_adopt {s : jS} (hA : jAw a) (hC : jC M L G a) (hS : jh M 10 s) (hw : jw s 20) {x : Int32} (hx : 0 ≤ x) (hQ : ∀ M' G', jC M' L G' (ja_up a s) → (∀ q, 101 ≤ q → M' q = M q) → Q (some (some (.int x))) (jm_s M' L G')) : am_T X 109 0 [some (.ref 0), some (.int x)] [] (jm_s M L G) (0, 0) Q := by
  obtain ⟨⟨⟨c1, c2⟩, c3, c4, c5, c6⟩, ct, cr⟩ := hC
  refine rn_X5_adopt_0_0 ⟨fun _ => cl_v (ct_remember c1 hA.1.1 c3 (fun M1 G1 f1 f2 f3 hP => ⟨rfl, ?_⟩)), fun h => absurd hx h⟩
  have hS1 : jh M1 10 s := jh_f hS (fun q h1 h2 => f1 q (by omega) (by omega))
  refine rg_X5_adopt_0_10 (cl_v (ct_copy_5_10 hS1 hw.1 (fun M2 g2 hS2 => ⟨rfl, ?_⟩)))
  refine rg_X5_adopt_0_21 (cl_v (ct_reckon_15_5 hS2 hw (fun M3 g3 hk => ⟨rfl, rg_X5_adopt_0_32 (hQ M3 G1 ?_ ?_)⟩)))
  · have E : ∀ q, q < 5 ∨ 30 < q → M3 q = M1 q := fun q hq => by rw [g3 q (by omega), g2 q (by omega)]
    refine ⟨⟨⟨jh_f hS2 (fun q h1 h2 => g3 q (by omega)), hk⟩, ?_, ?_, ?_, ?_⟩, ?_, ?_⟩
    · obtain ⟨q1, q2, π, q3, q4, q5⟩ := hP
      refine ⟨?_, q2, π, q3, q4, fun j hj => jh_f (q5 j hj) (fun q h1 h2 => E q (by omega))⟩
      rw [E 0 (by decide)]
      exact q1
    · rw [f3 88 (by decide)]; exact c4
    · rw [f3 88 (by decide)]; exact c5
    · intro i hi
      obtain ⟨u1, u2⟩ := c6 i hi
      refine ⟨?_, fun hv => jh_f (u2 hv) (fun q h1 h2 => ?_)⟩
      · rw [E 99 (by decide), f1 99 (by decide) (by decide)]
        exact u1
      · rw [E q (by omega), f1 q (by omega) (by omega)]
    · unfold jCt at *
      rw [E 1 (by decide), E 2 (by decide), f1 1 (by decide) (by decide), f1 2 (by decide) (by decide)]
      exact ct
    · unfold jCr at *
      rw [E 3 (by decide), f1 3 (by decide) (by decide)]
      exact cr
  · intro q hq
    rw [g3 q (by omega), g2 q (by omega), f1 q (by omega) (by omega)]
/-- only the trial has changed -/
theorem jC_t {M' : Nat → Nat → Int32} (hC : jC M L G a) (f : ∀ q, q < 10 ∨ (14 < q ∧ q < 31) ∨ (46 < q ∧ q ≠ 100) → M' q = M q) : jC M' L G a := by
  obtain ⟨h0, ht, hr⟩ := hC
  refine ⟨jC0_f h0 (fun q hq => f q ?_) rfl, ?_, ?_⟩
  · unfold jc0p at hq
    omega
  · unfold jCt at *
    rw [f 1 (by decide), f 2 (by decide)]
    exact ht
  · unfold jCr at *
    rw [f 3 (by decide)]
    exact hr
end Adopt
