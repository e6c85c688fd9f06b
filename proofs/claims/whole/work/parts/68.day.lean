/-! ===== a day: what an act is; the class reads it (written by wip/gen/gen_day.py) ===== -/
/-- the reader of argument i of an act of kind k -/
def jd_r (k i : Nat) (n : Nat) (tx : Nat → Nat) (p : Nat × Option Nat) : Nat × (Nat × Option Nat) :=
  if k = 0 then (if i = 0 then jq_l jl_c n tx p else if i = 1 then jq_l jl_k n tx p else jq_d 3 n tx p)
  else if k = 3 then (if i = 0 then jq_l jl_c n tx p else if i = 1 then jq_l jl_w n tx p else if i = 2 then jq_d 3 n tx p else (0, p))
  else if i = 0 then jq_d 2 n tx p else if (k = 2 ∧ i ≤ 2) ∨ (k = 6 ∧ i = 1) then jq_d 3 n tx p else (0, p)
def jd (n : Nat) (tx : Nat → Nat) (p : Nat × Option Nat) : Nat → Nat × (Nat × Option Nat)
  | 0 => jq_l jl_a n tx p
  | i + 1 => jd_r (jq_l jl_a n tx p).1 i n tx (jd n tx p i).2
/-- what the act does -/
noncomputable def je (n : Nat) (tx : Nat → Nat) (p : Nat × Option Nat) (s : jS) : Int32 × jS :=
  if (jd n tx p 0).1 = 0 then jo_bring s (nI (jd n tx p 1).1) (nI (jd n tx p 2).1) (nI (jd n tx p 3).1) (nI (jd n tx p 4).1) (nI (jd n tx p 5).1)
  else if (jd n tx p 0).1 = 1 then jo_drop s (nI (jd n tx p 1).1)
  else if (jd n tx p 0).1 = 2 then jo_str s (nI (jd n tx p 1).1) (nI (jd n tx p 2).1) (nI (jd n tx p 3).1)
  else if (jd n tx p 0).1 = 3 then jo_law s (nI (jd n tx p 1).1) (nI (jd n tx p 2).1) (nI (jd n tx p 3).1)
  else if (jd n tx p 0).1 = 4 then jo_set s 0 (nI (jd n tx p 1).1)
  else if (jd n tx p 0).1 = 5 then jo_set s 1 (nI (jd n tx p 1).1)
  else jo_ix s (nI (jd n tx p 1).1) (nI (jd n tx p 2).1)
section Day
variable {X : Nat × (Nat → Int32)} {M : Nat → Nat → Int32} {L : Nat → Nat → Int64} {G : Nat → Nat → Option Nat} {Q : am_Q} {n : Nat} {tx : Nat → Nat} {p : Nat × Option Nat} {a : jA} {s : jS}
theorem jd_r_b {k i : Nat} (hb : jtb n tx p) : jtb n tx (jd_r k i n tx p).2 ∧ ((jd_r k i n tx p).2.2 = none → p.2 = none ∧ p.1 ≤ (jd_r k i n tx p).2.1) := by
  have l : ∀ jl, jtb n tx (jq_l jl n tx p).2 ∧ ((jq_l jl n tx p).2.2 = none → p.2 = none ∧ p.1 ≤ (jq_l jl n tx p).2.1) := fun jl => ⟨(jq_l_b hb).1, fun q => ⟨((jq_l_b hb).2 q).1, by have := ((jq_l_b hb).2 q).2; omega⟩⟩
  have d : ∀ m, jtb n tx (jq_d m n tx p).2 ∧ ((jq_d m n tx p).2.2 = none → p.2 = none ∧ p.1 ≤ (jq_d m n tx p).2.1) := fun m => ⟨(jq_d_b hb).1, fun q => ⟨((jq_d_b hb).2 q).1, by have := ((jq_d_b hb).2 q).2.1; omega⟩⟩
  have z : jtb n tx ((0, p) : Nat × (Nat × Option Nat)).2 ∧ (((0, p) : Nat × (Nat × Option Nat)).2.2 = none → p.2 = none ∧ p.1 ≤ ((0, p) : Nat × (Nat × Option Nat)).2.1) := ⟨hb, fun q => ⟨q, Nat.le_refl _⟩⟩
  unfold jd_r
  by_cases h0 : k = 0
  · rw [if_pos h0]
    by_cases i0 : i = 0
    · rw [if_pos i0]; exact l _
    · rw [if_neg i0]
      by_cases i1 : i = 1
      · rw [if_pos i1]; exact l _
      · rw [if_neg i1]; exact d _
  · rw [if_neg h0]
    by_cases h3 : k = 3
    · rw [if_pos h3]
      by_cases i0 : i = 0
      · rw [if_pos i0]; exact l _
      · rw [if_neg i0]
        by_cases i1 : i = 1
        · rw [if_pos i1]; exact l _
        · rw [if_neg i1]
          by_cases i2 : i = 2
          · rw [if_pos i2]; exact d _
          · rw [if_neg i2]; exact z
    · rw [if_neg h3]
      by_cases i0 : i = 0
      · rw [if_pos i0]; exact d _
      · rw [if_neg i0]
        by_cases i1 : (k = 2 ∧ i ≤ 2) ∨ (k = 6 ∧ i = 1)
        · rw [if_pos i1]; exact d _
        · rw [if_neg i1]; exact z
theorem jq_d_x {m : Nat} (h : ¬ p.2 = none) : (jq_d m n tx p).2 = p := by
  unfold jq_d
  cases hp : p.2 with
  | none => exact absurd hp h
  | some e =>
    show (p.1, some e) = p
    rw [← hp]
theorem jd_r_x {k i : Nat} (h : ¬ p.2 = none) : (jd_r k i n tx p).2 = p := by
  unfold jd_r
  rw [apply_ite Prod.snd, apply_ite Prod.snd, apply_ite Prod.snd, apply_ite Prod.snd, apply_ite Prod.snd, apply_ite Prod.snd, apply_ite Prod.snd, apply_ite Prod.snd, apply_ite Prod.snd, jq_l_x h, jq_l_x h, jq_l_x h, jq_d_x h, jq_d_x h]
  simp only [ite_self]
theorem jd_b (hb : jtb n tx p) : ∀ i, jtb n tx (jd n tx p i).2 ∧ ((jd n tx p i).2.2 = none → p.2 = none ∧ p.1 + 1 ≤ (jd n tx p i).2.1 ∧ (jd n tx p 0).2.2 = none ∧ ∀ j, j ≤ i → (jd n tx p j).2.2 = none)
  | 0 => by
    obtain ⟨a1, b1⟩ := jq_l_b (jl := jl_a) hb
    refine ⟨a1, fun q => ?_⟩
    obtain ⟨c0, d0⟩ := b1 q
    exact ⟨c0, Nat.le_of_eq d0.symm, q, fun j hj => by rw [Nat.le_zero.mp hj]; exact q⟩
  | i + 1 => by
    obtain ⟨a1, b1⟩ := jd_b hb i
    obtain ⟨a2, b2⟩ := jd_r_b (k := (jq_l jl_a n tx p).1) (i := i) a1
    refine ⟨a2, fun q => ?_⟩
    obtain ⟨c1, d1⟩ := b2 q
    obtain ⟨e0, e1, e2, e3⟩ := b1 c1
    refine ⟨e0, Nat.le_trans e1 d1, e2, fun j hj => ?_⟩
    by_cases hj2 : j = i + 1
    · rw [hj2]; exact q
    · exact e3 j (by omega)
theorem jd_x (h : ¬ (jd n tx p 0).2.2 = none) : ∀ i, (jd n tx p i).2 = (jd n tx p 0).2
  | 0 => rfl
  | i + 1 => by
    show (jd_r _ i n tx (jd n tx p i).2).2 = _
    rw [jd_x h i]
    exact jd_r_x h
theorem jd_k (hb : jtb n tx p) (h : (jd n tx p 0).2.2 = none) : p.1 < n ∧ jl_a (tx p.1) = some (jd n tx p 0).1 ∧ (jd n tx p 0).1 < 7 := by
  have v := jq_l_v h
  exact ⟨v.1, v.2, (jl_lt _ (hb.2.2.1 _ v.1)).2.2.1 _ v.2⟩
theorem je_w (hw : jw s 20) : jw (je n tx p s).2 20 := by
  unfold je
  split
  · exact jo_bring_w hw
  · split
    · exact jo_drop_w hw (by decide)
    · split
      · exact jo_str_w hw
      · split
        · exact jo_law_w hw
        · split
          · exact jo_set_w hw
          · split
            · exact jo_set_w hw
            · exact jo_ix_w hw
theorem ct_mayDo (hT : jtC M n tx p) (hb : jtb n tx p) {al : Bool} (hQ : Q (some (some (.int (jb (al && p.2.isNone))))) (jm_s M L G)) : am_T X 118 0 [some (.ref 0), some (.int (jb al))] [] (jm_s M L G) (0, 0) Q := by
  refine rn_X5_mayDo_0_0 ?_
  cases al with
  | false => exact ⟨fun _ => hQ, fun e => absurd rfl e⟩
  | true =>
    refine ⟨fun e => absurd e (by decide), fun _ => cl_i (fun _ h => ct_isGood hT hb h) (rn_X5_mayDo_0_11 ?_)⟩
    cases hp : p.2 with
    | none =>
      rw [hp] at hQ
      exact ⟨fun e => absurd e (by decide), fun _ => hQ⟩
    | some e =>
      rw [hp] at hQ
      exact ⟨fun _ => hQ, fun e => absurd rfl e⟩
theorem ct_readAct (hT : jtC M n tx p) (hb : jtb n tx p) (hS : jh M 10 s) (hn : jn s ≤ 20) {al : Bool} (hQ : ∀ M' r, (∀ q, q ≠ 1 → q < 10 ∨ 14 < q → M' q = M q) → jtC M' n tx (jd n tx p 5).2 → ((jd n tx p 5).2.2 = none → al = true → r = (je n tx p s).1 ∧ jh M' 10 (je n tx p s).2) → (al = false → jh M' 10 s) → Q (some (some (.int r))) (jm_s M' L G)) : am_T X 117 0 [some (.ref 0), some (.int (jb al)), none, none] [] (jm_s M L G) (0, 0) Q := by
  have B := jd_b hb
  have fin0 : ∀ M1, (∀ q, q ≠ 1 → M1 q = M q) → jtC M1 n tx (jd n tx p 5).2 → (al && (jd n tx p 5).2.2.isNone) = false → Q (some (some (.int (-1)))) (jm_s M1 L G) := by
    intro M1 f1 h1 hal
    refine hQ M1 (-1) (fun q q1 _ => f1 q q1) h1 (fun hg ha => ?_) (fun _ => jh_f hS (fun q q1 q2 => f1 q (by omega)))
    rw [hg, ha] at hal
    exact absurd hal (by decide)
  have fin1 : ∀ M1 M2, (∀ q, q ≠ 1 → M1 q = M q) → jtC M1 n tx (jd n tx p 5).2 → (al && (jd n tx p 5).2.2.isNone) = true → (∀ q, q < 10 ∨ 14 < q → M2 q = M1 q) → jh M2 10 (je n tx p s).2 → Q (some (some (.int (je n tx p s).1))) (jm_s M2 L G) := by
    intro M1 M2 f1 h1 hal f2 h2
    refine hQ M2 _ (fun q q1 q2 => by rw [f2 q q2, f1 q q1]) (jtC_f h1 (f2 1 (by decide)) (f2 2 (by decide))) (fun _ _ => ⟨rfl, h2⟩) (fun ha => ?_)
    rw [ha, Bool.false_and] at hal
    exact absurd hal (by decide)
  have S1 : ∀ M1 : Nat → Nat → Int32, (∀ q, q ≠ 1 → M1 q = M q) → jh M1 10 s := fun M1 f1 => jh_f hS (fun q q1 q2 => f1 q (by omega))
  have G5 : (al && (jd n tx p 5).2.2.isNone) = true → (jd n tx p 5).2.2 = none := by
    intro h
    cases hp : (jd n tx p 5).2.2 with
    | none => rfl
    | some e =>
      rw [hp, Option.isNone_some, Bool.and_false] at h
      exact absurd h (by decide)
  refine rg_X5_readAct_0_0 (cl_w (ct_letter_a hT hb (fun M1 r1 f1 h1 e1 n1 => ⟨_, rfl, rn_X5_readAct_0_10 ?_⟩)))
  have h1 : jtC M1 n tx (jd n tx p 0).2 := h1
  have e1 : (jd n tx p 0).2.2 = none → r1 = nI (jd n tx p 0).1 := e1
  have n1 : ¬ (jd n tx p 0).2.2 = none → r1 = -1 := n1
  by_cases hg : (jd n tx p 0).2.2 = none
  · rw [e1 hg]
    have hk7 := (jd_k hb hg).2.2
    have kk : (jd n tx p 0).1 = 0 ∨ (jd n tx p 0).1 = 1 ∨ (jd n tx p 0).1 = 2 ∨ (jd n tx p 0).1 = 3 ∨ (jd n tx p 0).1 = 4 ∨ (jd n tx p 0).1 = 5 ∨ (jd n tx p 0).1 = 6 := by omega
    rcases kk with hk | hk | hk | hk | hk | hk | hk
    · rw [hk]
      have d1 : jd n tx p 1 = jq_l jl_c n tx (jd n tx p 0).2 := by
        show jd_r (jq_l jl_a n tx p).1 0 n tx (jd n tx p 0).2 = _
        rw [show (jq_l jl_a n tx p).1 = 0 from hk]
        rfl
      have d2 : jd n tx p 2 = jq_l jl_k n tx (jd n tx p 1).2 := by
        show jd_r (jq_l jl_a n tx p).1 1 n tx (jd n tx p 1).2 = _
        rw [show (jq_l jl_a n tx p).1 = 0 from hk]
        rfl
      have d3 : jd n tx p 3 = jq_d 3 n tx (jd n tx p 2).2 := by
        show jd_r (jq_l jl_a n tx p).1 2 n tx (jd n tx p 2).2 = _
        rw [show (jq_l jl_a n tx p).1 = 0 from hk]
        rfl
      have d4 : jd n tx p 4 = jq_d 3 n tx (jd n tx p 3).2 := by
        show jd_r (jq_l jl_a n tx p).1 3 n tx (jd n tx p 3).2 = _
        rw [show (jq_l jl_a n tx p).1 = 0 from hk]
        rfl
      have d5 : jd n tx p 5 = jq_d 3 n tx (jd n tx p 4).2 := by
        show jd_r (jq_l jl_a n tx p).1 4 n tx (jd n tx p 4).2 = _
        rw [show (jq_l jl_a n tx p).1 = 0 from hk]
        rfl
      have E5 : (jd n tx p 5).2 = (jd n tx p 5).2 := rfl
      refine ⟨fun _ => ?_, fun e => absurd rfl e⟩
      refine cl_w (rg_X5_readComing_0_0 ?_)
      refine cl_w (ct_letter_c h1 (B 0).1 (fun M2 r2 f2 h2 e2 _ => ⟨_, rfl, rg_X5_readComing_0_9 ?_⟩))
      rw [← d1] at h2 e2
      refine cl_w (ct_letter_k h2 (B 1).1 (fun M3 r3 f3 h3 e3 _ => ⟨_, rfl, rg_X5_readComing_0_19 ?_⟩))
      rw [← d2] at h3 e3
      refine cl_w (ct_digits (m := 3) (by decide) h3 (B 2).1 (fun M4 r4 f4 h4 e4 => ⟨_, rfl, rg_X5_readComing_0_28 ?_⟩))
      rw [← d3] at h4 e4
      refine cl_w (ct_digits (m := 3) (by decide) h4 (B 3).1 (fun M5 r5 f5 h5 e5 => ⟨_, rfl, rg_X5_readComing_0_38 ?_⟩))
      rw [← d4] at h5 e5
      refine cl_w (ct_digits (m := 3) (by decide) h5 (B 4).1 (fun M6 r6 f6 h6 e6 => ⟨_, rfl, rg_X5_readComing_0_48 ?_⟩))
      rw [← d5] at h6 e6
      have F : ∀ q, q ≠ 1 → M6 q = M q := fun q hq => by rw [f6 q hq, f5 q hq, f4 q hq, f3 q hq, f2 q hq, f1 q hq]
      have T5 : jtC M6 n tx (jd n tx p 5).2 := by rw [E5]; exact h6
      refine cl_i (fun _ h => ct_mayDo (al := al) T5 (B 5).1 h) (rn_X5_readComing_0_55 ?_)
      cases hal : (al && (jd n tx p 5).2.2.isNone) with
      | false => exact ⟨fun _ => ⟨_, rfl, rg_X5_readAct_0_57 (fin0 _ F T5 hal)⟩, fun e => absurd rfl e⟩
      | true =>
        refine ⟨fun e => absurd e (by decide), fun _ => ?_⟩
        have g5 := ((B 5).2 (G5 hal)).2.2.2
        rw [e2 (g5 1 (by decide)), e3 (g5 2 (by decide)), e4 (g5 3 (by decide)), e5 (g5 4 (by decide)), e6 (g5 5 (by decide))]
        have ej : je n tx p s = jo_bring s (nI (jd n tx p 1).1) (nI (jd n tx p 2).1) (nI (jd n tx p 3).1) (nI (jd n tx p 4).1) (nI (jd n tx p 5).1) := by
          unfold je
          rw [if_pos hk]
        have fin := fin1 M6
        rw [ej] at fin
        exact cl_w (ct_bring (S1 _ F) hn (fun M9 f9 h9 => ⟨_, rfl, rg_X5_readComing_0_73 (⟨_, rfl, rg_X5_readAct_0_57 (fin M9 F T5 hal f9 h9)⟩)⟩))
    · rw [hk]
      have d1 : jd n tx p 1 = jq_d 2 n tx (jd n tx p 0).2 := by
        show jd_r (jq_l jl_a n tx p).1 0 n tx (jd n tx p 0).2 = _
        rw [show (jq_l jl_a n tx p).1 = 1 from hk]
        rfl
      have d2 : jd n tx p 2 = (0, (jd n tx p 1).2) := by
        show jd_r (jq_l jl_a n tx p).1 1 n tx (jd n tx p 1).2 = _
        rw [show (jq_l jl_a n tx p).1 = 1 from hk]
        rfl
      have d3 : jd n tx p 3 = (0, (jd n tx p 2).2) := by
        show jd_r (jq_l jl_a n tx p).1 2 n tx (jd n tx p 2).2 = _
        rw [show (jq_l jl_a n tx p).1 = 1 from hk]
        rfl
      have d4 : jd n tx p 4 = (0, (jd n tx p 3).2) := by
        show jd_r (jq_l jl_a n tx p).1 3 n tx (jd n tx p 3).2 = _
        rw [show (jq_l jl_a n tx p).1 = 1 from hk]
        rfl
      have d5 : jd n tx p 5 = (0, (jd n tx p 4).2) := by
        show jd_r (jq_l jl_a n tx p).1 4 n tx (jd n tx p 4).2 = _
        rw [show (jq_l jl_a n tx p).1 = 1 from hk]
        rfl
      have E5 : (jd n tx p 5).2 = (jd n tx p 1).2 := by rw [d5, d4, d3, d2]
      refine ⟨fun e => absurd e (by decide), fun _ => ⟨fun _ => ?_, fun e => absurd rfl e⟩⟩
      refine cl_w (ct_digits (m := 2) (by decide) h1 (B 0).1 (fun M2 r2 f2 h2 e2 => ⟨_, rfl, rg_X5_readAct_0_66 ?_⟩))
      rw [← d1] at h2 e2
      have F : ∀ q, q ≠ 1 → M2 q = M q := fun q hq => by rw [f2 q hq, f1 q hq]
      have T5 : jtC M2 n tx (jd n tx p 5).2 := by rw [E5]; exact h2
      refine cl_i (fun _ h => ct_mayDo (al := al) T5 (B 5).1 h) (rn_X5_readAct_0_72 ?_)
      cases hal : (al && (jd n tx p 5).2.2.isNone) with
      | false => exact ⟨fun _ => fin0 _ F T5 hal, fun e => absurd rfl e⟩
      | true =>
        refine ⟨fun e => absurd e (by decide), fun _ => ?_⟩
        have g5 := ((B 5).2 (G5 hal)).2.2.2
        rw [e2 (g5 1 (by decide))]
        have ej : je n tx p s = jo_drop s (nI (jd n tx p 1).1) := by
          unfold je
          rw [if_neg (show ¬ (jd n tx p 0).1 = 0 by rw [hk]; decide), if_pos hk]
        have fin := fin1 M2
        rw [ej] at fin
        exact cl_w (ct_drop (S1 _ F) (by omega) (fun M9 f9 h9 => ⟨_, rfl, rg_X5_readAct_0_83 (fin M9 F T5 hal f9 h9)⟩))
    · rw [hk]
      have d1 : jd n tx p 1 = jq_d 2 n tx (jd n tx p 0).2 := by
        show jd_r (jq_l jl_a n tx p).1 0 n tx (jd n tx p 0).2 = _
        rw [show (jq_l jl_a n tx p).1 = 2 from hk]
        rfl
      have d2 : jd n tx p 2 = jq_d 3 n tx (jd n tx p 1).2 := by
        show jd_r (jq_l jl_a n tx p).1 1 n tx (jd n tx p 1).2 = _
        rw [show (jq_l jl_a n tx p).1 = 2 from hk]
        rfl
      have d3 : jd n tx p 3 = jq_d 3 n tx (jd n tx p 2).2 := by
        show jd_r (jq_l jl_a n tx p).1 2 n tx (jd n tx p 2).2 = _
        rw [show (jq_l jl_a n tx p).1 = 2 from hk]
        rfl
      have d4 : jd n tx p 4 = (0, (jd n tx p 3).2) := by
        show jd_r (jq_l jl_a n tx p).1 3 n tx (jd n tx p 3).2 = _
        rw [show (jq_l jl_a n tx p).1 = 2 from hk]
        rfl
      have d5 : jd n tx p 5 = (0, (jd n tx p 4).2) := by
        show jd_r (jq_l jl_a n tx p).1 4 n tx (jd n tx p 4).2 = _
        rw [show (jq_l jl_a n tx p).1 = 2 from hk]
        rfl
      have E5 : (jd n tx p 5).2 = (jd n tx p 3).2 := by rw [d5, d4]
      refine ⟨fun e => absurd e (by decide), fun _ => ⟨fun e => absurd e (by decide), fun _ => ⟨fun _ => ?_, fun e => absurd rfl e⟩⟩⟩
      refine cl_w (rg_X5_readLasting_0_0 ?_)
      refine cl_w (ct_digits (m := 2) (by decide) h1 (B 0).1 (fun M2 r2 f2 h2 e2 => ⟨_, rfl, rg_X5_readLasting_0_8 ?_⟩))
      rw [← d1] at h2 e2
      refine cl_w (ct_digits (m := 3) (by decide) h2 (B 1).1 (fun M3 r3 f3 h3 e3 => ⟨_, rfl, rg_X5_readLasting_0_17 ?_⟩))
      rw [← d2] at h3 e3
      refine cl_w (ct_digits (m := 3) (by decide) h3 (B 2).1 (fun M4 r4 f4 h4 e4 => ⟨_, rfl, rg_X5_readLasting_0_26 ?_⟩))
      rw [← d3] at h4 e4
      have F : ∀ q, q ≠ 1 → M4 q = M q := fun q hq => by rw [f4 q hq, f3 q hq, f2 q hq, f1 q hq]
      have T5 : jtC M4 n tx (jd n tx p 5).2 := by rw [E5]; exact h4
      refine cl_i (fun _ h => ct_mayDo (al := al) T5 (B 5).1 h) (rn_X5_readLasting_0_33 ?_)
      cases hal : (al && (jd n tx p 5).2.2.isNone) with
      | false => exact ⟨fun _ => ⟨_, rfl, rg_X5_readAct_0_93 (fin0 _ F T5 hal)⟩, fun e => absurd rfl e⟩
      | true =>
        refine ⟨fun e => absurd e (by decide), fun _ => ?_⟩
        have g5 := ((B 5).2 (G5 hal)).2.2.2
        rw [e2 (g5 1 (by decide)), e3 (g5 2 (by decide)), e4 (g5 3 (by decide))]
        have ej : je n tx p s = jo_str s (nI (jd n tx p 1).1) (nI (jd n tx p 2).1) (nI (jd n tx p 3).1) := by
          unfold je
          rw [if_neg (show ¬ (jd n tx p 0).1 = 0 by rw [hk]; decide), if_neg (show ¬ (jd n tx p 0).1 = 1 by rw [hk]; decide), if_pos hk]
        have fin := fin1 M4
        rw [ej] at fin
        exact cl_w (ct_stretch (S1 _ F) hn (fun M9 f9 h9 => ⟨_, rfl, rg_X5_readLasting_0_47 (⟨_, rfl, rg_X5_readAct_0_93 (fin M9 F T5 hal f9 h9)⟩)⟩))
    · rw [hk]
      have d1 : jd n tx p 1 = jq_l jl_c n tx (jd n tx p 0).2 := by
        show jd_r (jq_l jl_a n tx p).1 0 n tx (jd n tx p 0).2 = _
        rw [show (jq_l jl_a n tx p).1 = 3 from hk]
        rfl
      have d2 : jd n tx p 2 = jq_l jl_w n tx (jd n tx p 1).2 := by
        show jd_r (jq_l jl_a n tx p).1 1 n tx (jd n tx p 1).2 = _
        rw [show (jq_l jl_a n tx p).1 = 3 from hk]
        rfl
      have d3 : jd n tx p 3 = jq_d 3 n tx (jd n tx p 2).2 := by
        show jd_r (jq_l jl_a n tx p).1 2 n tx (jd n tx p 2).2 = _
        rw [show (jq_l jl_a n tx p).1 = 3 from hk]
        rfl
      have d4 : jd n tx p 4 = (0, (jd n tx p 3).2) := by
        show jd_r (jq_l jl_a n tx p).1 3 n tx (jd n tx p 3).2 = _
        rw [show (jq_l jl_a n tx p).1 = 3 from hk]
        rfl
      have d5 : jd n tx p 5 = (0, (jd n tx p 4).2) := by
        show jd_r (jq_l jl_a n tx p).1 4 n tx (jd n tx p 4).2 = _
        rw [show (jq_l jl_a n tx p).1 = 3 from hk]
        rfl
      have E5 : (jd n tx p 5).2 = (jd n tx p 3).2 := by rw [d5, d4]
      refine ⟨fun e => absurd e (by decide), fun _ => ⟨fun e => absurd e (by decide), fun _ => ⟨fun e => absurd e (by decide), fun _ => ⟨fun _ => ?_, fun e => absurd rfl e⟩⟩⟩⟩
      refine cl_w (rg_X5_readBecoming_0_0 ?_)
      refine cl_w (ct_letter_c h1 (B 0).1 (fun M2 r2 f2 h2 e2 _ => ⟨_, rfl, rg_X5_readBecoming_0_9 ?_⟩))
      rw [← d1] at h2 e2
      refine cl_w (ct_letter_w h2 (B 1).1 (fun M3 r3 f3 h3 e3 _ => ⟨_, rfl, rg_X5_readBecoming_0_20 ?_⟩))
      rw [← d2] at h3 e3
      refine cl_w (ct_digits (m := 3) (by decide) h3 (B 2).1 (fun M4 r4 f4 h4 e4 => ⟨_, rfl, rg_X5_readBecoming_0_29 ?_⟩))
      rw [← d3] at h4 e4
      have F : ∀ q, q ≠ 1 → M4 q = M q := fun q hq => by rw [f4 q hq, f3 q hq, f2 q hq, f1 q hq]
      have T5 : jtC M4 n tx (jd n tx p 5).2 := by rw [E5]; exact h4
      refine cl_i (fun _ h => ct_mayDo (al := al) T5 (B 5).1 h) (rn_X5_readBecoming_0_36 ?_)
      cases hal : (al && (jd n tx p 5).2.2.isNone) with
      | false => exact ⟨fun _ => ⟨_, rfl, rg_X5_readAct_0_99 (fin0 _ F T5 hal)⟩, fun e => absurd rfl e⟩
      | true =>
        refine ⟨fun e => absurd e (by decide), fun _ => ?_⟩
        have g5 := ((B 5).2 (G5 hal)).2.2.2
        rw [e2 (g5 1 (by decide)), e3 (g5 2 (by decide)), e4 (g5 3 (by decide))]
        have ej : je n tx p s = jo_law s (nI (jd n tx p 1).1) (nI (jd n tx p 2).1) (nI (jd n tx p 3).1) := by
          unfold je
          rw [if_neg (show ¬ (jd n tx p 0).1 = 0 by rw [hk]; decide), if_neg (show ¬ (jd n tx p 0).1 = 1 by rw [hk]; decide), if_neg (show ¬ (jd n tx p 0).1 = 2 by rw [hk]; decide), if_pos hk]
        have fin := fin1 M4
        rw [ej] at fin
        exact cl_w (ct_amend (S1 _ F) (fun M9 f9 h9 => ⟨_, rfl, rg_X5_readBecoming_0_50 (⟨_, rfl, rg_X5_readAct_0_99 (fin M9 F T5 hal f9 h9)⟩)⟩))
    · rw [hk]
      have d1 : jd n tx p 1 = jq_d 2 n tx (jd n tx p 0).2 := by
        show jd_r (jq_l jl_a n tx p).1 0 n tx (jd n tx p 0).2 = _
        rw [show (jq_l jl_a n tx p).1 = 4 from hk]
        rfl
      have d2 : jd n tx p 2 = (0, (jd n tx p 1).2) := by
        show jd_r (jq_l jl_a n tx p).1 1 n tx (jd n tx p 1).2 = _
        rw [show (jq_l jl_a n tx p).1 = 4 from hk]
        rfl
      have d3 : jd n tx p 3 = (0, (jd n tx p 2).2) := by
        show jd_r (jq_l jl_a n tx p).1 2 n tx (jd n tx p 2).2 = _
        rw [show (jq_l jl_a n tx p).1 = 4 from hk]
        rfl
      have d4 : jd n tx p 4 = (0, (jd n tx p 3).2) := by
        show jd_r (jq_l jl_a n tx p).1 3 n tx (jd n tx p 3).2 = _
        rw [show (jq_l jl_a n tx p).1 = 4 from hk]
        rfl
      have d5 : jd n tx p 5 = (0, (jd n tx p 4).2) := by
        show jd_r (jq_l jl_a n tx p).1 4 n tx (jd n tx p 4).2 = _
        rw [show (jq_l jl_a n tx p).1 = 4 from hk]
        rfl
      have E5 : (jd n tx p 5).2 = (jd n tx p 1).2 := by rw [d5, d4, d3, d2]
      refine ⟨fun e => absurd e (by decide), fun _ => ⟨fun e => absurd e (by decide), fun _ => ⟨fun e => absurd e (by decide), fun _ => ⟨fun e => absurd e (by decide), fun _ => ⟨fun _ => ?_, fun e => absurd rfl e⟩⟩⟩⟩⟩
      refine cl_w (ct_digits (m := 2) (by decide) h1 (B 0).1 (fun M2 r2 f2 h2 e2 => ⟨_, rfl, rg_X5_readAct_0_108 ?_⟩))
      rw [← d1] at h2 e2
      have F : ∀ q, q ≠ 1 → M2 q = M q := fun q hq => by rw [f2 q hq, f1 q hq]
      have T5 : jtC M2 n tx (jd n tx p 5).2 := by rw [E5]; exact h2
      refine cl_i (fun _ h => ct_mayDo (al := al) T5 (B 5).1 h) (rn_X5_readAct_0_114 ?_)
      cases hal : (al && (jd n tx p 5).2.2.isNone) with
      | false => exact ⟨fun _ => fin0 _ F T5 hal, fun e => absurd rfl e⟩
      | true =>
        refine ⟨fun e => absurd e (by decide), fun _ => ?_⟩
        have g5 := ((B 5).2 (G5 hal)).2.2.2
        rw [e2 (g5 1 (by decide))]
        have ej : je n tx p s = jo_set s 0 (nI (jd n tx p 1).1) := by
          unfold je
          rw [if_neg (show ¬ (jd n tx p 0).1 = 0 by rw [hk]; decide), if_neg (show ¬ (jd n tx p 0).1 = 1 by rw [hk]; decide), if_neg (show ¬ (jd n tx p 0).1 = 2 by rw [hk]; decide), if_neg (show ¬ (jd n tx p 0).1 = 3 by rw [hk]; decide), if_pos hk]
        have fin := fin1 M2
        rw [ej] at fin
        exact cl_w (ct_adjust (S1 _ F) (fun M9 f9 h9 => ⟨_, rfl, rg_X5_readAct_0_126 (fin M9 F T5 hal f9 h9)⟩))
    · rw [hk]
      have d1 : jd n tx p 1 = jq_d 2 n tx (jd n tx p 0).2 := by
        show jd_r (jq_l jl_a n tx p).1 0 n tx (jd n tx p 0).2 = _
        rw [show (jq_l jl_a n tx p).1 = 5 from hk]
        rfl
      have d2 : jd n tx p 2 = (0, (jd n tx p 1).2) := by
        show jd_r (jq_l jl_a n tx p).1 1 n tx (jd n tx p 1).2 = _
        rw [show (jq_l jl_a n tx p).1 = 5 from hk]
        rfl
      have d3 : jd n tx p 3 = (0, (jd n tx p 2).2) := by
        show jd_r (jq_l jl_a n tx p).1 2 n tx (jd n tx p 2).2 = _
        rw [show (jq_l jl_a n tx p).1 = 5 from hk]
        rfl
      have d4 : jd n tx p 4 = (0, (jd n tx p 3).2) := by
        show jd_r (jq_l jl_a n tx p).1 3 n tx (jd n tx p 3).2 = _
        rw [show (jq_l jl_a n tx p).1 = 5 from hk]
        rfl
      have d5 : jd n tx p 5 = (0, (jd n tx p 4).2) := by
        show jd_r (jq_l jl_a n tx p).1 4 n tx (jd n tx p 4).2 = _
        rw [show (jq_l jl_a n tx p).1 = 5 from hk]
        rfl
      have E5 : (jd n tx p 5).2 = (jd n tx p 1).2 := by rw [d5, d4, d3, d2]
      refine ⟨fun e => absurd e (by decide), fun _ => ⟨fun e => absurd e (by decide), fun _ => ⟨fun e => absurd e (by decide), fun _ => ⟨fun e => absurd e (by decide), fun _ => ⟨fun e => absurd e (by decide), fun _ => ⟨fun _ => ?_, fun e => absurd rfl e⟩⟩⟩⟩⟩⟩
      refine cl_w (ct_digits (m := 2) (by decide) h1 (B 0).1 (fun M2 r2 f2 h2 e2 => ⟨_, rfl, rg_X5_readAct_0_139 ?_⟩))
      rw [← d1] at h2 e2
      have F : ∀ q, q ≠ 1 → M2 q = M q := fun q hq => by rw [f2 q hq, f1 q hq]
      have T5 : jtC M2 n tx (jd n tx p 5).2 := by rw [E5]; exact h2
      refine cl_i (fun _ h => ct_mayDo (al := al) T5 (B 5).1 h) (rn_X5_readAct_0_145 ?_)
      cases hal : (al && (jd n tx p 5).2.2.isNone) with
      | false => exact ⟨fun _ => fin0 _ F T5 hal, fun e => absurd rfl e⟩
      | true =>
        refine ⟨fun e => absurd e (by decide), fun _ => ?_⟩
        have g5 := ((B 5).2 (G5 hal)).2.2.2
        rw [e2 (g5 1 (by decide))]
        have ej : je n tx p s = jo_set s 1 (nI (jd n tx p 1).1) := by
          unfold je
          rw [if_neg (show ¬ (jd n tx p 0).1 = 0 by rw [hk]; decide), if_neg (show ¬ (jd n tx p 0).1 = 1 by rw [hk]; decide), if_neg (show ¬ (jd n tx p 0).1 = 2 by rw [hk]; decide), if_neg (show ¬ (jd n tx p 0).1 = 3 by rw [hk]; decide), if_neg (show ¬ (jd n tx p 0).1 = 4 by rw [hk]; decide), if_pos hk]
        have fin := fin1 M2
        rw [ej] at fin
        exact cl_w (ct_adjust (S1 _ F) (fun M9 f9 h9 => ⟨_, rfl, rg_X5_readAct_0_157 (fin M9 F T5 hal f9 h9)⟩))
    · rw [hk]
      have d1 : jd n tx p 1 = jq_d 2 n tx (jd n tx p 0).2 := by
        show jd_r (jq_l jl_a n tx p).1 0 n tx (jd n tx p 0).2 = _
        rw [show (jq_l jl_a n tx p).1 = 6 from hk]
        rfl
      have d2 : jd n tx p 2 = jq_d 3 n tx (jd n tx p 1).2 := by
        show jd_r (jq_l jl_a n tx p).1 1 n tx (jd n tx p 1).2 = _
        rw [show (jq_l jl_a n tx p).1 = 6 from hk]
        rfl
      have d3 : jd n tx p 3 = (0, (jd n tx p 2).2) := by
        show jd_r (jq_l jl_a n tx p).1 2 n tx (jd n tx p 2).2 = _
        rw [show (jq_l jl_a n tx p).1 = 6 from hk]
        rfl
      have d4 : jd n tx p 4 = (0, (jd n tx p 3).2) := by
        show jd_r (jq_l jl_a n tx p).1 3 n tx (jd n tx p 3).2 = _
        rw [show (jq_l jl_a n tx p).1 = 6 from hk]
        rfl
      have d5 : jd n tx p 5 = (0, (jd n tx p 4).2) := by
        show jd_r (jq_l jl_a n tx p).1 4 n tx (jd n tx p 4).2 = _
        rw [show (jq_l jl_a n tx p).1 = 6 from hk]
        rfl
      have E5 : (jd n tx p 5).2 = (jd n tx p 2).2 := by rw [d5, d4, d3]
      refine ⟨fun e => absurd e (by decide), fun _ => ⟨fun e => absurd e (by decide), fun _ => ⟨fun e => absurd e (by decide), fun _ => ⟨fun e => absurd e (by decide), fun _ => ⟨fun e => absurd e (by decide), fun _ => ⟨fun e => absurd e (by decide), fun _ => ⟨fun _ => ?_, fun e => absurd rfl e⟩⟩⟩⟩⟩⟩⟩
      refine cl_w (ct_digits (m := 2) (by decide) h1 (B 0).1 (fun M2 r2 f2 h2 e2 => ⟨_, rfl, rg_X5_readAct_0_170 ?_⟩))
      rw [← d1] at h2 e2
      refine cl_w (ct_digits (m := 3) (by decide) h2 (B 1).1 (fun M3 r3 f3 h3 e3 => ⟨_, rfl, rg_X5_readAct_0_179 ?_⟩))
      rw [← d2] at h3 e3
      have F : ∀ q, q ≠ 1 → M3 q = M q := fun q hq => by rw [f3 q hq, f2 q hq, f1 q hq]
      have T5 : jtC M3 n tx (jd n tx p 5).2 := by rw [E5]; exact h3
      refine cl_i (fun _ h => ct_mayDo (al := al) T5 (B 5).1 h) (rn_X5_readAct_0_185 ?_)
      cases hal : (al && (jd n tx p 5).2.2.isNone) with
      | false => exact ⟨fun _ => fin0 _ F T5 hal, fun e => absurd rfl e⟩
      | true =>
        refine ⟨fun e => absurd e (by decide), fun _ => ?_⟩
        have g5 := ((B 5).2 (G5 hal)).2.2.2
        rw [e2 (g5 1 (by decide)), e3 (g5 2 (by decide))]
        have ej : je n tx p s = jo_ix s (nI (jd n tx p 1).1) (nI (jd n tx p 2).1) := by
          unfold je
          rw [if_neg (show ¬ (jd n tx p 0).1 = 0 by rw [hk]; decide), if_neg (show ¬ (jd n tx p 0).1 = 1 by rw [hk]; decide), if_neg (show ¬ (jd n tx p 0).1 = 2 by rw [hk]; decide), if_neg (show ¬ (jd n tx p 0).1 = 3 by rw [hk]; decide), if_neg (show ¬ (jd n tx p 0).1 = 4 by rw [hk]; decide), if_neg (show ¬ (jd n tx p 0).1 = 5 by rw [hk]; decide)]
        have fin := fin1 M3
        rw [ej] at fin
        exact cl_w (ct_putIndex (S1 _ F) (fun M9 f9 h9 => ⟨_, rfl, rg_X5_readAct_0_197 (fin M9 F T5 hal f9 h9)⟩))
  · rw [n1 hg]
    refine ⟨fun e => absurd e (by decide), fun _ => ⟨fun e => absurd e (by decide), fun _ => ⟨fun e => absurd e (by decide), fun _ => ⟨fun e => absurd e (by decide), fun _ => ⟨fun e => absurd e (by decide), fun _ => ⟨fun e => absurd e (by decide), fun _ => ⟨fun e => absurd e (by decide), fun _ => ?_⟩⟩⟩⟩⟩⟩⟩
    refine fin0 M1 f1 (by rw [jd_x hg 5]; exact h1) ?_
    rw [jd_x hg 5]
    cases h : (jd n tx p 0).2.2 with
    | none => exact absurd h hg
    | some e => exact Bool.and_false _
end Day
