/-! ===== letters and digits (written by wip/gen/gen_prim.py) ===== -/
def jq_f (p : Nat × Option Nat) (e : Nat) : Nat × Option Nat := match p.2 with
  | none => (p.1, some e)
  | some _ => p
section Prim
variable {X : Nat × (Nat → Int32)} {M : Nat → Nat → Int32} {L : Nat → Nat → Int64} {G : Nat → Nat → Option Nat} {Q : am_Q} {n : Nat} {tx : Nat → Nat} {p : Nat × Option Nat}
theorem ct_isGood (hT : jtC M n tx p) (hb : jtb n tx p) (hQ : Q (some (some (.int (jb p.2.isNone)))) (jm_s M L G)) : am_T X 47 0 [some (.ref 1)] [] (jm_s M L G) (0, 0) Q := by
  refine rn_X4_isGood_1_0 ?_
  rw [hT.2.2.1, jf_1 hb]
  refine ⟨fun h => ?_, fun h => ?_⟩
  · rw [h] at hQ
    exact hQ
  · cases hp : p.2 with
    | none => exact absurd hp h
    | some e =>
      rw [hp] at hQ
      exact hQ
theorem ct_goesOn (hT : jtC M n tx p) (hb : jtb n tx p) (hQ : Q (some (some (.int (jb (p.2.isNone && decide (p.1 < n)))))) (jm_s M L G)) : am_T X 48 0 [some (.ref 1)] [] (jm_s M L G) (0, 0) Q := by
  refine rg_X4_goesOn_1_0 (cl_i (fun _ h => ct_isGood hT hb h) (rn_X4_goesOn_1_4 ?_))
  have b1 := hb.1
  have b2 := hb.2.1
  cases hp : p.2 with
  | none =>
    rw [hp] at hQ
    rw [hT.1, hT.2.1, nI_le_iff (by omega) (by omega)]
    refine ⟨fun e => absurd e (by decide), fun _ => ⟨fun h => ?_, fun h => ?_⟩⟩
    · rw [decide_eq_false (by omega : ¬ p.1 < n)] at hQ
      exact hQ
    · rw [decide_eq_true (by omega : p.1 < n)] at hQ
      exact hQ
  | some e =>
    rw [hp] at hQ
    exact ⟨fun _ => hQ, fun e => absurd rfl e⟩
theorem jtC_f {M' : Nat → Nat → Int32} (hT : jtC M n tx p) (h1 : M' 1 = M 1) (h2 : M' 2 = M 2) : jtC M' n tx p := by
  unfold jtC at *
  rw [h1, h2]
  exact hT
theorem ct_fail (hT : jtC M n tx p) (hb : jtb n tx p) {e : Nat} (hQ : ∀ M', (∀ q, q ≠ 1 → M' q = M q) → jtC M' n tx (jq_f p e) → Q (some none) (jm_s M' L G)) : am_T X 49 0 [some (.ref 1), some (.int (nI e))] [] (jm_s M L G) (0, 0) Q := by
  refine rg_X4_fail_1_0 (cl_i (fun _ h => ct_isGood hT hb h) (rn_X4_fail_1_4 ?_))
  unfold jq_f at hQ
  cases hp : p.2 with
  | none =>
    rw [hp] at hQ
    refine ⟨fun e => absurd e (by decide), fun _ => hQ _ (fun q hq => wi_m_p _ _ hq) ⟨hT.1, hT.2.1, wi_m_i _ _ _ _, hT.2.2.2⟩⟩
  | some e' =>
    rw [hp] at hQ
    exact ⟨fun _ => hQ M (fun _ _ => rfl) hT, fun e => absurd rfl e⟩
theorem ct_letter_c (hT : jtC M n tx p) (hb : jtb n tx p) (hQ : ∀ M' r, (∀ q, q ≠ 1 → M' q = M q) → jtC M' n tx (jq_l jl_c n tx p).2 → ((jq_l jl_c n tx p).2.2 = none → r = nI (jq_l jl_c n tx p).1) → ((jq_l jl_c n tx p).2.2 ≠ none → r = -1) → Q (some (some (.int r))) (jm_s M' L G)) : am_T X 52 0 [some (.ref 1), some (.ref 1010), none] [] (jm_s M L G) (0, 0) Q := by
  have b1 := hb.1
  have b2 := hb.2.1
  have nofound : (jq_l jl_c n tx p).2 = jq_f p p.1 → (jq_l jl_c n tx p).2.2 ≠ none → ∃ K : am_S → Prop, am_T X 49 0 [some (.ref 1), some (.int (M 1 2))] [] (jm_s M L G) (0, 0) (am_qv K) ∧ ∀ σ', K σ' → am_T X 52 37 [none, none, none] [] σ' (0, 0) Q := by
    intro he hne
    rw [hT.2.1]
    refine cl_v (ct_fail hT hb (fun M' f h => ⟨rfl, rg_X4_letter_1_1010_37 (hQ M' (-1) f ?_ (fun q => absurd q hne) (fun _ => rfl))⟩))
    rw [he]
    exact h
  have hm1 : ¬ 0 ≤ ((-1) : Int32) := by decide
  refine rg_X4_letter_1_1010_0 (cl_i (fun _ h => ct_goesOn hT hb h) (rn_X4_letter_1_1010_4 ?_))
  cases hp : p.2 with
  | some e =>
    have e1 : jq_l jl_c n tx p = (0, p.1, some e) := by
      unfold jq_l
      rw [hp]
    have e2 : jq_f p p.1 = (p.1, some e) := by
      unfold jq_f
      rw [hp]
      show p = (p.1, some e)
      rw [← hp]
    refine ⟨fun _ => ⟨fun h => absurd h hm1, fun _ => nofound ?_ ?_⟩, fun e => absurd rfl e⟩
    · rw [e1, e2]
    · rw [e1]
      simp
  | none =>
    by_cases hk : p.1 < n
    · rw [decide_eq_true hk]
      have hc := hb.2.2.1 p.1 hk
      refine ⟨fun e => absurd e (by decide), fun _ => ?_⟩
      rw [hT.2.1, nI_clamp (show p.1 < 2147483648 by omega), hT.2.2.2 p.1 hk]
      refine ⟨vp_in_nI (by omega) (by decide), cl_i (fun _ h => ct_indexOf_1010 hc h) (rn_X4_letter_1_1010_20 ?_)⟩
      have hl := (jl_lt (tx p.1) hc).1
      cases hj : jl_c (tx p.1) with
      | some k =>
        have e1 : jq_l jl_c n tx p = (k, p.1 + 1, none) := by
          unfold jq_l
          rw [hp]
          simp only [if_pos hk, hj]
        have hk5 := hl k hj
        rw [e1] at hQ
        refine ⟨fun _ => ?_, fun e => absurd (nI_pos' (by omega)) e⟩
        refine hQ _ _ (fun q hq => wi_m_p _ _ hq) ⟨hT.1, ?_, ?_, hT.2.2.2⟩ (fun _ => rfl) (fun q => absurd rfl q)
        · rw [wi_m_i, hT.2.1, nI_1]
        · show M 1 3 = _
          rw [hT.2.2.1, hp]
      | none =>
        have e1 : jq_l jl_c n tx p = (0, p.1, some p.1) := by
          unfold jq_l
          rw [hp]
          simp only [if_pos hk, hj]
        refine ⟨fun h => absurd h hm1, fun _ => nofound ?_ ?_⟩
        · rw [e1]
          unfold jq_f
          rw [hp]
        · rw [e1]
          simp
    · rw [decide_eq_false hk]
      have e1 : jq_l jl_c n tx p = (0, p.1, some p.1) := by
        unfold jq_l
        rw [hp]
        simp only [if_neg hk]
      refine ⟨fun _ => ⟨fun h => absurd h hm1, fun _ => nofound ?_ ?_⟩, fun e => absurd rfl e⟩
      · rw [e1]
        unfold jq_f
        rw [hp]
      · rw [e1]
        simp
theorem ct_letter_k (hT : jtC M n tx p) (hb : jtb n tx p) (hQ : ∀ M' r, (∀ q, q ≠ 1 → M' q = M q) → jtC M' n tx (jq_l jl_k n tx p).2 → ((jq_l jl_k n tx p).2.2 = none → r = nI (jq_l jl_k n tx p).1) → ((jq_l jl_k n tx p).2.2 ≠ none → r = -1) → Q (some (some (.int r))) (jm_s M' L G)) : am_T X 52 0 [some (.ref 1), some (.ref 1011), none] [] (jm_s M L G) (0, 0) Q := by
  have b1 := hb.1
  have b2 := hb.2.1
  have nofound : (jq_l jl_k n tx p).2 = jq_f p p.1 → (jq_l jl_k n tx p).2.2 ≠ none → ∃ K : am_S → Prop, am_T X 49 0 [some (.ref 1), some (.int (M 1 2))] [] (jm_s M L G) (0, 0) (am_qv K) ∧ ∀ σ', K σ' → am_T X 52 37 [none, none, none] [] σ' (0, 0) Q := by
    intro he hne
    rw [hT.2.1]
    refine cl_v (ct_fail hT hb (fun M' f h => ⟨rfl, rg_X4_letter_1_1011_37 (hQ M' (-1) f ?_ (fun q => absurd q hne) (fun _ => rfl))⟩))
    rw [he]
    exact h
  have hm1 : ¬ 0 ≤ ((-1) : Int32) := by decide
  refine rg_X4_letter_1_1011_0 (cl_i (fun _ h => ct_goesOn hT hb h) (rn_X4_letter_1_1011_4 ?_))
  cases hp : p.2 with
  | some e =>
    have e1 : jq_l jl_k n tx p = (0, p.1, some e) := by
      unfold jq_l
      rw [hp]
    have e2 : jq_f p p.1 = (p.1, some e) := by
      unfold jq_f
      rw [hp]
      show p = (p.1, some e)
      rw [← hp]
    refine ⟨fun _ => ⟨fun h => absurd h hm1, fun _ => nofound ?_ ?_⟩, fun e => absurd rfl e⟩
    · rw [e1, e2]
    · rw [e1]
      simp
  | none =>
    by_cases hk : p.1 < n
    · rw [decide_eq_true hk]
      have hc := hb.2.2.1 p.1 hk
      refine ⟨fun e => absurd e (by decide), fun _ => ?_⟩
      rw [hT.2.1, nI_clamp (show p.1 < 2147483648 by omega), hT.2.2.2 p.1 hk]
      refine ⟨vp_in_nI (by omega) (by decide), cl_i (fun _ h => ct_indexOf_1011 hc h) (rn_X4_letter_1_1011_20 ?_)⟩
      have hl := (jl_lt (tx p.1) hc).2.1
      cases hj : jl_k (tx p.1) with
      | some k =>
        have e1 : jq_l jl_k n tx p = (k, p.1 + 1, none) := by
          unfold jq_l
          rw [hp]
          simp only [if_pos hk, hj]
        have hk5 := hl k hj
        rw [e1] at hQ
        refine ⟨fun _ => ?_, fun e => absurd (nI_pos' (by omega)) e⟩
        refine hQ _ _ (fun q hq => wi_m_p _ _ hq) ⟨hT.1, ?_, ?_, hT.2.2.2⟩ (fun _ => rfl) (fun q => absurd rfl q)
        · rw [wi_m_i, hT.2.1, nI_1]
        · show M 1 3 = _
          rw [hT.2.2.1, hp]
      | none =>
        have e1 : jq_l jl_k n tx p = (0, p.1, some p.1) := by
          unfold jq_l
          rw [hp]
          simp only [if_pos hk, hj]
        refine ⟨fun h => absurd h hm1, fun _ => nofound ?_ ?_⟩
        · rw [e1]
          unfold jq_f
          rw [hp]
        · rw [e1]
          simp
    · rw [decide_eq_false hk]
      have e1 : jq_l jl_k n tx p = (0, p.1, some p.1) := by
        unfold jq_l
        rw [hp]
        simp only [if_neg hk]
      refine ⟨fun _ => ⟨fun h => absurd h hm1, fun _ => nofound ?_ ?_⟩, fun e => absurd rfl e⟩
      · rw [e1]
        unfold jq_f
        rw [hp]
      · rw [e1]
        simp
theorem ct_letter_a (hT : jtC M n tx p) (hb : jtb n tx p) (hQ : ∀ M' r, (∀ q, q ≠ 1 → M' q = M q) → jtC M' n tx (jq_l jl_a n tx p).2 → ((jq_l jl_a n tx p).2.2 = none → r = nI (jq_l jl_a n tx p).1) → ((jq_l jl_a n tx p).2.2 ≠ none → r = -1) → Q (some (some (.int r))) (jm_s M' L G)) : am_T X 52 0 [some (.ref 1), some (.ref 1012), none] [] (jm_s M L G) (0, 0) Q := by
  have b1 := hb.1
  have b2 := hb.2.1
  have nofound : (jq_l jl_a n tx p).2 = jq_f p p.1 → (jq_l jl_a n tx p).2.2 ≠ none → ∃ K : am_S → Prop, am_T X 49 0 [some (.ref 1), some (.int (M 1 2))] [] (jm_s M L G) (0, 0) (am_qv K) ∧ ∀ σ', K σ' → am_T X 52 37 [none, none, none] [] σ' (0, 0) Q := by
    intro he hne
    rw [hT.2.1]
    refine cl_v (ct_fail hT hb (fun M' f h => ⟨rfl, rg_X4_letter_1_1012_37 (hQ M' (-1) f ?_ (fun q => absurd q hne) (fun _ => rfl))⟩))
    rw [he]
    exact h
  have hm1 : ¬ 0 ≤ ((-1) : Int32) := by decide
  refine rg_X4_letter_1_1012_0 (cl_i (fun _ h => ct_goesOn hT hb h) (rn_X4_letter_1_1012_4 ?_))
  cases hp : p.2 with
  | some e =>
    have e1 : jq_l jl_a n tx p = (0, p.1, some e) := by
      unfold jq_l
      rw [hp]
    have e2 : jq_f p p.1 = (p.1, some e) := by
      unfold jq_f
      rw [hp]
      show p = (p.1, some e)
      rw [← hp]
    refine ⟨fun _ => ⟨fun h => absurd h hm1, fun _ => nofound ?_ ?_⟩, fun e => absurd rfl e⟩
    · rw [e1, e2]
    · rw [e1]
      simp
  | none =>
    by_cases hk : p.1 < n
    · rw [decide_eq_true hk]
      have hc := hb.2.2.1 p.1 hk
      refine ⟨fun e => absurd e (by decide), fun _ => ?_⟩
      rw [hT.2.1, nI_clamp (show p.1 < 2147483648 by omega), hT.2.2.2 p.1 hk]
      refine ⟨vp_in_nI (by omega) (by decide), cl_i (fun _ h => ct_indexOf_1012 hc h) (rn_X4_letter_1_1012_20 ?_)⟩
      have hl := (jl_lt (tx p.1) hc).2.2.1
      cases hj : jl_a (tx p.1) with
      | some k =>
        have e1 : jq_l jl_a n tx p = (k, p.1 + 1, none) := by
          unfold jq_l
          rw [hp]
          simp only [if_pos hk, hj]
        have hk5 := hl k hj
        rw [e1] at hQ
        refine ⟨fun _ => ?_, fun e => absurd (nI_pos' (by omega)) e⟩
        refine hQ _ _ (fun q hq => wi_m_p _ _ hq) ⟨hT.1, ?_, ?_, hT.2.2.2⟩ (fun _ => rfl) (fun q => absurd rfl q)
        · rw [wi_m_i, hT.2.1, nI_1]
        · show M 1 3 = _
          rw [hT.2.2.1, hp]
      | none =>
        have e1 : jq_l jl_a n tx p = (0, p.1, some p.1) := by
          unfold jq_l
          rw [hp]
          simp only [if_pos hk, hj]
        refine ⟨fun h => absurd h hm1, fun _ => nofound ?_ ?_⟩
        · rw [e1]
          unfold jq_f
          rw [hp]
        · rw [e1]
          simp
    · rw [decide_eq_false hk]
      have e1 : jq_l jl_a n tx p = (0, p.1, some p.1) := by
        unfold jq_l
        rw [hp]
        simp only [if_neg hk]
      refine ⟨fun _ => ⟨fun h => absurd h hm1, fun _ => nofound ?_ ?_⟩, fun e => absurd rfl e⟩
      · rw [e1]
        unfold jq_f
        rw [hp]
      · rw [e1]
        simp
theorem ct_letter_w (hT : jtC M n tx p) (hb : jtb n tx p) (hQ : ∀ M' r, (∀ q, q ≠ 1 → M' q = M q) → jtC M' n tx (jq_l jl_w n tx p).2 → ((jq_l jl_w n tx p).2.2 = none → r = nI (jq_l jl_w n tx p).1) → ((jq_l jl_w n tx p).2.2 ≠ none → r = -1) → Q (some (some (.int r))) (jm_s M' L G)) : am_T X 52 0 [some (.ref 1), some (.ref 1013), none] [] (jm_s M L G) (0, 0) Q := by
  have b1 := hb.1
  have b2 := hb.2.1
  have nofound : (jq_l jl_w n tx p).2 = jq_f p p.1 → (jq_l jl_w n tx p).2.2 ≠ none → ∃ K : am_S → Prop, am_T X 49 0 [some (.ref 1), some (.int (M 1 2))] [] (jm_s M L G) (0, 0) (am_qv K) ∧ ∀ σ', K σ' → am_T X 52 37 [none, none, none] [] σ' (0, 0) Q := by
    intro he hne
    rw [hT.2.1]
    refine cl_v (ct_fail hT hb (fun M' f h => ⟨rfl, rg_X4_letter_1_1013_37 (hQ M' (-1) f ?_ (fun q => absurd q hne) (fun _ => rfl))⟩))
    rw [he]
    exact h
  have hm1 : ¬ 0 ≤ ((-1) : Int32) := by decide
  refine rg_X4_letter_1_1013_0 (cl_i (fun _ h => ct_goesOn hT hb h) (rn_X4_letter_1_1013_4 ?_))
  cases hp : p.2 with
  | some e =>
    have e1 : jq_l jl_w n tx p = (0, p.1, some e) := by
      unfold jq_l
      rw [hp]
    have e2 : jq_f p p.1 = (p.1, some e) := by
      unfold jq_f
      rw [hp]
      show p = (p.1, some e)
      rw [← hp]
    refine ⟨fun _ => ⟨fun h => absurd h hm1, fun _ => nofound ?_ ?_⟩, fun e => absurd rfl e⟩
    · rw [e1, e2]
    · rw [e1]
      simp
  | none =>
    by_cases hk : p.1 < n
    · rw [decide_eq_true hk]
      have hc := hb.2.2.1 p.1 hk
      refine ⟨fun e => absurd e (by decide), fun _ => ?_⟩
      rw [hT.2.1, nI_clamp (show p.1 < 2147483648 by omega), hT.2.2.2 p.1 hk]
      refine ⟨vp_in_nI (by omega) (by decide), cl_i (fun _ h => ct_indexOf_1013 hc h) (rn_X4_letter_1_1013_20 ?_)⟩
      have hl := (jl_lt (tx p.1) hc).2.2.2
      cases hj : jl_w (tx p.1) with
      | some k =>
        have e1 : jq_l jl_w n tx p = (k, p.1 + 1, none) := by
          unfold jq_l
          rw [hp]
          simp only [if_pos hk, hj]
        have hk5 := hl k hj
        rw [e1] at hQ
        refine ⟨fun _ => ?_, fun e => absurd (nI_pos' (by omega)) e⟩
        refine hQ _ _ (fun q hq => wi_m_p _ _ hq) ⟨hT.1, ?_, ?_, hT.2.2.2⟩ (fun _ => rfl) (fun q => absurd rfl q)
        · rw [wi_m_i, hT.2.1, nI_1]
        · show M 1 3 = _
          rw [hT.2.2.1, hp]
      | none =>
        have e1 : jq_l jl_w n tx p = (0, p.1, some p.1) := by
          unfold jq_l
          rw [hp]
          simp only [if_pos hk, hj]
        refine ⟨fun h => absurd h hm1, fun _ => nofound ?_ ?_⟩
        · rw [e1]
          unfold jq_f
          rw [hp]
        · rw [e1]
          simp
    · rw [decide_eq_false hk]
      have e1 : jq_l jl_w n tx p = (0, p.1, some p.1) := by
        unfold jq_l
        rw [hp]
        simp only [if_neg hk]
      refine ⟨fun _ => ⟨fun h => absurd h hm1, fun _ => nofound ?_ ?_⟩, fun e => absurd rfl e⟩
      · rw [e1]
        unfold jq_f
        rw [hp]
      · rw [e1]
        simp
theorem ct_digits {m : Nat} (hm : m ≤ 9) (hT : jtC M n tx p) (hb : jtb n tx p) (hQ : ∀ M' r, (∀ q, q ≠ 1 → M' q = M q) → jtC M' n tx (jq_d m n tx p).2 → ((jq_d m n tx p).2.2 = none → r = nI (jq_d m n tx p).1) → Q (some (some (.int r))) (jm_s M' L G)) : am_T X 53 0 [some (.ref 1), some (.int (nI m)), none, none] [] (jm_s M L G) (0, 0) Q := by
  refine rg_X4_digits_1_0 ?_
  have b1 := hb.1
  have b2 := hb.2.1
  by_cases hp : p.2 = none
  · have l : ∀ d v k i, i + d = m → k ≤ n → ∀ M1, (∀ q, q ≠ 1 → M1 q = M q) → jtC M1 n tx (k, none) → (jq_d m n tx p) = jq_d0 n tx d v k → am_T X 53 4 [some (.ref 1), some (.int (nI m)), some (.int (nI v)), some (.int (nI i))] [] (jm_s M1 L G) (0, 0) Q := by
      intro d
      induction d with
      | zero =>
        intro v k i e hk M1 f1 h1 ej
        refine rn_X4_digits_1_4 ⟨fun _ => hQ M1 _ f1 ?_ (fun _ => ?_), fun h => absurd (nI_le (show m ≤ i by omega) (by omega)) h⟩
        · rw [ej]
          exact h1
        · rw [ej]
          rfl
      | succ d ih =>
        intro v k i e hk M1 f1 h1 ej
        have hb1 : jtb n tx (k, none) := ⟨hk, b2, hb.2.2.1, fun e he => absurd he (by simp)⟩
        have bad : ¬ (k < n ∧ 48 ≤ tx k ∧ tx k ≤ 57) → ∃ K : am_S → Prop, am_T X 49 0 [some (.ref 1), some (.int (M1 1 2))] [] (jm_s M1 L G) (0, 0) (am_qv K) ∧ ∀ σ', K σ' → am_T X 53 52 [none, none, none, none] [] σ' (0, 0) Q := by
          intro hc
          have e2 : jq_d m n tx p = (0, k, some k) := by
            rw [ej, jq_d0, if_neg hc]
          rw [h1.2.1]
          refine cl_v (ct_fail h1 hb1 (fun M2 f2 h2 => ⟨rfl, rg_X4_digits_1_52 (hQ M2 _ (fun q hq => by rw [f2 q hq, f1 q hq]) ?_ (fun q => ?_))⟩))
          · rw [e2]
            exact h2
          · rw [e2] at q
            exact absurd q (by simp)
        refine rn_X4_digits_1_4 ⟨fun h => absurd h (nI_ge (show i < m by omega) (by omega)), fun _ => cl_i (fun _ h => ct_goesOn h1 hb1 h) (rn_X4_digits_1_13 ?_)⟩
        by_cases hk2 : k < n
        · have hc := hb.2.2.1 k hk2
          rw [show ((none : Option Nat).isNone && decide (k < n)) = true by rw [decide_eq_true hk2]; rfl]
          refine ⟨fun e => absurd e (by decide), fun _ => ?_⟩
          have eb := bad
          rw [h1.2.1] at eb ⊢
          rw [nI_clamp (show (k, (none : Option Nat)).1 < 2147483648 by show k < _; omega), h1.2.2.2 k hk2]
          refine ⟨vp_in_nI (show k < 80 by omega) (by decide), fun h => eb (fun q => ?_), fun h => ⟨fun h2 => ?_, fun h2 => eb (fun q => ?_)⟩⟩
          · have := (nI_lt_iff (show tx k < 2147483648 by omega) (show 48 < 2147483648 by decide)).mp h
            omega
          · have g1 : ¬ tx k < 48 := fun q => h ((nI_lt_iff (show tx k < 2147483648 by omega) (show 48 < 2147483648 by decide)).mpr q)
            have g2 := (nI_le_iff (show tx k < 2147483648 by omega) (show 57 < 2147483648 by decide)).mp h2
            have ev : nI v * 10 + (nI (tx k) - 48) = nI (10 * v + (tx k - 48)) := by
              rw [show nI v * 10 = nI (10 * v) from (pk_mul v 10).trans (congrArg nI (by omega)), show nI (tx k) - 48 = nI (tx k - 48) from pk_sub (b := 48) (by omega), nI_add]
            rw [ev, nI_1, nI_1]
            refine ih (10 * v + (tx k - 48)) (k + 1) (i + 1) (by omega) (by omega) _ (fun q hq => by rw [wi_m_p _ _ hq, f1 q hq]) ⟨h1.1, wi_m_i _ _ _ _, h1.2.2.1, h1.2.2.2⟩ ?_
            rw [ej, jq_d0, if_pos ⟨hk2, by omega, g2⟩]
          · exact h2 (nI_le q.2.2 (by decide))
        · rw [show ((none : Option Nat).isNone && decide (k < n)) = false by rw [decide_eq_false hk2]; rfl]
          exact ⟨fun _ => bad (fun q => hk2 q.1), fun e => absurd rfl e⟩
    refine l m 0 p.1 0 (Nat.zero_add m) b1 M (fun _ _ => rfl) ?_ ?_
    · rw [← hp]
      exact hT
    · unfold jq_d
      rw [hp]
  · cases hp2 : p.2 with
    | none => exact absurd hp2 hp
    | some e =>
      have e1 : jq_d m n tx p = (0, p.1, some e) := by
        unfold jq_d
        rw [hp2]
      have ep : (p.1, some e) = p := by rw [← hp2]
      have hne : ¬ (jq_d m n tx p).2.2 = none := by
        rw [e1]
        simp
      have hsame : ∀ M1, (∀ q, q ≠ 1 → M1 q = M q) → jtC M1 n tx p → jtC M1 n tx (jq_d m n tx p).2 := by
        intro M1 _ h1
        rw [e1]
        show jtC M1 n tx (p.1, some e)
        rw [ep]
        exact h1
      by_cases hm0 : m = 0
      · subst hm0
        exact rn_X4_digits_1_4 ⟨fun _ => hQ M _ (fun _ _ => rfl) (hsame M (fun _ _ => rfl) hT) (fun q => absurd q hne), fun h => absurd (Int32.le_refl 0) h⟩
      · refine rn_X4_digits_1_4 ⟨fun h => absurd h (nI_ge (a := 0) (show 0 < m by omega) (by omega)), fun _ => cl_i (fun _ h => ct_goesOn hT hb h) (rn_X4_digits_1_13 ?_)⟩
        rw [hp2]
        refine ⟨fun _ => ?_, fun e => absurd rfl e⟩
        rw [hT.2.1]
        refine cl_v (ct_fail hT hb (fun M2 f2 h2 => ⟨rfl, rg_X4_digits_1_52 (hQ M2 _ f2 (hsame M2 f2 ?_) (fun q => absurd q hne))⟩))
        unfold jq_f at h2
        rw [hp2] at h2
        exact h2
theorem ct_number {m lo hi : Nat} (hm : m ≤ 9) (hm1 : 1 ≤ m) (hhi : hi < 2147483648) (hlo : lo < 2147483648) {x2 : Int32} (hx : p.2 = none → x2 = nI lo) (hT : jtC M n tx p) (hb : jtb n tx p) (hQ : ∀ M' r, (∀ q, q ≠ 1 → M' q = M q) → jtC M' n tx (jq_n m lo hi n tx p).2 → ((jq_n m lo hi n tx p).2.2 = none → r = nI (jq_n m lo hi n tx p).1) → Q (some (some (.int r))) (jm_s M' L G)) : am_T X 54 0 [some (.ref 1), some (.int (nI m)), some (.int x2), some (.int (nI hi)), none] [] (jm_s M L G) (0, 0) Q := by
  refine rg_X4_number_1_0 (cl_w (ct_digits hm hT hb (fun M1 r f1 h1 hr => ⟨_, rfl, rn_X4_number_1_5 ?_⟩)))
  obtain ⟨c1, c2⟩ := jq_d_b (m := m) hb
  cases hd : (jq_d m n tx p).2.2 with
  | none =>
    obtain ⟨g1, g2, g3⟩ := c2 hd
    have er := hr hd
    have pw : 10 ^ m ≤ 10 ^ 9 := Nat.pow_le_pow_right (by decide) hm
    have hv : (jq_d m n tx p).1 < 2147483648 := by omega
    have bad : ¬ (lo ≤ (jq_d m n tx p).1 ∧ (jq_d m n tx p).1 ≤ hi) → ∃ K : am_S → Prop, am_T X 49 0 [some (.ref 1), some (.int (M1 1 2 - 1))] [] (jm_s M1 L G) (0, 0) (am_qv K) ∧ ∀ σ', K σ' → am_T X 54 29 [none, none, none, none, some (.int r)] [] σ' (0, 0) Q := by
      intro hc
      have e2 : jq_n m lo hi n tx p = (0, (jq_d m n tx p).2.1, some ((jq_d m n tx p).2.1 - 1)) := by
        unfold jq_n
        rw [hd]
        simp only [if_neg hc]
      rw [h1.2.1, show nI (jq_d m n tx p).2.1 - 1 = nI ((jq_d m n tx p).2.1 - 1) from pk_sub (b := 1) (by omega)]
      refine cl_v (ct_fail h1 c1 (fun M2 f2 h2 => ⟨rfl, rg_X4_number_1_29 (hQ M2 _ (fun q hq => by rw [f2 q hq, f1 q hq]) ?_ (fun q => ?_))⟩))
      · rw [e2]
        unfold jq_f at h2
        rw [hd] at h2
        exact h2
      · rw [e2] at q
        exact absurd q (by simp)
    rw [hx g1, er, nI_lt_iff hv hlo, nI_le_iff hv hhi]
    rw [er] at bad
    refine ⟨fun h => bad (fun q => by omega), fun h => ⟨fun h2 => ?_, fun h2 => bad (fun q => h2 q.2)⟩⟩
    have e2 : jq_n m lo hi n tx p = jq_d m n tx p := by
      unfold jq_n
      rw [hd]
      simp only [if_pos (show lo ≤ (jq_d m n tx p).1 ∧ (jq_d m n tx p).1 ≤ hi by omega)]
    refine rg_X4_number_1_29 (hQ M1 _ f1 ?_ (fun _ => ?_))
    · rw [e2]
      exact h1
    · rw [e2]
  | some e =>
    have e2 : jq_n m lo hi n tx p = jq_d m n tx p := by
      unfold jq_n
      rw [hd]
    have fin : ∀ M2, (∀ q, q ≠ 1 → M2 q = M q) → jtC M2 n tx (jq_d m n tx p).2 → am_T X 54 29 [none, none, none, none, some (.int r)] [] (jm_s M2 L G) (0, 0) Q := by
      intro M2 f2 h2
      refine rg_X4_number_1_29 (hQ M2 _ f2 ?_ (fun q => ?_))
      · rw [e2]
        exact h2
      · rw [e2, hd] at q
        exact absurd q (by simp)
    have bad : ∀ x : Int32, ∃ K : am_S → Prop, am_T X 49 0 [some (.ref 1), some (.int x)] [] (jm_s M1 L G) (0, 0) (am_qv K) ∧ ∀ σ', K σ' → am_T X 54 29 [none, none, none, none, some (.int r)] [] σ' (0, 0) Q := by
      intro x
      refine cl_v (rg_X4_fail_1_0 (cl_i (fun _ h => ct_isGood h1 c1 h) (rn_X4_fail_1_4 ?_)))
      rw [hd]
      exact ⟨fun _ => ⟨rfl, fin M1 f1 h1⟩, fun e => absurd rfl e⟩
    exact ⟨fun _ => bad _, fun _ => ⟨fun _ => fin M1 f1 h1, fun _ => bad _⟩⟩
end Prim
