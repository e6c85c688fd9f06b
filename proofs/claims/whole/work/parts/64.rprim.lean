/-! ===== the reference: letters and digits (written by wip/gen/gen_rprim.py) ===== -/
/-- what reading leaves alone -/
def jrf (M M' : Nat → Nat → Int32) : Prop := (∀ q, q ≠ 101 → M' q = M q) ∧ ∀ i, i ≠ 7 → i ≠ 8 → M' 101 i = M 101 i
theorem jrf_r (M : Nat → Nat → Int32) : jrf M M := ⟨fun _ _ => rfl, fun _ _ _ => rfl⟩
theorem jrf_t {M M' M'' : Nat → Nat → Int32} (h : jrf M M') (h' : jrf M' M'') : jrf M M'' := ⟨fun q hq => by rw [h'.1 q hq, h.1 q hq], fun i h1 h2 => by rw [h'.2 i h1 h2, h.2 i h1 h2]⟩
theorem jrf_w {M : Nat → Nat → Int32} {i : Nat} {v : Int32} (h : i = 7 ∨ i = 8) : jrf M (wi_m M 101 i v) := ⟨fun q hq => wi_m_p _ _ hq, fun j h1 h2 => by rw [wi_m_eq, if_pos rfl, if_neg (by omega)]⟩
section RPrim
variable {X : Nat × (Nat → Int32)} {M : Nat → Nat → Int32} {L : Nat → Nat → Int64} {G : Nat → Nat → Option Nat} {Q : am_Q} {n : Nat} {tx : Nat → Nat} {p : Nat × Option Nat}
theorem ct_fine (hT : jtR M n tx p) (hb : jtb n tx p) (hQ : Q (some (some (.int (jb p.2.isNone)))) (jm_s M L G)) : am_T X 136 0 [some (.ref 101)] [] (jm_s M L G) (0, 0) Q := by
  refine rn_X6_fine_101_0 ?_
  rw [hT.2.2.1, jf_1 hb]
  refine ⟨fun h => ?_, fun h => ?_⟩
  · rw [h] at hQ
    exact hQ
  · cases hp : p.2 with
    | none => exact absurd hp h
    | some e =>
      rw [hp] at hQ
      exact hQ
theorem ct_rfault (hT : jtR M n tx p) (hb : jtb n tx p) {e : Nat} (hQ : ∀ M', jrf M M' → jtR M' n tx (jq_f p e) → Q (some none) (jm_s M' L G)) : am_T X 137 0 [some (.ref 101), some (.int (nI e))] [] (jm_s M L G) (0, 0) Q := by
  refine rg_X6_fault_101_0 (cl_i (fun _ h => ct_fine hT hb h) (rn_X6_fault_101_4 ?_))
  unfold jq_f at hQ
  cases hp : p.2 with
  | none =>
    rw [hp] at hQ
    refine ⟨fun e => absurd e (by decide), fun _ => hQ _ (jrf_w (Or.inr rfl)) ⟨hT.1, hT.2.1, wi_m_i _ _ _ _, hT.2.2.2⟩⟩
  | some e' =>
    rw [hp] at hQ
    exact ⟨fun _ => hQ M (jrf_r M) hT, fun e => absurd rfl e⟩
theorem ct_here (hT : jtR M n tx p) (hb : jtb n tx p) (hQ : Q (some (some (.int (if p.1 < n then nI (tx p.1) else -1)))) (jm_s M L G)) : am_T X 135 0 [some (.ref 101)] [] (jm_s M L G) (0, 0) Q := by
  have b1 := hb.1
  have b2 := hb.2.1
  refine rn_X6_here_101_0 ?_
  rw [hT.1, hT.2.1, nI_le_iff (by omega) (by omega), nI_clamp (show p.1 < 2147483648 by omega)]
  refine ⟨fun h => ?_, fun h => ⟨vp_in_nI (by omega) (by decide), ?_⟩⟩
  · rw [if_neg (by omega)] at hQ
    exact hQ
  · have hk : p.1 < n := by omega
    rw [if_pos hk] at hQ
    rw [hT.2.2.2 p.1 hk, sg_n3 _ (hb.2.2.1 p.1 hk)]
    exact hQ
def jl_r (f m : Nat) (c : Nat) : Option Nat := if f ≤ c ∧ c ≤ f + m - 1 then some (c - f) else none
theorem ct_oneOf {f m : Nat} (hm : 1 ≤ m) (hfm : f + m ≤ 128) (hT : jtR M n tx p) (hb : jtb n tx p) (hQ : ∀ M' r, jrf M M' → jtR M' n tx (jq_l (jl_r f m) n tx p).2 → ((jq_l (jl_r f m) n tx p).2.2 = none → r = nI (jq_l (jl_r f m) n tx p).1) → Q (some (some (.int r))) (jm_s M' L G)) : am_T X 138 0 [some (.ref 101), some (.int (nI f)), some (.int (nI m))] [] (jm_s M L G) (0, 0) Q := by
  have b1 := hb.1
  have b2 := hb.2.1
  refine rg_X6_oneOf_101_0 (cl_i (fun _ h => ct_fine hT hb h) (rn_X6_oneOf_101_4 ?_))
  cases hp : p.2 with
  | some e =>
    have e1 : jq_l (jl_r f m) n tx p = (0, p.1, some e) := by
      unfold jq_l
      rw [hp]
    refine ⟨fun _ => hQ M _ (jrf_r M) ?_ (fun q => ?_), fun e => absurd rfl e⟩
    · rw [e1]
      show jtR M n tx (p.1, some e)
      rw [← hp]
      exact hT
    · rw [e1] at q
      exact absurd q (by simp)
  | none =>
    refine ⟨fun e => absurd e (by decide), fun _ => cl_i (fun _ h => ct_here hT hb h) (rg_X6_oneOf_101_13 (cl_i (fun _ h => ct_in h) (rn_X6_oneOf_101_22 ?_)))⟩
    have em : nI f + nI m - 1 = nI (f + m - 1) := by
      rw [nI_add]
      exact pk_sub (b := 1) (by omega)
    rw [em]
    have bad : jq_l (jl_r f m) n tx p = (0, p.1, some p.1) → ∃ K : am_S → Prop, am_T X 137 0 [some (.ref 101), some (.int (M 101 7))] [] (jm_s M L G) (0, 0) (am_qv K) ∧ ∀ σ', K σ' → am_T X 138 33 [none, none, none] [] σ' (0, 0) Q := by
      intro e1
      rw [hT.2.1]
      refine cl_v (ct_rfault hT hb (fun M' f' h => ⟨rfl, rg_X6_oneOf_101_33 (hQ M' _ f' ?_ (fun q => ?_))⟩))
      · rw [e1]
        unfold jq_f at h
        rw [hp] at h
        exact h
      · rw [e1] at q
        exact absurd q (by simp)
    by_cases hk : p.1 < n
    · have hc := hb.2.2.1 p.1 hk
      rw [if_pos hk]
      by_cases hr : f ≤ tx p.1 ∧ tx p.1 ≤ f + m - 1
      · have e1 : jq_l (jl_r f m) n tx p = (tx p.1 - f, p.1 + 1, none) := by
          unfold jq_l jl_r
          rw [hp]
          simp only [if_pos hk, if_pos hr]
        rw [e1] at hQ
        have ey : jb (decide (nI f ≤ nI (tx p.1) ∧ nI (tx p.1) ≤ nI (f + m - 1))) = 1 := ri_y (nI_le hr.1 (by omega)) (nI_le hr.2 (by omega))
        rw [ey]
        have ep : nI p.1 + 1 - 1 = nI p.1 := by
          rw [nI_1]
          exact pk_sub (b := 1) (by omega)
        refine ⟨fun e => absurd e (by decide), fun _ => ?_⟩
        rw [hT.2.1, ep, nI_clamp (show p.1 < 2147483648 by omega), hT.2.2.2 p.1 hk, nI_1]
        refine ⟨vp_in_nI (by omega) (by decide), hQ _ _ (jrf_w (Or.inl rfl)) ⟨hT.1, wi_m_i _ _ _ _, ?_, hT.2.2.2⟩ (fun _ => ?_)⟩
        · show M 101 8 = _
          rw [hT.2.2.1, hp]
        · unfold jby
          rw [if_pos (by omega)]
          exact pk_sub hr.1
      · have e1 : jq_l (jl_r f m) n tx p = (0, p.1, some p.1) := by
          unfold jq_l jl_r
          rw [hp]
          simp only [if_pos hk, if_neg hr]
        have en : jb (decide (nI f ≤ nI (tx p.1) ∧ nI (tx p.1) ≤ nI (f + m - 1))) = 0 := jb_n (decide_eq_false (fun e => hr ⟨(nI_le_iff (by omega) (by omega)).mp e.1, (nI_le_iff (by omega) (by omega)).mp e.2⟩))
        rw [en]
        exact ⟨fun _ => bad e1, fun e => absurd rfl e⟩
    · have e1 : jq_l (jl_r f m) n tx p = (0, p.1, some p.1) := by
        unfold jq_l
        rw [hp]
        simp only [if_neg hk]
      rw [if_neg hk]
      have en : jb (decide (nI f ≤ -1 ∧ -1 ≤ nI (f + m - 1))) = 0 := jb_n (decide_eq_false (fun e => absurd (Int32.lt_of_le_of_lt e.1 (by decide)) (nI_pos (by omega))))
      rw [en]
      exact ⟨fun _ => bad e1, fun e => absurd rfl e⟩
theorem jt_ka5 : ∀ c, c < 256 → (nI c = am_ka 1005 0 ↔ c = 119) ∧ (nI c = am_ka 1005 1 ↔ c = 115) ∧ (nI c = am_ka 1005 2 ↔ c = 99) ∧ (nI c = am_ka 1005 3 ↔ c = 118) := by decide +kernel
theorem jt_ka5m : ¬ ((-1 : Int32) = am_ka 1005 0) ∧ ¬ ((-1 : Int32) = am_ka 1005 1) ∧ ¬ ((-1 : Int32) = am_ka 1005 2) ∧ ¬ ((-1 : Int32) = am_ka 1005 3) := by decide +kernel
theorem ct_kindHere (hT : jtR M n tx p) (hb : jtb n tx p) (hQ : Q (some (some (.int (if p.1 < n then jf (jl_k (tx p.1)) else -1)))) (jm_s M L G)) : am_T X 141 0 [some (.ref 101), none] [] (jm_s M L G) (0, 0) Q := by
  refine rg_X6_kindHere_101_0 ?_
  have st : ∀ k, k < 4 → (((if p.1 < n then nI (tx p.1) else -1) = am_ka 1005 k → Q (some (some (.int (nI k)))) (jm_s M L G)) ∧ (¬ (if p.1 < n then nI (tx p.1) else -1) = am_ka 1005 k → am_T X 141 2 [some (.ref 101), some (.int (nI (k + 1)))] [] (jm_s M L G) (0, 0) Q)) → am_T X 141 2 [some (.ref 101), some (.int (nI k))] [] (jm_s M L G) (0, 0) Q := by
    intro k hk h
    refine rn_X6_kindHere_101_2 ⟨fun h => absurd h (nI_ge hk (by decide)), fun _ => cl_i (fun _ h => ct_here hT hb h) (rn_X6_kindHere_101_11 ⟨vp_in_nI hk (by decide), ?_⟩)⟩
    rw [nI_clamp (show k < 2147483648 by omega), nI_1]
    exact h
  by_cases hk : p.1 < n
  · simp only [if_pos hk] at st hQ
    obtain ⟨a0, a1, a2, a3⟩ := jt_ka5 (tx p.1) (hb.2.2.1 p.1 hk)
    unfold jl_k at hQ
    refine st 0 (by decide) ⟨fun h => ?_, fun h0 => st 1 (by decide) ⟨fun h => ?_, fun h1 => st 2 (by decide) ⟨fun h => ?_, fun h2 => st 3 (by decide) ⟨fun h => ?_, fun h3 => rn_X6_kindHere_101_2 ⟨fun _ => ?_, fun h => absurd (nI_le (Nat.le_refl 4) (by decide)) h⟩⟩⟩⟩⟩
    · rw [if_pos (a0.mp h)] at hQ
      exact hQ
    · rw [if_neg (fun e => h0 (a0.mpr e)), if_pos (a1.mp h)] at hQ
      exact hQ
    · rw [if_neg (fun e => h0 (a0.mpr e)), if_neg (fun e => h1 (a1.mpr e)), if_pos (a2.mp h)] at hQ
      exact hQ
    · rw [if_neg (fun e => h0 (a0.mpr e)), if_neg (fun e => h1 (a1.mpr e)), if_neg (fun e => h2 (a2.mpr e)), if_pos (a3.mp h)] at hQ
      exact hQ
    · rw [if_neg (fun e => h0 (a0.mpr e)), if_neg (fun e => h1 (a1.mpr e)), if_neg (fun e => h2 (a2.mpr e)), if_neg (fun e => h3 (a3.mpr e))] at hQ
      exact hQ
  · simp only [if_neg hk] at st hQ
    obtain ⟨a0, a1, a2, a3⟩ := jt_ka5m
    exact st 0 (by decide) ⟨fun h => absurd h a0, fun _ => st 1 (by decide) ⟨fun h => absurd h a1, fun _ => st 2 (by decide) ⟨fun h => absurd h a2, fun _ => st 3 (by decide) ⟨fun h => absurd h a3, fun _ => rn_X6_kindHere_101_2 ⟨fun _ => hQ, fun h => absurd (nI_le (Nat.le_refl 4) (by decide)) h⟩⟩⟩⟩⟩
theorem ct_readKind (hT : jtR M n tx p) (hb : jtb n tx p) (hQ : ∀ M' r, jrf M M' → jtR M' n tx (jq_l jl_k n tx p).2 → ((jq_l jl_k n tx p).2.2 = none → r = nI (jq_l jl_k n tx p).1) → Q (some (some (.int r))) (jm_s M' L G)) : am_T X 142 0 [some (.ref 101), none] [] (jm_s M L G) (0, 0) Q := by
  have b1 := hb.1
  have b2 := hb.2.1
  refine rg_X6_readKind_101_0 (cl_i (fun _ h => ct_fine hT hb h) (rn_X6_readKind_101_4 ?_))
  cases hp : p.2 with
  | some e =>
    have e1 : jq_l jl_k n tx p = (0, p.1, some e) := by
      unfold jq_l
      rw [hp]
    refine ⟨fun _ => hQ M _ (jrf_r M) ?_ (fun q => ?_), fun e => absurd rfl e⟩
    · rw [e1]
      show jtR M n tx (p.1, some e)
      rw [← hp]
      exact hT
    · rw [e1] at q
      exact absurd q (by simp)
  | none =>
    refine ⟨fun e => absurd e (by decide), fun _ => cl_i (fun _ h => ct_kindHere hT hb h) (rn_X6_readKind_101_13 ?_)⟩
    have bad : jq_l jl_k n tx p = (0, p.1, some p.1) → ∃ K : am_S → Prop, am_T X 137 0 [some (.ref 101), some (.int (M 101 7))] [] (jm_s M L G) (0, 0) (am_qv K) ∧ ∀ σ', K σ' → am_T X 142 27 [none, none] [] σ' (0, 0) Q := by
      intro e1
      rw [hT.2.1]
      refine cl_v (ct_rfault hT hb (fun M' f' h => ⟨rfl, rg_X6_readKind_101_27 (hQ M' _ f' ?_ (fun q => ?_))⟩))
      · rw [e1]
        unfold jq_f at h
        rw [hp] at h
        exact h
      · rw [e1] at q
        exact absurd q (by simp)
    by_cases hk : p.1 < n
    · have hc := hb.2.2.1 p.1 hk
      rw [if_pos hk]
      cases hj : jl_k (tx p.1) with
      | some k =>
        have hk4 := (jl_lt (tx p.1) hc).2.1 k hj
        have e1 : jq_l jl_k n tx p = (k, p.1 + 1, none) := by
          unfold jq_l
          rw [hp]
          simp only [if_pos hk, hj]
        rw [e1] at hQ
        refine ⟨fun e => absurd e (jm_ne1 (by omega)), fun _ => ?_⟩
        rw [hT.2.1, nI_1]
        refine hQ _ _ (jrf_w (Or.inl rfl)) ⟨hT.1, wi_m_i _ _ _ _, ?_, hT.2.2.2⟩ (fun _ => rfl)
        show M 101 8 = _
        rw [hT.2.2.1, hp]
      | none =>
        have e1 : jq_l jl_k n tx p = (0, p.1, some p.1) := by
          unfold jq_l
          rw [hp]
          simp only [if_pos hk, hj]
        exact ⟨fun _ => bad e1, fun e => absurd rfl e⟩
    · have e1 : jq_l jl_k n tx p = (0, p.1, some p.1) := by
        unfold jq_l
        rw [hp]
        simp only [if_neg hk]
      rw [if_neg hk]
      exact ⟨fun _ => bad e1, fun e => absurd rfl e⟩
theorem ct_rdigits {m : Nat} (hm : m ≤ 9) (hT : jtR M n tx p) (hb : jtb n tx p) (hQ : ∀ M' r, jrf M M' → jtR M' n tx (jq_d m n tx p).2 → ((jq_d m n tx p).2.2 = none → r = nI (jq_d m n tx p).1) → Q (some (some (.int r))) (jm_s M' L G)) : am_T X 139 0 [some (.ref 101), some (.int (nI m)), none, none] [] (jm_s M L G) (0, 0) Q := by
  refine rg_X6_digits_101_0 ?_
  have b1 := hb.1
  have b2 := hb.2.1
  -- behind a fault
  have lb : ∀ d i x M1 k e, i + d = m → jrf M M1 → jtR M1 n tx (k, some e) → jtb n tx (k, some e) → (jq_d m n tx p).2 = (k, some e) → am_T X 139 4 [some (.ref 101), some (.int (nI m)), some (.int x), some (.int (nI i))] [] (jm_s M1 L G) (0, 0) Q := by
    intro d
    induction d with
    | zero =>
      intro i x M1 k e ei f1 h1 hb1 ej
      refine rn_X6_digits_101_4 ⟨fun _ => hQ M1 _ f1 ?_ (fun q => ?_), fun h => absurd (nI_le (show m ≤ i by omega) (by omega)) h⟩
      · rw [ej]
        exact h1
      · rw [ej] at q
        exact absurd q (by simp)
    | succ d ih =>
      intro i x M1 k e ei f1 h1 hb1 ej
      refine rn_X6_digits_101_4 ⟨fun h => absurd h (nI_ge (show i < m by omega) (by omega)), fun _ => cl_w (ct_oneOf (f := 48) (m := 10) (by decide) (by decide) h1 hb1 (fun M2 r f2 h2 _ => ⟨_, rfl, rg_X6_digits_101_21 ?_⟩))⟩
      rw [nI_1]
      exact ih (i + 1) _ M2 k e (by omega) (jrf_t f1 f2) h2 hb1 ej
  by_cases hp : p.2 = none
  · have l : ∀ d v k i, i + d = m → k ≤ n → ∀ M1, jrf M M1 → jtR M1 n tx (k, none) → (jq_d m n tx p) = jq_d0 n tx d v k → am_T X 139 4 [some (.ref 101), some (.int (nI m)), some (.int (nI v)), some (.int (nI i))] [] (jm_s M1 L G) (0, 0) Q := by
      intro d
      induction d with
      | zero =>
        intro v k i e hk M1 f1 h1 ej
        refine rn_X6_digits_101_4 ⟨fun _ => hQ M1 _ f1 ?_ (fun _ => ?_), fun h => absurd (nI_le (show m ≤ i by omega) (by omega)) h⟩
        · rw [ej]
          exact h1
        · rw [ej]
          rfl
      | succ d ih =>
        intro v k i e hk M1 f1 h1 ej
        have hb1 : jtb n tx (k, none) := ⟨hk, b2, hb.2.2.1, fun e he => absurd he (by simp)⟩
        refine rn_X6_digits_101_4 ⟨fun h => absurd h (nI_ge (show i < m by omega) (by omega)), fun _ => cl_w (ct_oneOf (f := 48) (m := 10) (by decide) (by decide) h1 hb1 (fun M2 r f2 h2 hr => ⟨_, rfl, rg_X6_digits_101_21 ?_⟩))⟩
        rw [nI_1]
        rw [jq_d0] at ej
        by_cases hc : k < n ∧ 48 ≤ tx k ∧ tx k ≤ 57
        · rw [if_pos hc] at ej
          have e1 : jq_l (jl_r 48 10) n tx (k, none) = (tx k - 48, k + 1, none) := by
            unfold jq_l jl_r
            simp only [if_pos hc.1, if_pos (show 48 ≤ tx k ∧ tx k ≤ 48 + 10 - 1 from hc.2)]
          rw [e1] at h2 hr
          rw [hr rfl]
          have ev : (10 : Int32) * nI v + nI (tx k - 48) = nI (10 * v + (tx k - 48)) := by
            rw [show (10 : Int32) * nI v = nI (10 * v) from pk_mul 10 v, nI_add]
          rw [ev]
          exact ih (10 * v + (tx k - 48)) (k + 1) (i + 1) (by omega) (by omega) M2 (jrf_t f1 f2) h2 ej
        · rw [if_neg hc] at ej
          have e1 : (jq_l (jl_r 48 10) n tx (k, none)).2 = (k, some k) := by
            unfold jq_l jl_r
            by_cases hk2 : k < n
            · simp only [if_pos hk2, if_neg (show ¬ (48 ≤ tx k ∧ tx k ≤ 48 + 10 - 1) from fun q => hc ⟨hk2, q⟩)]
            · simp only [if_neg hk2]
          rw [e1] at h2
          exact lb d (i + 1) _ M2 k k (by omega) (jrf_t f1 f2) h2 ⟨hk, b2, hb.2.2.1, fun e he => by have : k = e := Option.some.inj he; omega⟩ (by rw [ej])
    refine l m 0 p.1 0 (Nat.zero_add m) b1 M (jrf_r M) ?_ ?_
    · rw [← hp]
      exact hT
    · unfold jq_d
      rw [hp]
  · cases hp2 : p.2 with
    | none => exact absurd hp2 hp
    | some e =>
      have e1 : jq_d m n tx p = (0, p.1, some e) := by
        unfold jq_d
        rw [hp2]
      have ep : p = (p.1, some e) := by rw [← hp2]
      exact lb m 0 0 M p.1 e (Nat.zero_add m) (jrf_r M) (by rw [← ep]; exact hT) (by rw [← ep]; exact hb) (by rw [e1])
theorem ct_rnumber {m lo hi : Nat} (hm : m ≤ 9) (hm1 : 1 ≤ m) (hhi : hi < 2147483648) (hlo : lo < 2147483648) {x2 : Int32} (hx : p.2 = none → x2 = nI lo) (hT : jtR M n tx p) (hb : jtb n tx p) (hQ : ∀ M' r, jrf M M' → jtR M' n tx (jq_n m lo hi n tx p).2 → ((jq_n m lo hi n tx p).2.2 = none → r = nI (jq_n m lo hi n tx p).1) → Q (some (some (.int r))) (jm_s M' L G)) : am_T X 140 0 [some (.ref 101), some (.int (nI m)), some (.int x2), some (.int (nI hi)), none] [] (jm_s M L G) (0, 0) Q := by
  refine rg_X6_number_101_0 (cl_w (ct_rdigits hm hT hb (fun M1 r f1 h1 hr => ⟨_, rfl, rg_X6_number_101_5 ?_⟩)))
  obtain ⟨c1, c2⟩ := jq_d_b (m := m) hb
  refine cl_i (fun _ h => ct_fine h1 c1 h) (rn_X6_number_101_11 ?_)
  cases hd : (jq_d m n tx p).2.2 with
  | none =>
    obtain ⟨g1, g2, g3⟩ := c2 hd
    have er := hr hd
    have pw : 10 ^ m ≤ 10 ^ 9 := Nat.pow_le_pow_right (by decide) hm
    have hv : (jq_d m n tx p).1 < 2147483648 := by omega
    refine ⟨fun e => absurd e (by decide), fun _ => cl_i (fun _ h => ct_in h) (rn_X6_number_101_21 ?_)⟩
    rw [hx g1, er]
    by_cases hc : lo ≤ (jq_d m n tx p).1 ∧ (jq_d m n tx p).1 ≤ hi
    · have e2 : jq_n m lo hi n tx p = jq_d m n tx p := by
        unfold jq_n
        rw [hd]
        simp only [if_pos hc]
      rw [ri_y (nI_le hc.1 hv) (nI_le hc.2 hhi)]
      refine ⟨fun e => absurd e (by decide), fun _ => rg_X6_number_101_34 (hQ M1 _ f1 ?_ (fun _ => ?_))⟩
      · rw [e2]
        exact h1
      · rw [e2]
    · have e2 : jq_n m lo hi n tx p = (0, (jq_d m n tx p).2.1, some ((jq_d m n tx p).2.1 - 1)) := by
        unfold jq_n
        rw [hd]
        simp only [if_neg hc]
      rw [jb_n (decide_eq_false (fun e => hc ⟨(nI_le_iff hlo hv).mp e.1, (nI_le_iff hv hhi).mp e.2⟩))]
      refine ⟨fun _ => ?_, fun e => absurd rfl e⟩
      rw [h1.2.1, show nI (jq_d m n tx p).2.1 - 1 = nI ((jq_d m n tx p).2.1 - 1) from pk_sub (b := 1) (by omega)]
      refine cl_v (ct_rfault h1 c1 (fun M2 f2 h2 => ⟨rfl, rg_X6_number_101_34 (hQ M2 _ (jrf_t f1 f2) ?_ (fun q => ?_))⟩))
      · rw [e2]
        unfold jq_f at h2
        rw [hd] at h2
        exact h2
      · rw [e2] at q
        exact absurd q (by simp)
  | some e =>
    have e2 : jq_n m lo hi n tx p = jq_d m n tx p := by
      unfold jq_n
      rw [hd]
    refine ⟨fun _ => rg_X6_number_101_34 (hQ M1 _ f1 ?_ (fun q => ?_)), fun e => absurd rfl e⟩
    · rw [e2]
      exact h1
    · rw [e2, hd] at q
      exact absurd q (by simp)
theorem jl_rc : jl_r 97 5 = jl_c := rfl
theorem jl_rw : jl_r 48 4 = jl_w := rfl
theorem ct_wasRight (hT : jtR M n tx p) (hb : jtb n tx p) (hQ : ∀ M', jrf M M' → jtR M' n tx (if p.1 < n then jq_f p p.1 else p) → Q (some (some (.int (jb (if p.1 < n then jq_f p p.1 else p).2.isNone)))) (jm_s M' L G)) : am_T X 143 0 [some (.ref 101)] [] (jm_s M L G) (0, 0) Q := by
  have b1 := hb.1
  have b2 := hb.2.1
  refine rn_X6_wasRight_101_0 ?_
  rw [hT.1, hT.2.1, nI_le_iff (by omega) (by omega)]
  refine ⟨fun h => ?_, fun h => ?_⟩
  · rw [if_neg (show ¬ p.1 < n by omega)] at hQ
    exact rg_X6_wasRight_101_19 (cl_i (fun _ h => ct_fine hT hb h) (rn_X6_wasRight_101_23 ⟨jb_01 _, hQ M (jrf_r M) hT⟩))
  · rw [if_pos (show p.1 < n by omega)] at hQ
    refine cl_v (ct_rfault hT hb (fun M1 f1 h1 => ⟨rfl, ?_⟩))
    have hb1 : jtb n tx (jq_f p p.1) := by
      unfold jq_f
      cases hp : p.2 with
      | none => exact ⟨hb.1, hb.2.1, hb.2.2.1, fun e he => by have : p.1 = e := Option.some.inj he; omega⟩
      | some e => exact hb
    exact rg_X6_wasRight_101_19 (cl_i (fun _ h => ct_fine h1 hb1 h) (rn_X6_wasRight_101_23 ⟨jb_01 _, hQ M1 f1 h1⟩))
end RPrim
