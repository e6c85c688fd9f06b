/-! ===== the TEXT is read (written by wip/gen/gen_read.py) ===== -/
def jf : Option Nat → Int32
  | none => -1
  | some e => nI e
def jtb (n : Nat) (tx : Nat → Nat) (p : Nat × Option Nat) : Prop := p.1 ≤ n ∧ n ≤ 80 ∧ (∀ i, i < n → tx i < 256) ∧ ∀ e, p.2 = some e → e ≤ 80
/-- the class reads the TEXT: where, and where the first fault is -/
def jtC (M : Nat → Nat → Int32) (n : Nat) (tx : Nat → Nat) (p : Nat × Option Nat) : Prop := M 1 1 = nI n ∧ M 1 2 = nI p.1 ∧ M 1 3 = jf p.2 ∧ ∀ i, i < n → M 2 i = nI (tx i)
def jtR (M : Nat → Nat → Int32) (n : Nat) (tx : Nat → Nat) (p : Nat × Option Nat) : Prop := M 101 6 = nI n ∧ M 101 7 = nI p.1 ∧ M 101 8 = jf p.2 ∧ ∀ i, i < n → M 103 i = jby (tx i)
theorem jf_1 {n : Nat} {tx : Nat → Nat} {p : Nat × Option Nat} (hb : jtb n tx p) : jf p.2 = -1 ↔ p.2 = none := by
  cases h : p.2 with
  | none => exact ⟨fun _ => rfl, fun _ => rfl⟩
  | some e =>
    have := hb.2.2.2 e h
    exact ⟨fun q => absurd q (jm_ne1 (by omega)), fun q => absurd q (by simp)⟩
/-- a letter -/
def jq_l (jl : Nat → Option Nat) (n : Nat) (tx : Nat → Nat) (p : Nat × Option Nat) : Nat × (Nat × Option Nat) := match p.2 with
  | some e => (0, p.1, some e)
  | none => if p.1 < n then (match jl (tx p.1) with | some k => (k, p.1 + 1, none) | none => (0, p.1, some p.1)) else (0, p.1, some p.1)
def jq_d0 (n : Nat) (tx : Nat → Nat) : Nat → Nat → Nat → Nat × (Nat × Option Nat)
  | 0, v, k => (v, k, none)
  | m + 1, v, k => if k < n ∧ 48 ≤ tx k ∧ tx k ≤ 57 then jq_d0 n tx m (10 * v + (tx k - 48)) (k + 1) else (0, k, some k)
/-- digits -/
def jq_d (m n : Nat) (tx : Nat → Nat) (p : Nat × Option Nat) : Nat × (Nat × Option Nat) := match p.2 with
  | some e => (0, p.1, some e)
  | none => jq_d0 n tx m 0 p.1
/-- a number that can be -/
def jq_n (m lo hi n : Nat) (tx : Nat → Nat) (p : Nat × Option Nat) : Nat × (Nat × Option Nat) := match (jq_d m n tx p).2.2 with
  | some e => jq_d m n tx p
  | none => if lo ≤ (jq_d m n tx p).1 ∧ (jq_d m n tx p).1 ≤ hi then jq_d m n tx p else (0, (jq_d m n tx p).2.1, some ((jq_d m n tx p).2.1 - 1))
theorem jq_l_b {jl : Nat → Option Nat} {n : Nat} {tx : Nat → Nat} {p : Nat × Option Nat} (h : jtb n tx p) : jtb n tx (jq_l jl n tx p).2 ∧ ((jq_l jl n tx p).2.2 = none → p.2 = none ∧ (jq_l jl n tx p).2.1 = p.1 + 1) := by
  obtain ⟨h1, h2, h3, h4⟩ := h
  unfold jq_l
  cases hp : p.2 with
  | some e => exact ⟨⟨h1, h2, h3, fun e' he => h4 e' (hp.trans he)⟩, fun q => absurd q (by simp)⟩
  | none =>
    simp only []
    by_cases hk : p.1 < n
    · rw [if_pos hk]
      cases hj : jl (tx p.1) with
      | some k => exact ⟨⟨hk, h2, h3, fun e' he => absurd he (by simp)⟩, fun _ => ⟨trivial, rfl⟩⟩
      | none => exact ⟨⟨h1, h2, h3, fun e' he => by have : p.1 = e' := Option.some.inj he; omega⟩, fun q => absurd q (by simp)⟩
    · rw [if_neg hk]
      exact ⟨⟨h1, h2, h3, fun e' he => by have : p.1 = e' := Option.some.inj he; omega⟩, fun q => absurd q (by simp)⟩
theorem jq_d0_b {n : Nat} {tx : Nat → Nat} (h2 : n ≤ 80) (h3 : ∀ i, i < n → tx i < 256) : ∀ m v k, k ≤ n → jtb n tx (jq_d0 n tx m v k).2 ∧ ((jq_d0 n tx m v k).2.2 = none → (jq_d0 n tx m v k).2.1 = k + m ∧ (jq_d0 n tx m v k).1 < (v + 1) * 10 ^ m)
  | 0, v, k, hk => ⟨⟨hk, h2, h3, fun e' he => absurd he (by simp [jq_d0])⟩, fun _ => ⟨rfl, by show v < (v + 1) * 1; omega⟩⟩
  | m + 1, v, k, hk => by
    unfold jq_d0
    by_cases hc : k < n ∧ 48 ≤ tx k ∧ tx k ≤ 57
    · rw [if_pos hc]
      obtain ⟨i1, i2⟩ := jq_d0_b h2 h3 m (10 * v + (tx k - 48)) (k + 1) (by omega)
      refine ⟨i1, fun q => ?_⟩
      obtain ⟨j1, j2⟩ := i2 q
      refine ⟨by omega, Nat.lt_of_lt_of_le j2 ?_⟩
      rw [Nat.pow_succ, Nat.mul_comm (10 ^ m) 10, ← Nat.mul_assoc]
      exact Nat.mul_le_mul_right _ (by omega)
    · rw [if_neg hc]
      exact ⟨⟨hk, h2, h3, fun e' he => by have : k = e' := Option.some.inj he; omega⟩, fun q => absurd q (by simp)⟩
theorem jq_d_b {m n : Nat} {tx : Nat → Nat} {p : Nat × Option Nat} (h : jtb n tx p) : jtb n tx (jq_d m n tx p).2 ∧ ((jq_d m n tx p).2.2 = none → p.2 = none ∧ (jq_d m n tx p).2.1 = p.1 + m ∧ (jq_d m n tx p).1 < 10 ^ m) := by
  obtain ⟨h1, h2, h3, h4⟩ := h
  unfold jq_d
  cases hp : p.2 with
  | some e => exact ⟨⟨h1, h2, h3, fun e' he => h4 e' (hp.trans he)⟩, fun q => absurd q (by simp)⟩
  | none =>
    obtain ⟨i1, i2⟩ := jq_d0_b h2 h3 m 0 p.1 h1
    refine ⟨i1, fun q => ⟨rfl, (i2 q).1, ?_⟩⟩
    have := (i2 q).2
    rw [Nat.zero_add, Nat.one_mul] at this
    exact this
theorem jq_n_b {m lo hi n : Nat} {tx : Nat → Nat} {p : Nat × Option Nat} (h : jtb n tx p) : jtb n tx (jq_n m lo hi n tx p).2 ∧ ((jq_n m lo hi n tx p).2.2 = none → p.2 = none ∧ (jq_n m lo hi n tx p).2.1 = p.1 + m ∧ lo ≤ (jq_n m lo hi n tx p).1 ∧ (jq_n m lo hi n tx p).1 ≤ hi) := by
  obtain ⟨i1, i2⟩ := jq_d_b (m := m) h
  unfold jq_n
  cases hd : (jq_d m n tx p).2.2 with
  | some e => exact ⟨i1, fun q => absurd (hd.symm.trans q) (by simp)⟩
  | none =>
    simp only []
    by_cases hc : lo ≤ (jq_d m n tx p).1 ∧ (jq_d m n tx p).1 ≤ hi
    · rw [if_pos hc]
      exact ⟨i1, fun q => ⟨(i2 hd).1, (i2 hd).2.1, hc⟩⟩
    · rw [if_neg hc]
      obtain ⟨b1, b2, b3, b4⟩ := i1
      exact ⟨⟨b1, b2, b3, fun e' he => by have : (jq_d m n tx p).2.1 - 1 = e' := Option.some.inj he; omega⟩, fun q => absurd q (by simp)⟩
/-! which letter -/
def jl_c (c : Nat) : Option Nat := if 97 ≤ c ∧ c ≤ 101 then some (c - 97) else none
def jl_k (c : Nat) : Option Nat := if c = 119 then some 0 else if c = 115 then some 1 else if c = 99 then some 2 else if c = 118 then some 3 else none
def jl_a (c : Nat) : Option Nat := if c = 43 then some 0 else if c = 45 then some 1 else if c = 109 then some 2 else if c = 114 then some 3 else if c = 107 then some 4 else if c = 108 then some 5 else if c = 105 then some 6 else none
def jl_w (c : Nat) : Option Nat := if 48 ≤ c ∧ c ≤ 51 then some (c - 48) else none
noncomputable def jt_i (B : Nat) (y : Int32) : Nat → Nat → Int32
  | 0, _ => -1
  | m + 1, k => if am_ka B k = y then nI k else jt_i B y m (k + 1)
theorem jt_b8 : ∀ c, c < 256 → (nI c).toInt8.toInt32 = jby c := by decide +kernel
theorem jt_c : ∀ c, c < 256 → jt_i 1020 (jby c) 5 0 = jf (jl_c c) := by decide +kernel
theorem jt_k : ∀ c, c < 256 → jt_i 1021 (jby c) 4 0 = jf (jl_k c) := by decide +kernel
theorem jt_a : ∀ c, c < 256 → jt_i 1022 (jby c) 7 0 = jf (jl_a c) := by decide +kernel
theorem jt_w : ∀ c, c < 256 → jt_i 1023 (jby c) 4 0 = jf (jl_w c) := by decide +kernel
theorem jl_lt : ∀ c, c < 256 → (∀ k, jl_c c = some k → k < 5) ∧ (∀ k, jl_k c = some k → k < 4) ∧ (∀ k, jl_a c = some k → k < 7) ∧ ∀ k, jl_w c = some k → k < 4 := by
  intro c _
  unfold jl_c jl_k jl_a jl_w
  grind
theorem rn_J1_indexOf_4cfef_1020_4 {X : Nat × (Nat → Int32)} {M : Nat → Nat → Int32} {L : Nat → Nat → Int64} {G : Nat → Nat → Option Nat} {Q : am_Q} {x1 : Int32} {x2 : Int32} {x3 : Int32} {s0 : Int32}  (h : ((s0 = 0 → (Q (some (some (.int (-1)))) (jm_s M L G))) ∧ (¬ s0 = 0 → (((if x2 < 0 then 0 else x2) < (if (nI 5) < x3 then (nI 5) else x3) → (∃ K : Int32 → am_S → Prop, am_T X 237 0 [some (.ref 1020), some (.int x1), some (.int (if x2 < 0 then 0 else x2)), some (.int (if (nI 5) < x3 then (nI 5) else x3)), none, none] [] (jm_s M L G) (0, 0) (am_qi K) ∧ ∀ v σ', K v σ' → am_T X 236 36 [none, none, none, none] [(.int v)] σ' (0, 0) Q)) ∧ (¬ (if x2 < 0 then 0 else x2) < (if (nI 5) < x3 then (nI 5) else x3) → (Q (some (some (.int (-1)))) (jm_s M L G))))))) : am_T X 236 4 [some (.ref 1020), some (.int x1), some (.int x2), some (.int x3)] [(.int s0)] (jm_s M L G) (0, 0) Q := rg_J1_indexOf_4cfef_1020_4 (⟨fun e0 => ⟨fun e1 => ((h.2 e0).1 e1), fun e1 => ((h.2 e0).2 e1)⟩, fun e0 => (h.1 e0)⟩)
theorem rn_J1_indexOfChar_4cfef_1020_7 {X : Nat × (Nat → Int32)} {M : Nat → Nat → Int32} {L : Nat → Nat → Int64} {G : Nat → Nat → Option Nat} {Q : am_Q} {x3 : Int32} {x4 : Int32} {x5 : Int32}  (h : ((x3 ≤ x5 → (Q (some (some (.int (-1)))) (jm_s M L G))) ∧ (¬ x3 ≤ x5 → (vp_in x5 5 ∧ (((am_ka 1020 x5.toNatClampNeg) = x4 → (Q (some (some (.int x5))) (jm_s M L G))) ∧ (¬ (am_ka 1020 x5.toNatClampNeg) = x4 → (am_T X 237 7 [some (.ref 1020), none, none, some (.int x3), some (.int x4), some (.int (x5 + 1))] [] (jm_s M L G) (0, 0) Q))))))) : am_T X 237 7 [some (.ref 1020), none, none, some (.int x3), some (.int x4), some (.int x5)] [] (jm_s M L G) (0, 0) Q := rg_J1_indexOfChar_4cfef_1020_7 (⟨fun e0 => (h.1 e0), fun e0 => ⟨(h.2 e0).1, ⟨fun e2 => ((h.2 e0).2.2 e2), fun e2 => ((h.2 e0).2.1 e2)⟩⟩⟩)
theorem rn_J0_isLatin1_aae02_1010_0 {X : Nat × (Nat → Int32)} {M : Nat → Nat → Int32} {L : Nat → Nat → Int64} {G : Nat → Nat → Option Nat} {Q : am_Q}  (h : Q (some (some (.int 1))) (jm_s M L G)) : am_T X 233 0 [some (.ref 1010)] [] (jm_s M L G) (0, 0) Q := rg_J0_isLatin1_aae02_1010_0 (⟨fun e => absurd e (by decide), fun _ => ⟨fun e => absurd rfl e, fun _ => ⟨(Or.inr rfl), h⟩⟩⟩)
theorem rn_J0_coder_7d493_1010_0 {X : Nat × (Nat → Int32)} {M : Nat → Nat → Int32} {L : Nat → Nat → Int64} {G : Nat → Nat → Option Nat} {Q : am_Q}  (h : Q (some (some (.int 0))) (jm_s M L G)) : am_T X 235 0 [some (.ref 1010)] [] (jm_s M L G) (0, 0) Q := rg_J0_coder_7d493_1010_0 (⟨fun e => absurd e (by decide), fun _ => ⟨(Or.inl rfl), h⟩⟩)
theorem rn_J0_indexOf_7cf53_1010_4 {X : Nat × (Nat → Int32)} {M : Nat → Nat → Int32} {L : Nat → Nat → Int64} {G : Nat → Nat → Option Nat} {Q : am_Q} {x1 : Int32} {x2 : Int32} {s0 : Int32}  (h : ((s0 = 0 → (∃ K : Int32 → am_S → Prop, am_T X 234 0 [some (.ref 1010)] [] (jm_s M L G) (0, 0) (am_qi K) ∧ ∀ v σ', K v σ' → am_T X 232 33 [none, none, none] [(.int v), (.int x2), (.int x1), (.ref 1020)] σ' (0, 0) Q)) ∧ (¬ s0 = 0 → (∃ K : Int32 → am_S → Prop, am_T X 234 0 [some (.ref 1010)] [] (jm_s M L G) (0, 0) (am_qi K) ∧ ∀ v σ', K v σ' → am_T X 232 17 [none, none, none] [(.int v), (.int x2), (.int x1), (.ref 1020)] σ' (0, 0) Q)))) : am_T X 232 4 [some (.ref 1010), some (.int x1), some (.int x2)] [(.int s0)] (jm_s M L G) (0, 0) Q := rg_J0_indexOf_7cf53_1010_4 (⟨fun e0 => (h.1 e0), fun e0 => (h.2 e0)⟩)
theorem rn_J1_indexOf_4cfef_1021_4 {X : Nat × (Nat → Int32)} {M : Nat → Nat → Int32} {L : Nat → Nat → Int64} {G : Nat → Nat → Option Nat} {Q : am_Q} {x1 : Int32} {x2 : Int32} {x3 : Int32} {s0 : Int32}  (h : ((s0 = 0 → (Q (some (some (.int (-1)))) (jm_s M L G))) ∧ (¬ s0 = 0 → (((if x2 < 0 then 0 else x2) < (if (nI 4) < x3 then (nI 4) else x3) → (∃ K : Int32 → am_S → Prop, am_T X 237 0 [some (.ref 1021), some (.int x1), some (.int (if x2 < 0 then 0 else x2)), some (.int (if (nI 4) < x3 then (nI 4) else x3)), none, none] [] (jm_s M L G) (0, 0) (am_qi K) ∧ ∀ v σ', K v σ' → am_T X 236 36 [none, none, none, none] [(.int v)] σ' (0, 0) Q)) ∧ (¬ (if x2 < 0 then 0 else x2) < (if (nI 4) < x3 then (nI 4) else x3) → (Q (some (some (.int (-1)))) (jm_s M L G))))))) : am_T X 236 4 [some (.ref 1021), some (.int x1), some (.int x2), some (.int x3)] [(.int s0)] (jm_s M L G) (0, 0) Q := rg_J1_indexOf_4cfef_1021_4 (⟨fun e0 => ⟨fun e1 => ((h.2 e0).1 e1), fun e1 => ((h.2 e0).2 e1)⟩, fun e0 => (h.1 e0)⟩)
theorem rn_J1_indexOfChar_4cfef_1021_7 {X : Nat × (Nat → Int32)} {M : Nat → Nat → Int32} {L : Nat → Nat → Int64} {G : Nat → Nat → Option Nat} {Q : am_Q} {x3 : Int32} {x4 : Int32} {x5 : Int32}  (h : ((x3 ≤ x5 → (Q (some (some (.int (-1)))) (jm_s M L G))) ∧ (¬ x3 ≤ x5 → (vp_in x5 4 ∧ (((am_ka 1021 x5.toNatClampNeg) = x4 → (Q (some (some (.int x5))) (jm_s M L G))) ∧ (¬ (am_ka 1021 x5.toNatClampNeg) = x4 → (am_T X 237 7 [some (.ref 1021), none, none, some (.int x3), some (.int x4), some (.int (x5 + 1))] [] (jm_s M L G) (0, 0) Q))))))) : am_T X 237 7 [some (.ref 1021), none, none, some (.int x3), some (.int x4), some (.int x5)] [] (jm_s M L G) (0, 0) Q := rg_J1_indexOfChar_4cfef_1021_7 (⟨fun e0 => (h.1 e0), fun e0 => ⟨(h.2 e0).1, ⟨fun e2 => ((h.2 e0).2.2 e2), fun e2 => ((h.2 e0).2.1 e2)⟩⟩⟩)
theorem rn_J0_isLatin1_aae02_1011_0 {X : Nat × (Nat → Int32)} {M : Nat → Nat → Int32} {L : Nat → Nat → Int64} {G : Nat → Nat → Option Nat} {Q : am_Q}  (h : Q (some (some (.int 1))) (jm_s M L G)) : am_T X 233 0 [some (.ref 1011)] [] (jm_s M L G) (0, 0) Q := rg_J0_isLatin1_aae02_1011_0 (⟨fun e => absurd e (by decide), fun _ => ⟨fun e => absurd rfl e, fun _ => ⟨(Or.inr rfl), h⟩⟩⟩)
theorem rn_J0_coder_7d493_1011_0 {X : Nat × (Nat → Int32)} {M : Nat → Nat → Int32} {L : Nat → Nat → Int64} {G : Nat → Nat → Option Nat} {Q : am_Q}  (h : Q (some (some (.int 0))) (jm_s M L G)) : am_T X 235 0 [some (.ref 1011)] [] (jm_s M L G) (0, 0) Q := rg_J0_coder_7d493_1011_0 (⟨fun e => absurd e (by decide), fun _ => ⟨(Or.inl rfl), h⟩⟩)
theorem rn_J0_indexOf_7cf53_1011_4 {X : Nat × (Nat → Int32)} {M : Nat → Nat → Int32} {L : Nat → Nat → Int64} {G : Nat → Nat → Option Nat} {Q : am_Q} {x1 : Int32} {x2 : Int32} {s0 : Int32}  (h : ((s0 = 0 → (∃ K : Int32 → am_S → Prop, am_T X 234 0 [some (.ref 1011)] [] (jm_s M L G) (0, 0) (am_qi K) ∧ ∀ v σ', K v σ' → am_T X 232 33 [none, none, none] [(.int v), (.int x2), (.int x1), (.ref 1021)] σ' (0, 0) Q)) ∧ (¬ s0 = 0 → (∃ K : Int32 → am_S → Prop, am_T X 234 0 [some (.ref 1011)] [] (jm_s M L G) (0, 0) (am_qi K) ∧ ∀ v σ', K v σ' → am_T X 232 17 [none, none, none] [(.int v), (.int x2), (.int x1), (.ref 1021)] σ' (0, 0) Q)))) : am_T X 232 4 [some (.ref 1011), some (.int x1), some (.int x2)] [(.int s0)] (jm_s M L G) (0, 0) Q := rg_J0_indexOf_7cf53_1011_4 (⟨fun e0 => (h.1 e0), fun e0 => (h.2 e0)⟩)
theorem rn_J1_indexOf_4cfef_1022_4 {X : Nat × (Nat → Int32)} {M : Nat → Nat → Int32} {L : Nat → Nat → Int64} {G : Nat → Nat → Option Nat} {Q : am_Q} {x1 : Int32} {x2 : Int32} {x3 : Int32} {s0 : Int32}  (h : ((s0 = 0 → (Q (some (some (.int (-1)))) (jm_s M L G))) ∧ (¬ s0 = 0 → (((if x2 < 0 then 0 else x2) < (if (nI 7) < x3 then (nI 7) else x3) → (∃ K : Int32 → am_S → Prop, am_T X 237 0 [some (.ref 1022), some (.int x1), some (.int (if x2 < 0 then 0 else x2)), some (.int (if (nI 7) < x3 then (nI 7) else x3)), none, none] [] (jm_s M L G) (0, 0) (am_qi K) ∧ ∀ v σ', K v σ' → am_T X 236 36 [none, none, none, none] [(.int v)] σ' (0, 0) Q)) ∧ (¬ (if x2 < 0 then 0 else x2) < (if (nI 7) < x3 then (nI 7) else x3) → (Q (some (some (.int (-1)))) (jm_s M L G))))))) : am_T X 236 4 [some (.ref 1022), some (.int x1), some (.int x2), some (.int x3)] [(.int s0)] (jm_s M L G) (0, 0) Q := rg_J1_indexOf_4cfef_1022_4 (⟨fun e0 => ⟨fun e1 => ((h.2 e0).1 e1), fun e1 => ((h.2 e0).2 e1)⟩, fun e0 => (h.1 e0)⟩)
theorem rn_J1_indexOfChar_4cfef_1022_7 {X : Nat × (Nat → Int32)} {M : Nat → Nat → Int32} {L : Nat → Nat → Int64} {G : Nat → Nat → Option Nat} {Q : am_Q} {x3 : Int32} {x4 : Int32} {x5 : Int32}  (h : ((x3 ≤ x5 → (Q (some (some (.int (-1)))) (jm_s M L G))) ∧ (¬ x3 ≤ x5 → (vp_in x5 7 ∧ (((am_ka 1022 x5.toNatClampNeg) = x4 → (Q (some (some (.int x5))) (jm_s M L G))) ∧ (¬ (am_ka 1022 x5.toNatClampNeg) = x4 → (am_T X 237 7 [some (.ref 1022), none, none, some (.int x3), some (.int x4), some (.int (x5 + 1))] [] (jm_s M L G) (0, 0) Q))))))) : am_T X 237 7 [some (.ref 1022), none, none, some (.int x3), some (.int x4), some (.int x5)] [] (jm_s M L G) (0, 0) Q := rg_J1_indexOfChar_4cfef_1022_7 (⟨fun e0 => (h.1 e0), fun e0 => ⟨(h.2 e0).1, ⟨fun e2 => ((h.2 e0).2.2 e2), fun e2 => ((h.2 e0).2.1 e2)⟩⟩⟩)
theorem rn_J0_isLatin1_aae02_1012_0 {X : Nat × (Nat → Int32)} {M : Nat → Nat → Int32} {L : Nat → Nat → Int64} {G : Nat → Nat → Option Nat} {Q : am_Q}  (h : Q (some (some (.int 1))) (jm_s M L G)) : am_T X 233 0 [some (.ref 1012)] [] (jm_s M L G) (0, 0) Q := rg_J0_isLatin1_aae02_1012_0 (⟨fun e => absurd e (by decide), fun _ => ⟨fun e => absurd rfl e, fun _ => ⟨(Or.inr rfl), h⟩⟩⟩)
theorem rn_J0_coder_7d493_1012_0 {X : Nat × (Nat → Int32)} {M : Nat → Nat → Int32} {L : Nat → Nat → Int64} {G : Nat → Nat → Option Nat} {Q : am_Q}  (h : Q (some (some (.int 0))) (jm_s M L G)) : am_T X 235 0 [some (.ref 1012)] [] (jm_s M L G) (0, 0) Q := rg_J0_coder_7d493_1012_0 (⟨fun e => absurd e (by decide), fun _ => ⟨(Or.inl rfl), h⟩⟩)
theorem rn_J0_indexOf_7cf53_1012_4 {X : Nat × (Nat → Int32)} {M : Nat → Nat → Int32} {L : Nat → Nat → Int64} {G : Nat → Nat → Option Nat} {Q : am_Q} {x1 : Int32} {x2 : Int32} {s0 : Int32}  (h : ((s0 = 0 → (∃ K : Int32 → am_S → Prop, am_T X 234 0 [some (.ref 1012)] [] (jm_s M L G) (0, 0) (am_qi K) ∧ ∀ v σ', K v σ' → am_T X 232 33 [none, none, none] [(.int v), (.int x2), (.int x1), (.ref 1022)] σ' (0, 0) Q)) ∧ (¬ s0 = 0 → (∃ K : Int32 → am_S → Prop, am_T X 234 0 [some (.ref 1012)] [] (jm_s M L G) (0, 0) (am_qi K) ∧ ∀ v σ', K v σ' → am_T X 232 17 [none, none, none] [(.int v), (.int x2), (.int x1), (.ref 1022)] σ' (0, 0) Q)))) : am_T X 232 4 [some (.ref 1012), some (.int x1), some (.int x2)] [(.int s0)] (jm_s M L G) (0, 0) Q := rg_J0_indexOf_7cf53_1012_4 (⟨fun e0 => (h.1 e0), fun e0 => (h.2 e0)⟩)
theorem rn_J1_indexOf_4cfef_1023_4 {X : Nat × (Nat → Int32)} {M : Nat → Nat → Int32} {L : Nat → Nat → Int64} {G : Nat → Nat → Option Nat} {Q : am_Q} {x1 : Int32} {x2 : Int32} {x3 : Int32} {s0 : Int32}  (h : ((s0 = 0 → (Q (some (some (.int (-1)))) (jm_s M L G))) ∧ (¬ s0 = 0 → (((if x2 < 0 then 0 else x2) < (if (nI 4) < x3 then (nI 4) else x3) → (∃ K : Int32 → am_S → Prop, am_T X 237 0 [some (.ref 1023), some (.int x1), some (.int (if x2 < 0 then 0 else x2)), some (.int (if (nI 4) < x3 then (nI 4) else x3)), none, none] [] (jm_s M L G) (0, 0) (am_qi K) ∧ ∀ v σ', K v σ' → am_T X 236 36 [none, none, none, none] [(.int v)] σ' (0, 0) Q)) ∧ (¬ (if x2 < 0 then 0 else x2) < (if (nI 4) < x3 then (nI 4) else x3) → (Q (some (some (.int (-1)))) (jm_s M L G))))))) : am_T X 236 4 [some (.ref 1023), some (.int x1), some (.int x2), some (.int x3)] [(.int s0)] (jm_s M L G) (0, 0) Q := rg_J1_indexOf_4cfef_1023_4 (⟨fun e0 => ⟨fun e1 => ((h.2 e0).1 e1), fun e1 => ((h.2 e0).2 e1)⟩, fun e0 => (h.1 e0)⟩)
theorem rn_J1_indexOfChar_4cfef_1023_7 {X : Nat × (Nat → Int32)} {M : Nat → Nat → Int32} {L : Nat → Nat → Int64} {G : Nat → Nat → Option Nat} {Q : am_Q} {x3 : Int32} {x4 : Int32} {x5 : Int32}  (h : ((x3 ≤ x5 → (Q (some (some (.int (-1)))) (jm_s M L G))) ∧ (¬ x3 ≤ x5 → (vp_in x5 4 ∧ (((am_ka 1023 x5.toNatClampNeg) = x4 → (Q (some (some (.int x5))) (jm_s M L G))) ∧ (¬ (am_ka 1023 x5.toNatClampNeg) = x4 → (am_T X 237 7 [some (.ref 1023), none, none, some (.int x3), some (.int x4), some (.int (x5 + 1))] [] (jm_s M L G) (0, 0) Q))))))) : am_T X 237 7 [some (.ref 1023), none, none, some (.int x3), some (.int x4), some (.int x5)] [] (jm_s M L G) (0, 0) Q := rg_J1_indexOfChar_4cfef_1023_7 (⟨fun e0 => (h.1 e0), fun e0 => ⟨(h.2 e0).1, ⟨fun e2 => ((h.2 e0).2.2 e2), fun e2 => ((h.2 e0).2.1 e2)⟩⟩⟩)
theorem rn_J0_isLatin1_aae02_1013_0 {X : Nat × (Nat → Int32)} {M : Nat → Nat → Int32} {L : Nat → Nat → Int64} {G : Nat → Nat → Option Nat} {Q : am_Q}  (h : Q (some (some (.int 1))) (jm_s M L G)) : am_T X 233 0 [some (.ref 1013)] [] (jm_s M L G) (0, 0) Q := rg_J0_isLatin1_aae02_1013_0 (⟨fun e => absurd e (by decide), fun _ => ⟨fun e => absurd rfl e, fun _ => ⟨(Or.inr rfl), h⟩⟩⟩)
theorem rn_J0_coder_7d493_1013_0 {X : Nat × (Nat → Int32)} {M : Nat → Nat → Int32} {L : Nat → Nat → Int64} {G : Nat → Nat → Option Nat} {Q : am_Q}  (h : Q (some (some (.int 0))) (jm_s M L G)) : am_T X 235 0 [some (.ref 1013)] [] (jm_s M L G) (0, 0) Q := rg_J0_coder_7d493_1013_0 (⟨fun e => absurd e (by decide), fun _ => ⟨(Or.inl rfl), h⟩⟩)
theorem rn_J0_indexOf_7cf53_1013_4 {X : Nat × (Nat → Int32)} {M : Nat → Nat → Int32} {L : Nat → Nat → Int64} {G : Nat → Nat → Option Nat} {Q : am_Q} {x1 : Int32} {x2 : Int32} {s0 : Int32}  (h : ((s0 = 0 → (∃ K : Int32 → am_S → Prop, am_T X 234 0 [some (.ref 1013)] [] (jm_s M L G) (0, 0) (am_qi K) ∧ ∀ v σ', K v σ' → am_T X 232 33 [none, none, none] [(.int v), (.int x2), (.int x1), (.ref 1023)] σ' (0, 0) Q)) ∧ (¬ s0 = 0 → (∃ K : Int32 → am_S → Prop, am_T X 234 0 [some (.ref 1013)] [] (jm_s M L G) (0, 0) (am_qi K) ∧ ∀ v σ', K v σ' → am_T X 232 17 [none, none, none] [(.int v), (.int x2), (.int x1), (.ref 1023)] σ' (0, 0) Q)))) : am_T X 232 4 [some (.ref 1013), some (.int x1), some (.int x2)] [(.int s0)] (jm_s M L G) (0, 0) Q := rg_J0_indexOf_7cf53_1013_4 (⟨fun e0 => (h.1 e0), fun e0 => (h.2 e0)⟩)
theorem rn_J1_canEncode_9a6ad_0 {X : Nat × (Nat → Int32)} {M : Nat → Nat → Int32} {L : Nat → Nat → Int64} {G : Nat → Nat → Option Nat} {Q : am_Q} {x0 : Int32}  (h : ((x0 < 0 → (Q (some (some (.int 0))) (jm_s M L G))) ∧ (¬ x0 < 0 → ((255 < x0 → (Q (some (some (.int 0))) (jm_s M L G))) ∧ (¬ 255 < x0 → (Q (some (some (.int 1))) (jm_s M L G))))))) : am_T X 238 0 [some (.int x0)] [] (jm_s M L G) (0, 0) Q := rg_J1_canEncode_9a6ad_0 (⟨fun e0 => ⟨(Or.inl rfl), (h.1 e0)⟩, fun e0 => ⟨fun e1 => ⟨(Or.inl rfl), ((h.2 e0).1 e1)⟩, fun e1 => ⟨(Or.inr rfl), ((h.2 e0).2 e1)⟩⟩⟩)
section Read
variable {X : Nat × (Nat → Int32)} {M : Nat → Nat → Int32} {L : Nat → Nat → Int64} {G : Nat → Nat → Option Nat} {Q : am_Q} {n : Nat} {tx : Nat → Nat} {p : Nat × Option Nat}
theorem ct_indexOf_1010 {c : Nat} (hc : c < 256) (hQ : Q (some (some (.int (jf (jl_c c))))) (jm_s M L G)) : am_T X 231 0 [some (.ref 1010), some (.int (nI c))] [] (jm_s M L G) (0, 0) Q := by
  rw [← jt_c c hc] at hQ
  have loop : ∀ m k, k + m = 5 → Q (some (some (.int (jt_i 1020 (jby c) m k)))) (jm_s M L G) → ∀ Q' : am_Q, (∀ v, Q (some (some (.int v))) (jm_s M L G) → Q' (some (some (.int v))) (jm_s M L G)) → am_T X 237 7 [some (.ref 1020), none, none, some (.int (nI 5)), some (.int (jby c)), some (.int (nI k))] [] (jm_s M L G) (0, 0) Q' := by
    intro m
    induction m with
    | zero =>
      intro k e hq Q' hQ'
      have e2 : k = 5 := e
      subst e2
      exact rn_J1_indexOfChar_4cfef_1020_7 ⟨fun _ => hQ' _ hq, fun h => absurd (nI_le (Nat.le_refl 5) (by decide)) h⟩
    | succ m ih =>
      intro k e hq Q' hQ'
      have hk : k < 5 := by omega
      unfold jt_i at hq
      refine rn_J1_indexOfChar_4cfef_1020_7 ⟨fun h => absurd h (nI_ge hk (by decide)), fun _ => ⟨vp_in_nI hk (by decide), ?_⟩⟩
      rw [nI_clamp (show k < 2147483648 by omega), nI_1]
      refine ⟨fun h => ?_, fun h => ?_⟩
      · rw [if_pos h] at hq
        exact hQ' _ hq
      · rw [if_neg h] at hq
        exact ih (k + 1) (by omega) hq Q' hQ'
  refine rg_J0_indexOf_0f7a4_1010_0 (cl_w (rg_J0_indexOf_7cf53_1010_0 (cl_w (rn_J0_isLatin1_aae02_1010_0 ⟨_, rfl, rn_J0_indexOf_7cf53_1010_4 ⟨fun e => absurd e (by decide), fun _ => cl_w (rg_J0_length_8abf5_1010_0 (cl_w (rn_J0_coder_7d493_1010_0 ⟨_, rfl, rg_J0_length_8abf5_1010_9 ⟨_, rfl, rg_J0_indexOf_7cf53_1010_17 (cl_w (rg_J1_indexOf_4cfef_1020_0 (cl_w (rn_J1_canEncode_9a6ad_0 ⟨fun e => absurd e (nI_pos (by omega)), fun _ => ⟨fun e => absurd e (nI_nlt (show c ≤ 255 by omega) (by decide)), fun _ => ⟨_, rfl, rn_J1_indexOf_4cfef_1020_4 ⟨fun e => absurd e (by decide), fun _ => ⟨fun _ => cl_w (rg_J1_indexOfChar_4cfef_1020_0 ?_), fun e => absurd (by decide) e⟩⟩⟩⟩⟩))))⟩⟩)))⟩⟩))))
  rw [jt_b8 c hc]
  exact loop 5 0 rfl hQ _ (fun v hv => ⟨_, rfl, rg_J1_indexOf_4cfef_1020_36 ⟨_, rfl, rg_J0_indexOf_7cf53_1010_20 ⟨_, rfl, rg_J0_indexOf_0f7a4_1010_6 hv⟩⟩⟩)
theorem ct_indexOf_1011 {c : Nat} (hc : c < 256) (hQ : Q (some (some (.int (jf (jl_k c))))) (jm_s M L G)) : am_T X 231 0 [some (.ref 1011), some (.int (nI c))] [] (jm_s M L G) (0, 0) Q := by
  rw [← jt_k c hc] at hQ
  have loop : ∀ m k, k + m = 4 → Q (some (some (.int (jt_i 1021 (jby c) m k)))) (jm_s M L G) → ∀ Q' : am_Q, (∀ v, Q (some (some (.int v))) (jm_s M L G) → Q' (some (some (.int v))) (jm_s M L G)) → am_T X 237 7 [some (.ref 1021), none, none, some (.int (nI 4)), some (.int (jby c)), some (.int (nI k))] [] (jm_s M L G) (0, 0) Q' := by
    intro m
    induction m with
    | zero =>
      intro k e hq Q' hQ'
      have e2 : k = 4 := e
      subst e2
      exact rn_J1_indexOfChar_4cfef_1021_7 ⟨fun _ => hQ' _ hq, fun h => absurd (nI_le (Nat.le_refl 4) (by decide)) h⟩
    | succ m ih =>
      intro k e hq Q' hQ'
      have hk : k < 4 := by omega
      unfold jt_i at hq
      refine rn_J1_indexOfChar_4cfef_1021_7 ⟨fun h => absurd h (nI_ge hk (by decide)), fun _ => ⟨vp_in_nI hk (by decide), ?_⟩⟩
      rw [nI_clamp (show k < 2147483648 by omega), nI_1]
      refine ⟨fun h => ?_, fun h => ?_⟩
      · rw [if_pos h] at hq
        exact hQ' _ hq
      · rw [if_neg h] at hq
        exact ih (k + 1) (by omega) hq Q' hQ'
  refine rg_J0_indexOf_0f7a4_1011_0 (cl_w (rg_J0_indexOf_7cf53_1011_0 (cl_w (rn_J0_isLatin1_aae02_1011_0 ⟨_, rfl, rn_J0_indexOf_7cf53_1011_4 ⟨fun e => absurd e (by decide), fun _ => cl_w (rg_J0_length_8abf5_1011_0 (cl_w (rn_J0_coder_7d493_1011_0 ⟨_, rfl, rg_J0_length_8abf5_1011_9 ⟨_, rfl, rg_J0_indexOf_7cf53_1011_17 (cl_w (rg_J1_indexOf_4cfef_1021_0 (cl_w (rn_J1_canEncode_9a6ad_0 ⟨fun e => absurd e (nI_pos (by omega)), fun _ => ⟨fun e => absurd e (nI_nlt (show c ≤ 255 by omega) (by decide)), fun _ => ⟨_, rfl, rn_J1_indexOf_4cfef_1021_4 ⟨fun e => absurd e (by decide), fun _ => ⟨fun _ => cl_w (rg_J1_indexOfChar_4cfef_1021_0 ?_), fun e => absurd (by decide) e⟩⟩⟩⟩⟩))))⟩⟩)))⟩⟩))))
  rw [jt_b8 c hc]
  exact loop 4 0 rfl hQ _ (fun v hv => ⟨_, rfl, rg_J1_indexOf_4cfef_1021_36 ⟨_, rfl, rg_J0_indexOf_7cf53_1011_20 ⟨_, rfl, rg_J0_indexOf_0f7a4_1011_6 hv⟩⟩⟩)
theorem ct_indexOf_1012 {c : Nat} (hc : c < 256) (hQ : Q (some (some (.int (jf (jl_a c))))) (jm_s M L G)) : am_T X 231 0 [some (.ref 1012), some (.int (nI c))] [] (jm_s M L G) (0, 0) Q := by
  rw [← jt_a c hc] at hQ
  have loop : ∀ m k, k + m = 7 → Q (some (some (.int (jt_i 1022 (jby c) m k)))) (jm_s M L G) → ∀ Q' : am_Q, (∀ v, Q (some (some (.int v))) (jm_s M L G) → Q' (some (some (.int v))) (jm_s M L G)) → am_T X 237 7 [some (.ref 1022), none, none, some (.int (nI 7)), some (.int (jby c)), some (.int (nI k))] [] (jm_s M L G) (0, 0) Q' := by
    intro m
    induction m with
    | zero =>
      intro k e hq Q' hQ'
      have e2 : k = 7 := e
      subst e2
      exact rn_J1_indexOfChar_4cfef_1022_7 ⟨fun _ => hQ' _ hq, fun h => absurd (nI_le (Nat.le_refl 7) (by decide)) h⟩
    | succ m ih =>
      intro k e hq Q' hQ'
      have hk : k < 7 := by omega
      unfold jt_i at hq
      refine rn_J1_indexOfChar_4cfef_1022_7 ⟨fun h => absurd h (nI_ge hk (by decide)), fun _ => ⟨vp_in_nI hk (by decide), ?_⟩⟩
      rw [nI_clamp (show k < 2147483648 by omega), nI_1]
      refine ⟨fun h => ?_, fun h => ?_⟩
      · rw [if_pos h] at hq
        exact hQ' _ hq
      · rw [if_neg h] at hq
        exact ih (k + 1) (by omega) hq Q' hQ'
  refine rg_J0_indexOf_0f7a4_1012_0 (cl_w (rg_J0_indexOf_7cf53_1012_0 (cl_w (rn_J0_isLatin1_aae02_1012_0 ⟨_, rfl, rn_J0_indexOf_7cf53_1012_4 ⟨fun e => absurd e (by decide), fun _ => cl_w (rg_J0_length_8abf5_1012_0 (cl_w (rn_J0_coder_7d493_1012_0 ⟨_, rfl, rg_J0_length_8abf5_1012_9 ⟨_, rfl, rg_J0_indexOf_7cf53_1012_17 (cl_w (rg_J1_indexOf_4cfef_1022_0 (cl_w (rn_J1_canEncode_9a6ad_0 ⟨fun e => absurd e (nI_pos (by omega)), fun _ => ⟨fun e => absurd e (nI_nlt (show c ≤ 255 by omega) (by decide)), fun _ => ⟨_, rfl, rn_J1_indexOf_4cfef_1022_4 ⟨fun e => absurd e (by decide), fun _ => ⟨fun _ => cl_w (rg_J1_indexOfChar_4cfef_1022_0 ?_), fun e => absurd (by decide) e⟩⟩⟩⟩⟩))))⟩⟩)))⟩⟩))))
  rw [jt_b8 c hc]
  exact loop 7 0 rfl hQ _ (fun v hv => ⟨_, rfl, rg_J1_indexOf_4cfef_1022_36 ⟨_, rfl, rg_J0_indexOf_7cf53_1012_20 ⟨_, rfl, rg_J0_indexOf_0f7a4_1012_6 hv⟩⟩⟩)
theorem ct_indexOf_1013 {c : Nat} (hc : c < 256) (hQ : Q (some (some (.int (jf (jl_w c))))) (jm_s M L G)) : am_T X 231 0 [some (.ref 1013), some (.int (nI c))] [] (jm_s M L G) (0, 0) Q := by
  rw [← jt_w c hc] at hQ
  have loop : ∀ m k, k + m = 4 → Q (some (some (.int (jt_i 1023 (jby c) m k)))) (jm_s M L G) → ∀ Q' : am_Q, (∀ v, Q (some (some (.int v))) (jm_s M L G) → Q' (some (some (.int v))) (jm_s M L G)) → am_T X 237 7 [some (.ref 1023), none, none, some (.int (nI 4)), some (.int (jby c)), some (.int (nI k))] [] (jm_s M L G) (0, 0) Q' := by
    intro m
    induction m with
    | zero =>
      intro k e hq Q' hQ'
      have e2 : k = 4 := e
      subst e2
      exact rn_J1_indexOfChar_4cfef_1023_7 ⟨fun _ => hQ' _ hq, fun h => absurd (nI_le (Nat.le_refl 4) (by decide)) h⟩
    | succ m ih =>
      intro k e hq Q' hQ'
      have hk : k < 4 := by omega
      unfold jt_i at hq
      refine rn_J1_indexOfChar_4cfef_1023_7 ⟨fun h => absurd h (nI_ge hk (by decide)), fun _ => ⟨vp_in_nI hk (by decide), ?_⟩⟩
      rw [nI_clamp (show k < 2147483648 by omega), nI_1]
      refine ⟨fun h => ?_, fun h => ?_⟩
      · rw [if_pos h] at hq
        exact hQ' _ hq
      · rw [if_neg h] at hq
        exact ih (k + 1) (by omega) hq Q' hQ'
  refine rg_J0_indexOf_0f7a4_1013_0 (cl_w (rg_J0_indexOf_7cf53_1013_0 (cl_w (rn_J0_isLatin1_aae02_1013_0 ⟨_, rfl, rn_J0_indexOf_7cf53_1013_4 ⟨fun e => absurd e (by decide), fun _ => cl_w (rg_J0_length_8abf5_1013_0 (cl_w (rn_J0_coder_7d493_1013_0 ⟨_, rfl, rg_J0_length_8abf5_1013_9 ⟨_, rfl, rg_J0_indexOf_7cf53_1013_17 (cl_w (rg_J1_indexOf_4cfef_1023_0 (cl_w (rn_J1_canEncode_9a6ad_0 ⟨fun e => absurd e (nI_pos (by omega)), fun _ => ⟨fun e => absurd e (nI_nlt (show c ≤ 255 by omega) (by decide)), fun _ => ⟨_, rfl, rn_J1_indexOf_4cfef_1023_4 ⟨fun e => absurd e (by decide), fun _ => ⟨fun _ => cl_w (rg_J1_indexOfChar_4cfef_1023_0 ?_), fun e => absurd (by decide) e⟩⟩⟩⟩⟩))))⟩⟩)))⟩⟩))))
  rw [jt_b8 c hc]
  exact loop 4 0 rfl hQ _ (fun v hv => ⟨_, rfl, rg_J1_indexOf_4cfef_1023_36 ⟨_, rfl, rg_J0_indexOf_7cf53_1013_20 ⟨_, rfl, rg_J0_indexOf_0f7a4_1013_6 hv⟩⟩⟩)
end Read
