/-! ===== MONTHS added up (written by wip/gen/gen_add.py) ===== -/
def jm_ow (ld : Nat → Int32) (c n : Nat) : Int32 := jm_sm (fun m => if ld m = nI c then 1 else 0) n
def jm_cn (ld bf : Nat → Int32) (c n : Nat) : Int32 := jm_sm (fun m => if ld m = nI c then (if bf m = -1 then 0 else 1) else 0) n
def jm_os (ld wg : Nat → Int32) (c n : Nat) : Int32 := jm_sm (fun m => if ld m = nI c then wg m else 0) n
def jm_I7 (M : Nat → Nat → Int32) (a : Nat) (r s t : Nat → Int32) (j : Nat) (M1 : Nat → Nat → Int32) : Prop := (∀ q, q ≠ a → q ≠ a + 1 → q ≠ a + 2 → M1 q = M q) ∧ ∀ c, c < j → M1 a c = r c ∧ M1 (a + 1) c = s c ∧ M1 (a + 2) c = t c
/-- three rows written at k -/
theorem jm_I7_put {M M1 M2 : Nat → Nat → Int32} {a j j' k : Nat} {r s t r' s' t' : Nat → Int32} {x y z : Int32} (h : jm_I7 M a r s t j M1) (e : M2 = wi_m (wi_m (wi_m M1 a k x) (a + 1) k y) (a + 2) k z) (hk : ∀ c, c < j' → c = k → x = r' c ∧ y = s' c ∧ z = t' c) (ho : ∀ c, c < j' → c ≠ k → c < j ∧ r c = r' c ∧ s c = s' c ∧ t c = t' c) : jm_I7 M a r' s' t' j' M2 := by
  subst e
  refine ⟨fun q h1 h2 h3 => ?_, fun c hc => ?_⟩
  · rw [← h.1 q h1 h2 h3]
    funext i
    rw [wi_m_eq, if_neg h3, wi_m_eq, if_neg h2, wi_m_eq, if_neg h1]
  · rw [wi_m_eq, if_neg (by omega), wi_m_eq, if_neg (by omega), wi_m_eq, if_pos rfl, wi_m_eq, if_neg (by omega), wi_m_eq, if_pos rfl, wi_m_eq, if_neg (by omega), wi_m_eq, if_pos rfl, wi_m_eq, if_neg (by omega), wi_m_eq, if_neg (by omega)]
    by_cases hck : c = k
    · rw [if_pos hck, if_pos hck, if_pos hck]
      exact hk c hc hck
    · rw [if_neg hck, if_neg hck, if_neg hck]
      obtain ⟨g0, g1, g2, g3⟩ := ho c hc hck
      obtain ⟨f1, f2, f3⟩ := h.2 c g0
      exact ⟨f1.trans g1, f2.trans g2, f3.trans g3⟩
