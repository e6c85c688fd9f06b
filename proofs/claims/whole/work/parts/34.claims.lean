/-! ===== CLAIMS by a state (written by wip/gen/gen_claims.py) ===== -/
section ClmS
variable {X : Nat × (Nat → Int32)} {M : Nat → Nat → Int32} {L : Nat → Nat → Int64} {G : Nat → Nat → Option Nat} {Q : am_Q}
def jm_bm (v n : Int32) : Int32 := if n ≤ 0 then 0 else v / n
theorem ct_byMonths {v n : Int32} (hQ : Q (some (some (.int (jm_bm v n)))) (jm_s M L G)) : am_T X 3 0 [some (.int v), some (.int n)] [] (jm_s M L G) (0, 0) Q := by
  unfold jm_bm at hQ
  refine rg_X0_byMonths_0 ⟨fun h => ?_, fun h => ⟨fun e => ?_, ?_⟩⟩
  · rw [if_pos h] at hQ
    exact hQ
  · subst e
    exact h (by decide)
  · rw [if_neg h] at hQ
    exact hQ
end ClmS
section Clm15
variable {X : Nat × (Nat → Int32)} {M : Nat → Nat → Int32} {L : Nat → Nat → Int64} {G : Nat → Nat → Option Nat} {Q : am_Q}
theorem ct_lawOf_5 {c w : Nat} (hk : 4 * c + w < 20) (hQ : Q (some (some (.int (M 6 (4 * c + w))))) (jm_s M L G)) : am_T X 29 0 [some (.ref 5), some (.int (nI c)), some (.int (nI w))] [] (jm_s M L G) (0, 0) Q := by
  have e : nI c * 4 + nI w = nI (4 * c + w) := by
    rw [show nI c * 4 = nI (c * 4) from pk_mul c 4, nI_add, Nat.mul_comm c 4]
  refine rg_X3_lawOf_5_0 ?_
  rw [e, nI_clamp (by omega)]
  exact ⟨vp_in_nI hk (by decide), hQ⟩
theorem ct_sum_5 {c : Nat} {n g : Int32} (hc : c < 5) (hQ : Q (some (some (.int (n * M 6 (4 * c + 1) + ((n * M 6 (4 * c + 2)) * g) / 10000)))) (jm_s M L G)) : am_T X 7 0 [some (.ref 5), some (.int (nI c)), some (.int n), some (.int g), none] [] (jm_s M L G) (0, 0) Q :=
  rg_X0_sum_5_0 (cl_i (fun _ h => ct_lawOf_5 (w := 1) (by omega) h) (rg_X0_sum_5_7 (cl_i (fun _ h => ct_lawOf_5 (w := 2) (by omega) h) (rg_X0_sum_5_19 ⟨by decide, hQ⟩))))
theorem ct_paysOf_15 {c : Nat} (hc : c < 5) (hQ : Q (some (some (.int (if M 28 c < M 30 c then M 30 c else M 28 c)))) (jm_s M L G)) : am_T X 8 0 [some (.ref 15), some (.int (nI c))] [] (jm_s M L G) (0, 0) Q := by
  refine rg_X0_paysOf_15_0 ?_
  rw [nI_clamp (by omega)]
  exact ⟨vp_in_nI hc (by decide), vp_in_nI hc (by decide), hQ⟩
end Clm15
section Clm31
variable {X : Nat × (Nat → Int32)} {M : Nat → Nat → Int32} {L : Nat → Nat → Int64} {G : Nat → Nat → Option Nat} {Q : am_Q}
theorem ct_lawOf_10 {c w : Nat} (hk : 4 * c + w < 20) (hQ : Q (some (some (.int (M 11 (4 * c + w))))) (jm_s M L G)) : am_T X 29 0 [some (.ref 10), some (.int (nI c)), some (.int (nI w))] [] (jm_s M L G) (0, 0) Q := by
  have e : nI c * 4 + nI w = nI (4 * c + w) := by
    rw [show nI c * 4 = nI (c * 4) from pk_mul c 4, nI_add, Nat.mul_comm c 4]
  refine rg_X3_lawOf_10_0 ?_
  rw [e, nI_clamp (by omega)]
  exact ⟨vp_in_nI hk (by decide), hQ⟩
theorem ct_sum_10 {c : Nat} {n g : Int32} (hc : c < 5) (hQ : Q (some (some (.int (n * M 11 (4 * c + 1) + ((n * M 11 (4 * c + 2)) * g) / 10000)))) (jm_s M L G)) : am_T X 7 0 [some (.ref 10), some (.int (nI c)), some (.int n), some (.int g), none] [] (jm_s M L G) (0, 0) Q :=
  rg_X0_sum_10_0 (cl_i (fun _ h => ct_lawOf_10 (w := 1) (by omega) h) (rg_X0_sum_10_7 (cl_i (fun _ h => ct_lawOf_10 (w := 2) (by omega) h) (rg_X0_sum_10_19 ⟨by decide, hQ⟩))))
theorem ct_paysOf_31 {c : Nat} (hc : c < 5) (hQ : Q (some (some (.int (if M 44 c < M 46 c then M 46 c else M 44 c)))) (jm_s M L G)) : am_T X 8 0 [some (.ref 31), some (.int (nI c))] [] (jm_s M L G) (0, 0) Q := by
  refine rg_X0_paysOf_31_0 ?_
  rw [nI_clamp (by omega)]
  exact ⟨vp_in_nI hc (by decide), vp_in_nI hc (by decide), hQ⟩
end Clm31
