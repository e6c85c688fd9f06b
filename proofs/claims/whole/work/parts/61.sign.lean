/-! ===== pairs: sign, end (written by wip/gen/gen_sign.py) ===== -/
theorem nI_and (u : Nat) : nI u &&& 255 = nI (u % 256) := by
  unfold nI
  apply Int32.toBitVec_inj.mp
  apply BitVec.eq_of_toNat_eq
  simp only [Int32.toBitVec_and, Int32.toBitVec_ofNat', BitVec.toNat_and, BitVec.toNat_ofNat]
  show (u % 2 ^ 32) &&& 255 = _
  rw [show 255 = 2 ^ 8 - 1 from rfl, Nat.and_two_pow_sub_one_eq_mod]
  omega
/-- the j-th byte -/
def sg (x : Int32) (j : Nat) : Nat := x.toUInt32.toNat / 2 ^ (8 * j) % 256
theorem sg_lt (x : Int32) (j : Nat) : sg x j < 256 := Nat.mod_lt _ (by decide)
theorem sg_c (x : Int32) {j : Nat} (hj : j < 4) : (am_ushr x (nI (8 * j))) &&& 255 = nI (sg x j) := by
  unfold am_ushr sg
  rw [jz_u32, nI_and, UInt32.toNat_shiftRight, Nat.shiftRight_eq_div_pow]
  have : j = 0 ∨ j = 1 ∨ j = 2 ∨ j = 3 := by omega
  rcases this with rfl | rfl | rfl | rfl <;> rfl
theorem sg_t : ∀ c, c < 256 → (Int32.ofBitVec ((BitVec.ofNat 8 c).signExtend 32)) = jby c := by decide +kernel
theorem sg_b (x : Int32) {j : Nat} (hj : j < 4) : (x >>> ((8 * nI j) &&& 31)).toInt8.toInt32 = jby (sg x j) := by
  unfold sg
  rw [← sg_t _ (by omega)]
  apply Int32.toBitVec_inj.mp
  have e : (x >>> ((8 * nI j) &&& 31)).toInt8.toBitVec = BitVec.ofNat 8 (x.toUInt32.toNat / 2 ^ (8 * j) % 256) := by
    have hb : (x >>> ((8 * nI j) &&& 31)).toBitVec = x.toBitVec.sshiftRight (8 * j) := by
      have : j = 0 ∨ j = 1 ∨ j = 2 ∨ j = 3 := by omega
      rcases this with rfl | rfl | rfl | rfl <;> rfl
    show BitVec.signExtend 8 ((x >>> ((8 * nI j) &&& 31)).toBitVec) = _
    rw [hb]
    apply BitVec.eq_of_getLsbD_eq
    intro i hi
    rw [BitVec.getLsbD_signExtend, BitVec.getLsbD_sshiftRight, BitVec.getLsbD_ofNat]
    have h1 : i < 32 := by omega
    have h2 : ¬ 32 ≤ i := by omega
    have h3 : 8 * j + i < 32 := by omega
    simp only [hi, h1, h2, h3, decide_true, decide_false, Bool.not_false, Bool.true_and, if_true]
    rw [show (256 : Nat) = 2 ^ 8 from rfl, Nat.testBit_mod_two_pow, Nat.testBit_div_two_pow]
    simp only [hi, decide_true, Bool.true_and]
    show x.toBitVec.toNat.testBit (8 * j + i) = x.toUInt32.toNat.testBit (i + 8 * j)
    rw [Nat.add_comm]
    rfl
  show BitVec.signExtend 32 ((x >>> ((8 * nI j) &&& 31)).toInt8.toBitVec) = _
  rw [e]
  rfl
theorem sg_n1 : ∀ c, c < 256 → vp_nar .char (am_i2c (nI c)) = nI c := by decide +kernel
theorem sg_n2 : ∀ c, c < 256 → vp_nar .byte (jby c) = jby c := by decide +kernel
theorem sg_n3 : ∀ c, c < 256 → jby c &&& 255 = nI c := by decide +kernel
/-- the TEXT is n long -/
abbrev ja_t (a : jA) (n : Nat) (tx : Nat → Nat) : jA := (ja_s a, a.2.1, a.2.2.1, (n, tx), ja_r a)
theorem jAw_t {a : jA} (h : jAw a) {n : Nat} {tx : Nat → Nat} (hn : n ≤ 80) (ht : ∀ i, i < n → tx i < 256) : jAw (ja_t a n tx) := ⟨h.1, h.2.1, h.2.2.1, ⟨hn, ht⟩, h.2.2.2.2⟩
theorem jC_tx {M M' : Nat → Nat → Int32} {L : Nat → Nat → Int64} {G : Nat → Nat → Option Nat} {a : jA} {n : Nat} {tx : Nat → Nat} (h : jC M L G a) (f : ∀ q, q ≠ 1 → q ≠ 2 → M' q = M q) (h1 : M' 1 1 = nI n) (h2 : ∀ i, i < n → M' 2 i = nI (tx i)) : jC M' L G (ja_t a n tx) := by
  obtain ⟨h0, ht, hr⟩ := h
  refine ⟨jC0_f h0 (fun q hq => f q ?_ ?_) rfl, ⟨h1, h2⟩, ?_⟩
  · unfold jc0p at hq
    omega
  · unfold jc0p at hq
    omega
  · unfold jCr at *
    rw [f 3 (by decide) (by decide)]
    exact hr
theorem jRR_tx {M M' : Nat → Nat → Int32} {L : Nat → Nat → Int64} {a : jA} {n : Nat} {tx : Nat → Nat} (h : jRR M L a) (f : ∀ q, q ≠ 101 → q ≠ 103 → M' q = M q) (f1 : ∀ i, i ≠ 2 → i ≠ 5 → M' 101 i = M 101 i) (h1 : M' 101 2 = nI n) (h2 : ∀ i, i < n → M' 103 i = jby (tx i)) : jRR M' L (ja_t a n tx) := by
  unfold jRR jR0 jRr at *
  rw [f 102 (by decide) (by decide), f 119 (by decide) (by decide), f 121 (by decide) (by decide), f 122 (by decide) (by decide), f1 27 (by decide) (by decide), f1 4 (by decide) (by decide)]
  exact ⟨h.1, ⟨h1, h2⟩, h.2.2⟩
section Sign
variable {X : Nat × (Nat → Int32)} {M : Nat → Nat → Int32} {L : Nat → Nat → Int64} {G : Nat → Nat → Option Nat} {Q : am_Q} {s : jS} {a : jA}
theorem ct_ap14 {x : Int32} {n j : Nat} (hn : n < 80) (hj : j < 4) (h1 : M 1 1 = nI n) (hQ : am_T X 44 14 [some (.ref 1), some (.int x), some (.int (nI (8 * j) + (-8)))] [] (jm_s (wi_m (wi_m M 2 n (nI (sg x j))) 1 1 (nI (n + 1))) L G) (0, 0) Q) : am_T X 44 14 [some (.ref 1), some (.int x), some (.int (nI (8 * j)))] [] (jm_s M L G) (0, 0) Q := by
  refine rn_X4_append_1_14 ⟨fun h => absurd h (nI_pos (by omega)), fun _ => ?_⟩
  rw [h1, nI_clamp (show n < 2147483648 by omega), nI_1, sg_c x hj, sg_n1 _ (sg_lt x j)]
  exact ⟨vp_in_nI hn (by decide), hQ⟩
theorem ct_sg20 {x : Int32} {n j : Nat} (hn : n < 80) (hj : j < 4) (h1 : M 101 2 = nI n) (hQ : am_T X 132 20 [some (.ref 101), some (.int x), some (.int (nI j + (-1)))] [] (jm_s (wi_m (wi_m M 101 2 (nI (n + 1))) 103 n (jby (sg x j))) L G) (0, 0) Q) : am_T X 132 20 [some (.ref 101), some (.int x), some (.int (nI j))] [] (jm_s M L G) (0, 0) Q := by
  refine rn_X6_sign_101_20 ⟨fun h => absurd h (nI_pos (by omega)), fun _ => ?_⟩
  rw [h1, nI_clamp (show n < 2147483648 by omega), nI_1, sg_b x hj, sg_n2 _ (sg_lt x j)]
  exact ⟨vp_in_nI hn (by decide), hQ⟩
theorem pp_sign (hA : jAw a) (hC : jC M L G a) (hR : jRR M L a) (x : Int32) : jpp X (jm_s M L G) 56 [some (.ref 0), some (.int x)] 132 [some (.ref 101), some (.int x), none] := by
  have hn := hA.2.2.2.1.1
  have ht := hA.2.2.2.1.2
  have c1 := hC.2.1.1
  have c2 := hC.2.1.2
  have r1 := hR.2.1.1
  have r2 := hR.2.1.2
  by_cases h76 : ja_tn a ≤ 76
  · have e1 : M 1 1 ≤ 76 := by rw [c1]; exact nI_le h76 (by decide)
    refine ⟨nI (ja_tn a + 4), rg_X5_sign_0_0 (cl_w (rn_X4_append_1_0 ⟨fun _ => ?_, fun e => absurd e1 e⟩))⟩
    refine ct_ap14 (n := ja_tn a) (j := 3) (by omega) (by decide) c1 (ct_ap14 (n := ja_tn a + 1) (j := 2) (by omega) (by decide) (wi_m_i _ _ _ _) (ct_ap14 (n := ja_tn a + 2) (j := 1) (by omega) (by decide) (wi_m_i _ _ _ _) (ct_ap14 (n := ja_tn a + 3) (j := 0) (by omega) (by decide) (wi_m_i _ _ _ _) (rn_X4_append_1_14 ⟨fun _ => ?_, fun e => absurd (by decide) e⟩))))
    rw [wi_m_i]
    refine ⟨_, rfl, rg_X5_sign_0_8 ⟨_, rfl, rfl, ?_⟩⟩
    have hC2 : jC (wi_m (wi_m (wi_m (wi_m (wi_m (wi_m (wi_m (wi_m M 2 (ja_tn a) (nI (sg x 3))) 1 1 (nI (ja_tn a + 1))) 2 (ja_tn a + 1) (nI (sg x 2))) 1 1 (nI (ja_tn a + 1 + 1))) 2 (ja_tn a + 2) (nI (sg x 1))) 1 1 (nI (ja_tn a + 2 + 1))) 2 (ja_tn a + 3) (nI (sg x 0))) 1 1 (nI (ja_tn a + 3 + 1))) L G (ja_t a (ja_tn a + 4) (fun k => if k = ja_tn a + 3 then sg x 0 else if k = ja_tn a + 2 then sg x 1 else if k = ja_tn a + 1 then sg x 2 else if k = ja_tn a then sg x 3 else ja_tx a k)) := by
      refine jC_tx hC (fun q q1 q2 => ?_) (wi_m_i _ _ _ _) (fun i hi => ?_)
      · rw [wi_m_p _ _ q1, wi_m_p _ _ q2, wi_m_p _ _ q1, wi_m_p _ _ q2, wi_m_p _ _ q1, wi_m_p _ _ q2, wi_m_p _ _ q1, wi_m_p _ _ q2]
      · have := c2 i
        simp only [wi_m_eq]
        grind
    have hR2 := jRR_f (M' := (wi_m (wi_m (wi_m (wi_m (wi_m (wi_m (wi_m (wi_m M 2 (ja_tn a) (nI (sg x 3))) 1 1 (nI (ja_tn a + 1))) 2 (ja_tn a + 1) (nI (sg x 2))) 1 1 (nI (ja_tn a + 1 + 1))) 2 (ja_tn a + 2) (nI (sg x 1))) 1 1 (nI (ja_tn a + 2 + 1))) 2 (ja_tn a + 3) (nI (sg x 0))) 1 1 (nI (ja_tn a + 3 + 1)))) hR (fun q q1 q2 => by rw [wi_m_p _ _ (by omega), wi_m_p _ _ (by omega), wi_m_p _ _ (by omega), wi_m_p _ _ (by omega), wi_m_p _ _ (by omega), wi_m_p _ _ (by omega), wi_m_p _ _ (by omega), wi_m_p _ _ (by omega)]) (L' := L) rfl
    generalize hM2 : (wi_m (wi_m (wi_m (wi_m (wi_m (wi_m (wi_m (wi_m M 2 (ja_tn a) (nI (sg x 3))) 1 1 (nI (ja_tn a + 1))) 2 (ja_tn a + 1) (nI (sg x 2))) 1 1 (nI (ja_tn a + 1 + 1))) 2 (ja_tn a + 2) (nI (sg x 1))) 1 1 (nI (ja_tn a + 2 + 1))) 2 (ja_tn a + 3) (nI (sg x 0))) 1 1 (nI (ja_tn a + 3 + 1))) = M2 at hC2 hR2 ⊢
    have r1' := hR2.2.1.1
    have r2' := hR2.2.1.2
    have e2 : M2 101 2 + 4 ≤ 80 := by
      rw [r1', show nI (ja_tn a) + 4 = nI (ja_tn a + 4) from nI_add _ 4]
      exact nI_le (show ja_tn a + 4 ≤ 80 by omega) (by decide)
    refine rn_X6_sign_101_0 ⟨fun _ => ?_, fun e => absurd e2 e⟩
    refine ct_sg20 (n := ja_tn a) (j := 3) (by omega) (by decide) r1' (ct_sg20 (n := ja_tn a + 1) (j := 2) (by omega) (by decide) (by rw [wi_m_p _ _ (show 101 ≠ 103 by decide), wi_m_i]) (ct_sg20 (n := ja_tn a + 2) (j := 1) (by omega) (by decide) (by rw [wi_m_p _ _ (show 101 ≠ 103 by decide), wi_m_i]) (ct_sg20 (n := ja_tn a + 3) (j := 0) (by omega) (by decide) (by rw [wi_m_p _ _ (show 101 ≠ 103 by decide), wi_m_i]) (rn_X6_sign_101_20 ⟨fun _ => ?_, fun e => absurd (by decide) e⟩))))
    rw [wi_m_p _ _ (show 101 ≠ 103 by decide), wi_m_i]
    refine ⟨_, rfl, rfl, ?_⟩
    refine jI_mk (jAw_t hA (n := ja_tn a + 4) (by omega) (fun i hi => ?_)) hC2 (fun q hq => ?_) rfl (jRR_tx hR2 (fun q q1 q2 => ?_) (fun i q1 q2 => ?_) ?_ (fun i hi => ?_))
    · have := ht i
      have := sg_lt x 0
      have := sg_lt x 1
      have := sg_lt x 2
      have := sg_lt x 3
      show (if i = ja_tn a + 3 then sg x 0 else if i = ja_tn a + 2 then sg x 1 else if i = ja_tn a + 1 then sg x 2 else if i = ja_tn a then sg x 3 else ja_tx a i) < 256
      grind
    · rw [wi_m_p _ _ (by omega), wi_m_p _ _ (by omega), wi_m_p _ _ (by omega), wi_m_p _ _ (by omega), wi_m_p _ _ (by omega), wi_m_p _ _ (by omega), wi_m_p _ _ (by omega), wi_m_p _ _ (by omega), wi_m_p _ _ (by omega)]
    · rw [wi_m_p _ _ q2, wi_m_p _ _ q1, wi_m_p _ _ q2, wi_m_p _ _ q1, wi_m_p _ _ q2, wi_m_p _ _ q1, wi_m_p _ _ q2, wi_m_p _ _ q1, wi_m_p _ _ q1]
    · simp only [wi_m_eq]
      grind
    · simp only [wi_m_eq]
      grind
    · have := r2' i
      simp only [wi_m_eq]
      grind
  · have e1 : ¬ M 1 1 ≤ 76 := by rw [c1]; exact nI_ge (show 76 < ja_tn a by omega) (by omega)
    have e2 : ¬ M 101 2 + 4 ≤ 80 := by
      rw [r1, show nI (ja_tn a) + 4 = nI (ja_tn a + 4) from nI_add _ 4]
      exact nI_ge (show 80 < ja_tn a + 4 by omega) (by omega)
    exact pp_rd hA hC hR (v := -1) (fun Q hQ => rg_X5_sign_0_0 (cl_w (rn_X4_append_1_0 ⟨fun e => absurd e e1, fun _ => ⟨_, rfl, rg_X5_sign_0_8 hQ⟩⟩))) (fun Q hQ => rn_X6_sign_101_0 ⟨fun e => absurd e e2, fun _ => hQ _ (jfr_0 M 0)⟩)
theorem pp_end (hA : jAw a) (hC : jC M L G a) (hR : jRR M L a) (x : Int32) : jpp X (jm_s M L G) 57 [some (.ref 0), some (.int x)] 133 [some (.ref 101), some (.int x)] := by
  have hn := hA.2.2.2.1.1
  have ht := hA.2.2.2.1.2
  have c1 := hC.2.1.1
  have c2 := hC.2.1.2
  have r1 := hR.2.1.1
  have r2 := hR.2.1.2
  rcases jx_case (ja_tn a + 1) (by omega) x with h | ⟨k, hk, rfl⟩
  · have hx : ¬ (0 ≤ x ∧ x ≤ nI (ja_tn a)) := fun e => h.elim (fun h => Int32.not_lt.mpr e.1 h) (fun h => Int32.not_lt.mpr e.2 (nI_lt_of (by omega) h))
    refine pp_rd hA hC hR (v := 0) (fun Q hQ => rg_X5_end_0_0 (cl_w (rn_X4_cut_1_0 ⟨fun _ => ⟨_, rfl, rn_X5_end_0_8 ⟨Or.inl rfl, hQ⟩⟩, fun h1 => ⟨fun h2 => ?_, fun _ => ⟨_, rfl, rn_X5_end_0_8 ⟨Or.inl rfl, hQ⟩⟩⟩⟩))) (fun Q hQ => rg_X6_end_101_0 (cl_i (fun _ h => ct_in h) ?_))
    · rw [c1] at h2
      exact absurd ⟨Int32.not_lt.mp h1, h2⟩ hx
    · rw [r1, jb_n (decide_eq_false hx)]
      exact rn_X6_end_101_14 ⟨fun _ => hQ _ (jfr_0 M 0), fun e => absurd rfl e⟩
  · have hx : 0 ≤ nI k ∧ nI k ≤ nI (ja_tn a) := ⟨nI_pos' (by omega), nI_le (by omega) (by omega)⟩
    refine ⟨1, rg_X5_end_0_0 (cl_w (rn_X4_cut_1_0 ⟨fun e => absurd e (nI_pos (by omega)), fun _ => ⟨fun _ => ⟨_, rfl, rn_X5_end_0_8 ⟨Or.inr rfl, ⟨_, rfl, rfl, ?_⟩⟩⟩, fun e => absurd ?_ e⟩⟩))⟩
    · have hC2 : jC (wi_m M 1 1 (nI k)) L G (ja_t a k (ja_tx a)) := jC_tx hC (fun q q1 q2 => wi_m_p _ _ q1) (wi_m_i _ _ _ _) (fun i hi => by rw [wi_m_p _ _ (show 2 ≠ 1 by decide)]; exact c2 i (by omega))
      have hR2 : jRR (wi_m M 1 1 (nI k)) L a := jRR_f hR (fun q q1 q2 => wi_m_p _ _ (by omega)) rfl
      refine rg_X6_end_101_0 (cl_i (fun _ h => ct_in h) ?_)
      have e : jb (decide (0 ≤ nI k ∧ nI k ≤ (wi_m M 1 1 (nI k)) 101 2)) = 1 := by
        rw [hR2.2.1.1]
        exact jb_y (decide_eq_true hx)
      rw [e]
      refine rn_X6_end_101_14 ⟨fun e => absurd e (by decide), fun _ => ⟨_, rfl, rfl, ?_⟩⟩
      refine jI_mk (jAw_t hA (by omega) (fun i hi => ht i (by omega))) hC2 (fun q hq => by rw [wi_m_p _ _ (by omega), wi_m_p _ _ (by omega)]) rfl (jRR_tx hR2 (fun q q1 q2 => by rw [wi_m_p _ _ q1, wi_m_p _ _ q1]) (fun i q1 q2 => by rw [wi_m_eq, if_pos rfl, if_neg q1, wi_m_eq, if_pos rfl, if_neg q2]) (wi_m_i _ _ _ _) (fun i hi => ?_))
      rw [wi_m_p _ _ (show 103 ≠ 101 by decide), wi_m_p _ _ (show 103 ≠ 101 by decide)]
      exact hR2.2.1.2 i (by omega)
    · rw [c1]
      exact hx.2
end Sign
