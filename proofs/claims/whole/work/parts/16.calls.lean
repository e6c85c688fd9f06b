/-! ===== calls ===== -/
theorem am_ZP_all : am_ZP.all am_zokB = true := by
  unfold am_ZP
  simp only [List.all_append, am_ZP0_ok, am_ZP1_ok, am_ZP2_ok, am_ZP3_ok, am_ZP4_ok, am_ZP5_ok, am_ZP6_ok, am_ZP7_ok, am_ZP8_ok, am_ZP9_ok, am_ZP10_ok, am_ZP11_ok, Bool.and_self]
theorem am_ZP_hd : ∀ e ∈ am_ZP, lw_tbl[e.2.1]? = some (am_head e.1) := by
  intro e h
  unfold am_ZP at h
  simp only [List.mem_append] at h
  rcases h with ((((((((((h | h) | h) | h) | h) | h) | h) | h) | h) | h) | h) | h
  · exact List.map_inj_left.mp am_ZP0_hd e h
  · exact List.map_inj_left.mp am_ZP1_hd e h
  · exact List.map_inj_left.mp am_ZP2_hd e h
  · exact List.map_inj_left.mp am_ZP3_hd e h
  · exact List.map_inj_left.mp am_ZP4_hd e h
  · exact List.map_inj_left.mp am_ZP5_hd e h
  · exact List.map_inj_left.mp am_ZP6_hd e h
  · exact List.map_inj_left.mp am_ZP7_hd e h
  · exact List.map_inj_left.mp am_ZP8_hd e h
  · exact List.map_inj_left.mp am_ZP9_hd e h
  · exact List.map_inj_left.mp am_ZP10_hd e h
  · exact List.map_inj_left.mp am_ZP11_hd e h
noncomputable def am_kd (kind : Nat) : Nat := match kind with
  | 0 => 0
  | 1 => 2
  | _ => 1
noncomputable def am_MZB (e : Nat × Nat × Nat × Nat × Nat × Nat) : Bool := match e.2.2.1 with
  | 300 => Nat.beq e.2.2.2.2.1 2
  | 301 => Nat.beq e.2.2.2.2.1 2
  | 302 => Nat.beq e.2.2.2.2.1 2
  | 303 => Nat.beq e.2.2.2.2.1 1
  | z => am_ZP.any (fun r => Nat.beq r.1 z && Nat.beq r.2.2.2.1 (am_kd e.2.2.2.2.1)) && Nat.ble z 299
theorem am_MLz : am_ML.all am_MZB = true := by decide +kernel
theorem am_MNz : am_MN.all am_MZB = true := by decide +kernel
section Calls
variable {l : Launch} {E : am_Env} {X : Nat × (Nat → Int32)} {y pc nx a b k : Nat} {x : Int32} {ts : List (Int32 × Nat)} {lo : am_L} {st r : List Value} {σ : am_S} {u : Nat × Nat} {Q : am_Q}
theorem am_cat_sum : ∀ r : List Value, ((r.map (am_cv E)).map fun v => v.category).sum = am_cat r
  | [] => rfl
  | v :: r => by
    show (am_cv E v).category + ((r.map (am_cv E)).map fun v => v.category).sum = v.category + am_cat r
    rw [am_cat_cv, am_cat_sum r]
/-- what an instruction is by its kind -/
def am_isI (kind k : Nat) (i : Instr) : Prop := (kind = 0 ∧ i = .invokevirtual k) ∨ (kind = 1 ∧ i = .invokespecial k) ∨ (kind = 2 ∧ i = .invokestatic k)
theorem am_inv_fx {kind : Nat} {i : Instr} (hi : am_isI kind k i) (hat : am_at y pc = some (i, nx, x, a, b, ts)) : decode (am_by y) pc = .ok (i, 3) ∧ nx = pc + 3 ∧ am_invB y k a b kind = true ∧ (ts = [] ∨ kind = 0 ∧ am_tsB y pc ts = true) := by
  rcases hi with ⟨rfl, rfl⟩ | ⟨rfl, rfl⟩ | ⟨rfl, rfl⟩
  · obtain ⟨hd, hn, ha⟩ := am_fx (L := 3) hat rfl
    obtain ⟨a1, a2⟩ := Bool.and_eq_true_iff.mp (show (am_invB y k a b 0 && am_tsB y pc ts) = true from ha)
    exact ⟨hd, hn, a1, Or.inr ⟨rfl, a2⟩⟩
  · obtain ⟨hd, hn, ha⟩ := am_fx (L := 3) hat rfl
    have ha2 := ha
    unfold am_argB at ha2
    dsimp only at ha2
    obtain ⟨a1, a2⟩ := Bool.and_eq_true_iff.mp ha2
    refine ⟨hd, hn, a1, Or.inl ?_⟩
    cases ts with
    | nil => rfl
    | cons _ _ => cases a2
  · obtain ⟨hd, hn, ha⟩ := am_fx (L := 3) hat rfl
    have ha2 := ha
    unfold am_argB at ha2
    dsimp only at ha2
    obtain ⟨a1, a2⟩ := Bool.and_eq_true_iff.mp ha2
    refine ⟨hd, hn, a1, Or.inl ?_⟩
    cases ts with
    | nil => rfl
    | cons _ _ => cases a2
theorem am_MN_lt {e : Nat × Nat × Nat × Nat × Nat × Nat} (h : e ∈ am_MN) : e.2.2.1 < 300 := by
  have := List.all_eq_true.mp am_MN_ok e h
  unfold am_MNB at this
  simp only [Bool.and_eq_true, decide_eq_true_eq] at this
  exact this.2.2
theorem am_ML_link {e : Nat × Nat × Nat × Nat × Nat × Nat} (h : e ∈ am_ML) : lw_tbl[e.2.2.2.2.2]? = some (.methodLink (am_os e.1) e.2.1 (am_pn e.2.2.1)) ∧ am_npB e.2.2.1 e.2.2.2.1 e.2.2.2.2.1 = true := by
  have := List.all_eq_true.mp am_ML_ok e h
  unfold am_MLB at this
  simp only [Bool.and_eq_true, decide_eq_true_eq] at this
  exact this
theorem am_MN_link {e : Nat × Nat × Nat × Nat × Nat × Nat} (h : e ∈ am_MN) : lw_tbl[e.2.2.2.2.2]? = some (.methodLinkNest (am_os e.1) e.2.1 (am_pn e.2.2.1) RX5) ∧ am_npB e.2.2.1 e.2.2.2.1 e.2.2.2.2.1 = true := by
  have := List.all_eq_true.mp am_MN_ok e h
  unfold am_MNB at this
  simp only [Bool.and_eq_true, decide_eq_true_eq] at this
  exact ⟨this.1, this.2.1⟩
theorem am_invP {z kind : Nat} (h : am_invB y k z b kind = true) (hz : 300 ≤ z) (h1 : z ≠ 998) (h2 : z ≠ 999) : (∃ q, (am_oy y, k, z, b, kind, q) ∈ am_ML) ∧ am_roomB y z = true := by
  unfold am_invB at h
  split at h
  · exact absurd rfl h1
  · exact absurd rfl h2
  · obtain ⟨a1, a2⟩ := Bool.and_eq_true_iff.mp h
    refine ⟨?_, a2⟩
    rcases Bool.or_eq_true_iff.mp a1 with q | q
    · exact am_at6_mem q
    · obtain ⟨q, hm⟩ := am_at6_mem q
      exact absurd (am_MN_lt hm) (Nat.not_lt.mpr hz)
theorem am_sd_prim {kind : Nat} {i : Instr} (hi : am_isI kind k i) (hat : am_at y pc = some (i, nx, x, a, b, ts)) (h : am_prim (am_Sem l E X) y nx lo st σ u Q a) : am_Sem l E X y pc lo st σ u Q := by
  intro p e s m args below meth c H locs ls hC hl hW hS h1 h2
  obtain ⟨hd, rfl, ha, -⟩ := am_inv_fx hi hat
  obtain ⟨hx, hb, hr, hml, hown, hts, hlk, hex, hnm, hcf⟩ := id hC
  have hml' : c.maxLocals = ls.size := hml.trans hl.1.symm
  unfold am_prim at h
  split at h
  · rename_i w v r
    split at h
    · rename_i hcat
      have hcat := Nat.le_of_ble_eq_true hcat
      obtain ⟨⟨q, hm⟩, hro⟩ := am_invP ha (by decide) (by decide) (by decide)
      have hk := Nat.eq_of_beq_eq_true (show Nat.beq kind 2 = true from List.all_eq_true.mp am_MLz _ hm)
      obtain ⟨r1, r2⟩ := Bool.and_eq_true_iff.mp (show (Nat.ble 1 (am_fr y) && Nat.ble 21 (am_lc y)) = true from hro)
      rcases hi with ⟨e1, -⟩ | ⟨e1, -⟩ | ⟨-, rfl⟩
      · rw [e1] at hk; cases hk
      · rw [e1] at hk; cases hk
      · refine va_mmax hx hb hml' hown (hts _ (am_tb (am_ML_link hm).1 rfl)) (hts _ (am_tb (i := 181) (by decide +kernel) rfl)) (hts _ (am_tb (i := 114) (by decide +kernel) rfl)) (hts _ (am_tb (i := 182) (by decide +kernel) rfl)) (Nat.le_of_ble_eq_true r1) ?_ h1 h2 hd (h p e s m args below meth c H locs ls hC hl hW hS h1 h2)
        have := Nat.le_of_ble_eq_true r2
        rw [am_cat_sum]
        show am_cat r + 13 ≤ am_lc y
        omega
    · exact h.elim
  · rename_i w v r
    split at h
    · rename_i hcat
      have hcat := Nat.le_of_ble_eq_true hcat
      obtain ⟨⟨q, hm⟩, hro⟩ := am_invP ha (by decide) (by decide) (by decide)
      have hk := Nat.eq_of_beq_eq_true (show Nat.beq kind 2 = true from List.all_eq_true.mp am_MLz _ hm)
      obtain ⟨r1, r2⟩ := Bool.and_eq_true_iff.mp (show (Nat.ble 1 (am_fr y) && Nat.ble 21 (am_lc y)) = true from hro)
      rcases hi with ⟨e1, -⟩ | ⟨e1, -⟩ | ⟨-, rfl⟩
      · rw [e1] at hk; cases hk
      · rw [e1] at hk; cases hk
      · refine va_mmin hx hb hml' hown (hts _ (am_tb (am_ML_link hm).1 rfl)) (hts _ (am_tb (i := 341) (by decide +kernel) rfl)) (hts _ (am_tb (i := 114) (by decide +kernel) rfl)) (hts _ (am_tb (i := 342) (by decide +kernel) rfl)) (Nat.le_of_ble_eq_true r1) ?_ h1 h2 hd (h p e s m args below meth c H locs ls hC hl hW hS h1 h2)
        have := Nat.le_of_ble_eq_true r2
        rw [am_cat_sum]
        show am_cat r + 13 ≤ am_lc y
        omega
    · exact h.elim
  · rename_i n dp q0 sp p0 r
    split at h
    · rename_i n0 n1 hcat har1 har2
      obtain ⟨hcat, hfg⟩ := Bool.and_eq_true_iff.mp hcat
      have hcat := Nat.le_of_ble_eq_true hcat
      have hfg := Nat.le_of_ble_eq_true hfg
      obtain ⟨⟨d1, d2, d3, d4, d5⟩, h⟩ := h
      obtain ⟨⟨q, hm⟩, hro⟩ := am_invP ha (by decide) (by decide) (by decide)
      have hk := Nat.eq_of_beq_eq_true (show Nat.beq kind 2 = true from List.all_eq_true.mp am_MLz _ hm)
      obtain ⟨r1, r2⟩ := Bool.and_eq_true_iff.mp (show (Nat.ble 1 (am_fr y) && Nat.ble 48 (am_lc y)) = true from hro)
      rcases hi with ⟨e1, -⟩ | ⟨e1, -⟩ | ⟨-, rfl⟩
      · rw [e1] at hk; cases hk
      · rw [e1] at hk; cases hk
      · have hs1 := am_arw_spec har1
        have hs2 := am_arw_spec har2
        refine va_copyi (tys := am_tys E) (ty := .int) hx hb hml' hown (hts _ (am_tb (am_ML_link hm).1 rfl)) (hts _ (am_tb (i := 451) (by decide +kernel) rfl)) (hts _ (am_tb (i := 450) (by decide +kernel) rfl)) (hts _ (am_tb (i := 118) (by decide +kernel) rfl)) hcf.1 hW.1 hW.2.1 hS p0 q0 0 0 (am_ws_at hs1) (am_ws_at hs2) rfl rfl rfl d1 d2 d3 d4 d5 (fun _ _ => rfl) (Nat.le_of_ble_eq_true r1) ?_ hd (fun H1 locs1 k1 k2 k3 => ?_)
        · have := Nat.le_of_ble_eq_true r2
          rw [am_cat_sum]
          show am_cat r + (nativeFrameWords "java/lang/System" "arraycopy" 5 + 11) ≤ am_lc y
          have e9 : nativeFrameWords "java/lang/System" "arraycopy" 5 = 7 := by decide
          rw [e9]
          omega
        · refine h p e s m args below meth c H1 locs1 ls hC hl (am_Wd_any hW ?_ k1 k2 rfl (fun e9 => ?_)) k3 h1 h2
          · rw [am_ws_cp hs2]
            refine congrArg (fun z => (am_ws E σ).set q0 (am_ad E q0, z)) ?_
            show (Sum.inl (E.2.1 0, n1, Sum.inl ((am_cp σ p0 sp.toNatClampNeg q0 dp.toNatClampNeg n.toNatClampNeg).2.1 q0)) : va_E) = _
            rw [show (am_cp σ p0 sp.toNatClampNeg q0 dp.toNatClampNeg n.toNatClampNeg).2.1 q0 = va_cpy (σ.2.1 p0) (σ.2.1 q0) sp.toNatClampNeg dp.toNatClampNeg n.toNatClampNeg from am_up_eq]
          · have e8 : σ.2.2.2.2 = 0 := e9
            omega
    · exact h.elim
  · rename_i v r
    split at h
    · rename_i hcat
      have hcat := Nat.le_of_ble_eq_true hcat
      obtain ⟨⟨q, hm⟩, hro⟩ := am_invP ha (by decide) (by decide) (by decide)
      have hk := Nat.eq_of_beq_eq_true (show Nat.beq kind 1 = true from List.all_eq_true.mp am_MLz _ hm)
      obtain ⟨r1, r2⟩ := Bool.and_eq_true_iff.mp (show (Nat.ble 1 (am_fr y) && Nat.ble 20 (am_lc y)) = true from hro)
      rcases hi with ⟨e1, -⟩ | ⟨-, rfl⟩ | ⟨e1, -⟩
      · rw [e1] at hk; cases hk
      · refine W.objInit hx hb hown (hts _ (am_tb (am_ML_link hm).1 rfl)) (hts _ (am_tb (i := 134) (by decide +kernel) rfl)) (hts _ (am_tb (i := 135) (by decide +kernel) rfl)) rfl (by rw [hml]; exact hl.1) rfl hd (Nat.le_of_ble_eq_true r1) ?_ (h p e s m args below meth c H locs ls hC hl hW hS h1 h2)
        have := Nat.le_of_ble_eq_true r2
        have e9 := lv_room (m := m) (pc := pc) (ls := ls) (rest := (Value.ref v :: r).map (am_cv E)) (st := r.map (am_cv E)) (by rw [am_cat_sum]; exact hcat)
        show _ + 12 ≤ am_lc y
        omega
      · rw [e1] at hk; cases hk
    · exact h.elim
  · exact h.elim
end Calls
