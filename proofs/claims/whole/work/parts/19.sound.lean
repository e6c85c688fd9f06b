/-! ===== the abstract machine's word holds on the machine ===== -/
theorem am_xk1 : lw_tbl[910]? = some (Cond.classLink RL 13 am_NSE) := by decide +kernel
theorem am_xk2 : lw_tbl[918]? = some (Cond.castable am_NSE am_NSE) := by decide +kernel
theorem am_HH_own : ∀ e ∈ am_HH, am_oy e.1 = 7 := by decide +kernel
section Sound
variable {l : Launch} {E : am_Env} {X : Nat × (Nat → Int32)} {y pc nx a b k z : Nat} {x : Int32} {ts : List (Int32 × Nat)} {lo : am_L} {st as r : List Value} {σ : am_S} {u : Nat × Nat} {Q Q' : am_Q}
theorem am_sd_call {kind : Nat} {i : Instr} (hi : am_isI kind k i) (hat : am_at y pc = some (i, nx, x, z, b, [])) (hz : Nat.ble 300 z = false) (h : am_call (am_Sem l E X) (am_Sem l E X) y nx lo st σ u Q z b kind []) : am_Sem l E X y pc lo st σ u Q := by
  have hz : z < 300 := by
    rcases Nat.lt_or_ge z 300 with q | q
    · exact q
    · rw [Nat.ble_eq_true_of_le q] at hz; cases hz
  unfold am_call at h
  split at h
  · rename_i as r hpop
    split at h
    · rename_i hck
      obtain ⟨c1, c2⟩ := Bool.and_eq_true_iff.mp hck
      obtain ⟨c1, c3⟩ := Bool.and_eq_true_iff.mp c1
      obtain ⟨c2, c4⟩ := Bool.and_eq_true_iff.mp c2
      have c1 := Nat.le_of_ble_eq_true c1
      have c4 := Nat.le_of_ble_eq_true c4
      obtain ⟨xs, e1, e2, e3⟩ := am_pop_spec _ _ _ _ _ hpop
      rw [List.append_nil] at e3
      have hst : st = as.reverse ++ r := by rw [e3, List.reverse_reverse]; exact e1
      have hn : as.length = b := by rw [e3, List.length_reverse]; exact e2
      have key : ∀ Q' : am_Q, (∀ σ', ¬ Q' none σ') → am_Sem l E X z 0 (am_ent as (am_maxl z)) [] σ (0, 0) Q' → (∀ v σ', Q' (some v) σ' → am_Sem l E X y nx lo (v.toList ++ r) σ' (am_ub z u) Q) → am_Sem l E X y pc lo st σ u Q := by
        intro Q' hno hsem hk p e s m args below meth c H locs ls hC hl hW hS h1 h2
        obtain ⟨a9, hrun⟩ := am_run (e := e) (below := below) hi hat hz hC hl hW hS h1 h2 hst hn c1 c3 c2 c4 hno hsem
        obtain ⟨-, rfl, -, -⟩ := am_inv_fx hi hat
        refine am_goon hrun hS (fun v σ' H1 locs1 q1 q2 q3 => ?_)
        have hf := am_okb_le h1 h2 c3
        have kk := hk v σ' q1 p e s m args below meth c H1 locs1 ls hC hl q2 q3 (by rw [am_ub_eq]; exact hf.1) (by rw [am_ub_eq]; exact hf.2)
        rw [am_ub_eq, List.map_append] at kk
        have e9 : v.toList.map (am_cv E) = (v.map (am_cv E)).toList := by cases v <;> rfl
        rw [e9] at kk
        exact kk
      unfold am_cont at h
      dsimp only at h
      split at h
      · obtain ⟨K, g1, g2⟩ := h
        refine key _ (fun σ' h9 => by cases h9.1) g1 (fun v σ' h9 => ?_)
        obtain ⟨h9, h8⟩ := h9
        cases h9
        exact g2 σ' h8
      · obtain ⟨K, g1, g2⟩ := h
        refine key _ (fun σ' h9 => by obtain ⟨w, h9, -⟩ := h9; cases h9) g1 (fun v σ' h9 => ?_)
        obtain ⟨w, h9, h8⟩ := h9
        cases h9
        exact g2 w σ' h8
      · obtain ⟨K, g1, g2⟩ := h
        refine key _ (fun σ' h9 => by obtain ⟨w, h9, -⟩ := h9; cases h9) g1 (fun v σ' h9 => ?_)
        obtain ⟨w, h9, h8⟩ := h9
        cases h9
        exact g2 w σ' h8
    · exact h.elim
  · exact h.elim
theorem am_H_none {ls' : Array Slot} {nL i : Nat} {v : Value} (h : lv_has ls' nL ((i, v) :: (am_lv E lo).filter (fun q => !(q.1 == i) && !(q.1 + 1 == i && q.2.category == 2)))) : am_H E ls' nL (am_put none (am_kill lo i) i) := by
  refine ⟨h.1, h.2.1, fun j w hj => ?_⟩
  rcases am_get_put hj with ⟨rfl, e⟩ | ⟨e1, e2⟩
  · cases e
  · obtain ⟨e3, e4⟩ := am_get_kill e2
    refine h.2.2 (j, am_cv E w) (List.mem_cons_of_mem _ (List.mem_filter.mpr ⟨am_lv_mem.mpr ⟨w, e3, rfl⟩, ?_⟩))
    simp only [am_cat_cv]
    have h1 : (j == i) = false := by simpa using e1
    rw [h1]
    cases h2 : (j + 1 == i) with
    | false => rfl
    | true =>
      have : w.category ≠ 2 := fun e => e4 ⟨by simpa using h2, e⟩
      simpa using this
theorem am_rcv0 (h : am_rcv σ z 0 as = true) : ∃ p0 As, as = Value.ref p0 :: As ∧ am_cls σ p0 = am_oy z := by
  have h : (match (generalizing := false) as with | .ref p :: _ => Nat.beq (am_cls σ p) (am_mi z).1 | _ => false) = true := h
  split at h
  · exact ⟨_, _, rfl, Nat.eq_of_beq_eq_true h⟩
  · cases h
/-- a call that may throw, and its handler -/
theorem am_sd_callx {e1 e2 : Int32 × Nat} {er : List (Int32 × Nat)} (hat : am_at y pc = some (.invokevirtual k, nx, x, z, b, e1 :: e2 :: er)) (hz : Nat.ble 300 z = false) (h : am_call (am_Sem l E X) (am_Sem l E X) y nx lo st σ u Q z b 0 (e1 :: e2 :: er)) : am_Sem l E X y pc lo st σ u Q := by
  have hz : z < 300 := by
    rcases Nat.lt_or_ge z 300 with q | q
    · exact q
    · rw [Nat.ble_eq_true_of_le q] at hz; cases hz
  obtain ⟨d1, hp⟩ := e1
  obtain ⟨d2, kl⟩ := e2
  unfold am_call at h
  split at h
  · rename_i as r hpop
    split at h
    · rename_i hck
      obtain ⟨c1, c2⟩ := Bool.and_eq_true_iff.mp hck
      obtain ⟨c1, c3⟩ := Bool.and_eq_true_iff.mp c1
      obtain ⟨c2, c4⟩ := Bool.and_eq_true_iff.mp c2
      have c1 := Nat.le_of_ble_eq_true c1
      have c4 := Nat.le_of_ble_eq_true c4
      obtain ⟨xs, e1, e2, e3⟩ := am_pop_spec _ _ _ _ _ hpop
      rw [List.append_nil] at e3
      have hst : st = as.reverse ++ r := by rw [e3, List.reverse_reverse]; exact e1
      have hn : as.length = b := by rw [e3, List.length_reverse]; exact e2
      have key : ∀ Q' : am_Q, am_Sem l E X z 0 (am_ent as (am_maxl z)) [] σ (0, 0) Q' → (∀ v σ', Q' (some v) σ' → am_Sem l E X y nx lo (v.toList ++ r) σ' (am_ub z u) Q) → (∀ σ', Q' none σ' → am_Sem l E X y hp (am_put none (am_kill lo kl) kl) [] σ' (am_ub z u) Q) → am_Sem l E X y pc lo st σ u Q := by
        intro Q' hsem hk hkx p e s m args below meth c H locs ls hC hl hW hS h1 h2
        have hi : am_isI 0 k (.invokevirtual k) := Or.inl ⟨rfl, rfl⟩
        obtain ⟨hd, rfl, ha, hts9⟩ := am_inv_fx hi hat
        obtain ⟨hx, hb, hr, hml, hown, hts, hlk, hex, hnm, hcf⟩ := id hC
        obtain ⟨hlist, hroom⟩ := am_invz hz ha
        have hR := am_roomz hz hroom
        have hpn := am_pnz hz
        have hf := am_okb_le h1 h2 c3
        -- the handler
        have htsB : am_tsB y pc ((d1, hp) :: (d2, kl) :: er) = true := by
          rcases hts9 with q | q
          · cases q
          · exact q.2
        obtain ⟨d3, hp0, rfl⟩ : ∃ d3 hp0, er = [(d3, hp0)] := by
          unfold am_tsB at htsB
          split at htsB
          · cases ‹_ :: _ = []›
          · rename_i heq
            cases heq
            exact ⟨_, _, rfl⟩
          · cases htsB
        have htsB2 : (((decide (decode (am_by y) hp0 = .ok (.astore kl, 2)) && Nat.beq hp (hp0 + 2)) || (decide (decode (am_by y) hp0 = .ok (.astore_n (Fin.ofNat 4 kl), 1)) && (Nat.beq hp (hp0 + 1) && Nat.ble kl 3))) && (Nat.ble (kl + 1) (am_maxl y) && (match am_hh y with
            | [(s0, e0, hp9, ct)] => Nat.ble s0 pc && (Nat.ble (pc + 1) e0 && (Nat.beq hp9 hp0 && Nat.beq ct 13))
            | _ => false))) = true := htsB
        obtain ⟨t1, t2⟩ := Bool.and_eq_true_iff.mp htsB2
        obtain ⟨t2, t3⟩ := Bool.and_eq_true_iff.mp t2
        have t2 := Nat.le_of_ble_eq_true t2
        have hown7 : am_oy y = 7 := by
          cases hh : am_look am_HH y with
          | none =>
            unfold am_hh at t3
            rw [hh] at t3
            cases t3
          | some q => exact am_HH_own _ (am_look_mem _ _ _ hh)
        -- the callee
        have hzr : am_zr z 0 ∧ am_npB z b 0 = true ∧ (Cond.methodLink (am_os (am_oy y)) k (am_yn z) ∈ am_TB) := by
          rcases hlist with ⟨q, hm⟩ | ⟨q, hm⟩
          · obtain ⟨g1, g2⟩ := am_ML_link hm
            refine ⟨am_MZz (List.all_eq_true.mp am_MLz _ hm) hz, g2, ?_⟩
            rw [← hpn]
            exact am_tb g1 rfl
          · have hn7 : ∀ e ∈ am_MN, e.1 ≠ 7 := by decide +kernel
            exact absurd hown7 (hn7 _ hm)
        obtain ⟨hzr, hnp, hlink⟩ := hzr
        obtain ⟨f1, f2, f3, f4, f5, f6⟩ := am_zr_f hzr
        have hM := am_vmet hzr c4 hsem
        obtain ⟨v1, v2⟩ := am_zr_v hzr
        have hh := am_zr_c hzr (by decide)
        have hw : am_head z :: am_TB = Cond.code (am_yn z) (am_by z) (am_maxl z) (am_re z) :: am_TB := by unfold am_head; rw [hh]
        obtain ⟨p0, As, has, hcls⟩ := am_rcv0 c2
        subst has
        · skip
          obtain ⟨n', hn'⟩ : ∃ n', b = n' + 1 := ⟨As.length, by rw [← hn]; rfl⟩
          subst hn'
          have hAs : (As.map (am_cv E)).length = n' := by rw [List.length_map]; simpa using hn
          have hrv := am_recv (p0 := p0) hcf hW hS hcls (Nat.lt_of_lt_of_le (am_oy_lt z) (by decide))
          rw [← f6] at hrv
          have hd2 := am_npS (am_np0 hz hnp)
          have hpre := am_pre (as := Value.ref p0 :: As) hcf hW hS
          have hpv : PreV s H (am_yn z).cls (am_ad E p0) (am_Pc E X (Value.ref p0 :: As) σ) (As.map (am_cv E)) := ⟨am_blind, hrv, hpre⟩
          have hstk : st.map (am_cv E) = ((Value.ref p0 :: As).map (am_cv E)).reverse ++ r.map (am_cv E) := by rw [hst, List.map_append, List.map_reverse]
          have hG : GoodIn am_TB (wsV (am_os (am_oy y)) k (am_yn z).cls (am_yn z) (am_head z :: am_TB)) := by
            intro w hw9
            rcases List.mem_append.mp hw9 with h9 | h9
            · rcases (show w = Cond.methodLink (am_os (am_oy y)) k (am_yn z) ∨ w = Cond.instanceMethod (am_yn z) ∨ w = Cond.selects (am_yn z).cls (am_yn z) (am_yn z) ∨ w = Cond.initialized (am_yn z).cls by simpa using h9) with rfl | rfl | rfl | rfl
              · exact am_goodc hlink
              · exact am_goodc v1
              · exact am_goodc v2
              · exact am_goodc f2
            · exact am_good hzr w h9
          have hrun := vx_runV (p := p) (e := e) (below := below) (meth := meth) (locs := locs) (cells := u.1) (slots := u.2) (R := am_rm y) (g := F0 m pc ls (st.map (am_cv E))) (rest := r.map (am_cv E)) ⟨hx, hb, hml, hown, hts⟩ hM (cwV n' hts hG hw rfl rfl ⟨rfl, f4, f5, hd2⟩ hR) hpv rfl hAs hl.1 (by show st.map (am_cv E) = _; rw [hstk]; simp [am_cv]) (lv_room (by rw [am_cat_sum]; exact c1)) hd hf
          intro T hT X9
          have keep : ∀ {st₀ t T' : State} {L : List Loc}, st₀.heap = H → T'.heap = t.heap → (∀ q ∈ L, am_A E q.base) → va_F (am_A E) st₀ t → va_S (am_A E) s.heap T'.heap (locs ++ L) := by
            intro st₀ t T' L h0 e1 hL hF
            obtain ⟨hz9, hk9⟩ := hF
            rw [h0] at hz9 hk9
            exact ⟨Nat.le_trans hS.1 (by rw [e1]; exact hz9), fun q h1 h2 => by rw [e1, hk9 q (Nat.lt_of_lt_of_le h1 hS.1) h2]; exact hS.2.1 q h1 h2, fun q hq => by
              rcases List.mem_append.mp hq with h | h
              · exact hS.2.2 q h
              · exact hL q h⟩
          rcases hrun T hT X9 with ⟨v, st₀, t, T', L, h0, X', hL, e1, e2, ⟨⟨v', σ', hv, hq, hw9⟩, hF⟩, st9⟩ | ⟨q, st₀, t, T', L, En, ce, h0, X', hL, e1, e2, ⟨hEn, ⟨σ', hq, hw9⟩, hF⟩, hce, hcv, hcl, st9⟩
          · cases hv
            have kk := hk v' σ' hq p e s m args below meth c T'.heap (locs ++ L) ls hC hl (by rw [e1]; exact hw9) (keep h0 e1 hL hF) (by rw [am_ub_eq]; exact hf.1) (by rw [am_ub_eq]; exact hf.2)
            rw [am_ub_eq, List.map_append] at kk
            have e9 : v'.toList.map (am_cv E) = (v'.map (am_cv E)).toList := by cases v' <;> rfl
            rw [e9] at kk
            obtain ⟨t2, a1, b1⟩ := kk T' rfl X'
            exact ⟨t2, st9 t2 a1, b1⟩
          · subst hEn
            have hx9 := hkx σ' hq p e s m args below meth c T'.heap (locs ++ L)
            have hcatch : vx_W p l e (am_rm y) s m args below meth c T'.heap (locs ++ L) (u.1 + am_bc z) (u.2 + am_bs z) (vx_MQ below (am_Qc E Q) (am_XC E Q) args s (am_bc y) (am_bs y) (am_A E)) (F0 m pc ls (r.map (am_cv E))) q := by
              cases hhy : am_hh y with
              | nil => rw [hhy] at t3; cases t3
              | cons e0 er0 =>
                rw [hhy] at t3
                cases er0 with
                | cons _ _ => cases t3
                | nil =>
                  obtain ⟨s0, en0, hp9, ct⟩ := e0
                  dsimp only at t3
                  simp only [Bool.and_eq_true] at t3
                  obtain ⟨u1, u2, u3, u4⟩ := t3
                  have u1 := Nat.le_of_ble_eq_true u1
                  have u2 := Nat.le_of_ble_eq_true u2
                  cases Nat.eq_of_beq_eq_true u3
                  cases Nat.eq_of_beq_eq_true u4
                  have hct : (Cond.classLink (am_os (am_oy y)) 13 am_NSE).before args s = true := by
                    rw [hown7]
                    exact hts _ (am_tb am_xk1 rfl)
                  refine vx_catch (name := am_NSE) hown [] ⟨s0, en0, hp0, 13⟩ [] (by rw [hex, hhy]; rfl) (fun z9 hz9 => absurd hz9 List.not_mem_nil) ?_ (show (13 : Nat) ≠ 0 by decide) hct (am_nest hcf (am_nwm am_xk2 rfl)) (by rw [e1]; exact hce) hcv hcl ?_
                  · show covers _ pc = true
                    simp [covers]
                    omega
                  · show W _ _ _ _ _ _ _ _ _ _ _ _ _ _ _ (F0 m hp0 ls [.ref q])
                    have fin : ∀ ls' : Array Slot, lv_has ls' (am_maxl y) ((kl, Value.ref q) :: (am_lv E lo).filter (fun q => !(q.1 == kl) && !(q.1 + 1 == kl && q.2.category == 2))) → W p l e (am_rm y) s m args below meth c T'.heap (locs ++ L) (u.1 + am_bc z) (u.2 + am_bs z) (vx_MQ below (am_Qc E Q) (am_XC E Q) args s (am_bc y) (am_bs y) (am_A E)) (F0 m hp ls' []) := by
                      intro ls' hl'
                      have kk := hx9 ls' hC (am_H_none hl') (by rw [e1]; exact hw9) (keep h0 e1 hL hF) (by rw [am_ub_eq]; exact hf.1) (by rw [am_ub_eq]; exact hf.2)
                      rw [am_ub_eq] at kk
                      exact kk
                    rcases Bool.or_eq_true_iff.mp t1 with g | g
                    · obtain ⟨g1, g2⟩ := Bool.and_eq_true_iff.mp g
                      have g1 := of_decide_eq_true g1
                      cases Nat.eq_of_beq_eq_true g2
                      exact lv_astore hx hb g1 (am_H_has hl) t2 rfl fin
                    · obtain ⟨g1, g2⟩ := Bool.and_eq_true_iff.mp g
                      obtain ⟨g2, g3⟩ := Bool.and_eq_true_iff.mp g2
                      have g1 := of_decide_eq_true g1
                      have g3 := Nat.le_of_ble_eq_true g3
                      cases Nat.eq_of_beq_eq_true g2
                      refine lv_astore_n hx hb g1 (i := kl) ?_ (am_H_has hl) t2 rfl fin
                      show kl % 4 = kl
                      omega
            obtain ⟨t2, a1, b1⟩ := hcatch T' rfl X'
            exact ⟨t2, st9.trans a1, b1⟩
      unfold am_cont at h
      dsimp only at h
      split at h
      · obtain ⟨K, Kx, g1, g2, g3⟩ := h
        refine key _ g1 (fun v σ' h9 => ?_) (fun σ' h9 => ?_)
        · rcases h9 with ⟨w, h9, h8⟩ | ⟨h9, -⟩
          · cases h9
            exact g2 w σ' h8
          · cases h9
        · rcases h9 with ⟨w, h9, -⟩ | ⟨-, h8⟩
          · cases h9
          · exact g3 σ' h8
      · obtain ⟨K, Kx, g1, g2, g3⟩ := h
        refine key _ g1 (fun v σ' h9 => ?_) (fun σ' h9 => ?_)
        · rcases h9 with ⟨w, h9, h8⟩ | ⟨h9, -⟩
          · cases h9
            exact g2 w σ' h8
          · cases h9
        · rcases h9 with ⟨w, h9, -⟩ | ⟨-, h8⟩
          · cases h9
          · exact g3 σ' h8
    · exact h.elim
  · exact h.elim
end Sound
