/-! ===== a call, by its kind ===== -/
theorem am_MT_own : ∀ r ∈ am_MT, r.1 < 10 := by decide +kernel
theorem am_oy_lt (z : Nat) : am_oy z < 10 := by
  unfold am_oy am_mi
  split
  · rename_i r hr
    rw [am_nth_eq] at hr
    exact am_MT_own r (List.mem_of_getElem? hr)
  · exact Nat.zero_lt_succ 9
section SdCall
variable {l : Launch} {E : am_Env} {X : Nat × (Nat → Int32)} {y pc nx a b k z : Nat} {x : Int32} {ts : List (Int32 × Nat)} {lo : am_L} {st as r : List Value} {σ : am_S} {u : Nat × Nat} {Q Q' : am_Q}
theorem am_ub_eq : am_ub z u = (u.1 + am_bc z, u.2 + am_bs z) := by
  unfold am_ub
  split
  · rename_i h
    have h1 : am_bc z = 0 := by omega
    have h2 : am_bs z = 0 := by omega
    rw [h1, h2]
    rfl
  · rfl
theorem am_okb_le (h1 : u.1 ≤ am_bc y) (h2 : u.2 ≤ am_bs y) (h : am_okb y z u = true) : u.1 + am_bc z ≤ am_bc y ∧ u.2 + am_bs z ≤ am_bs y := by
  unfold am_okb at h
  split at h
  · rename_i h9
    exact ⟨by omega, by omega⟩
  · obtain ⟨g1, g2⟩ := Bool.and_eq_true_iff.mp h
    exact ⟨Nat.le_of_ble_eq_true g1, Nat.le_of_ble_eq_true g2⟩
theorem am_roomz (hz : z < 300) (h : am_roomB y z = true) : am_fr z + 1 ≤ am_fr y ∧ 8 + (am_maxl z + 11) + am_lc z ≤ am_lc y := by
  unfold am_roomB at h
  split at h
  · omega
  · omega
  · omega
  · omega
  · obtain ⟨g1, g2⟩ := Bool.and_eq_true_iff.mp h
    exact ⟨Nat.le_of_ble_eq_true g1, Nat.le_of_ble_eq_true g2⟩
theorem am_pnz (hz : z < 300) : am_pn z = am_yn z := by
  unfold am_pn
  split
  · omega
  · omega
  · omega
  · omega
  · rfl
theorem am_invz {kind : Nat} (hz : z < 300) (h : am_invB y k z b kind = true) : ((∃ q, (am_oy y, k, z, b, kind, q) ∈ am_ML) ∨ (∃ q, (am_oy y, k, z, b, kind, q) ∈ am_MN)) ∧ am_roomB y z = true := by
  unfold am_invB at h
  split at h
  · omega
  · omega
  · obtain ⟨a1, a2⟩ := Bool.and_eq_true_iff.mp h
    refine ⟨?_, a2⟩
    rcases Bool.or_eq_true_iff.mp a1 with q | q
    · exact Or.inl (am_at6_mem q)
    · exact Or.inr (am_at6_mem q)
theorem am_MZz {e : Nat × Nat × Nat × Nat × Nat × Nat} (h : am_MZB e = true) (hz : e.2.2.1 < 300) : am_zr e.2.2.1 (am_kd e.2.2.2.2.1) := by
  unfold am_MZB at h
  split at h
  · omega
  · omega
  · omega
  · omega
  · obtain ⟨g1, -⟩ := Bool.and_eq_true_iff.mp h
    obtain ⟨⟨z', ph, pi, kd, pa, pb⟩, hm, he⟩ := List.any_eq_true.mp g1
    obtain ⟨e1, e2⟩ := Bool.and_eq_true_iff.mp he
    have e1 := Nat.eq_of_beq_eq_true e1
    have e2 := Nat.eq_of_beq_eq_true e2
    rw [← e1, ← e2]
    exact ⟨ph, pi, pa, pb, hm⟩
theorem am_np0 (hz : z < 300) (h : am_npB z b 0 = true) : (parseMethodDescriptor (am_yn z).desc).map (fun d => d.parameters.length + 1) = some b := by
  unfold am_npB at h
  split at h
  · rename_i hq
    have := Nat.le_of_ble_eq_true hq
    omega
  · exact of_decide_eq_true h
theorem am_np1 (hz : z < 300) (h : am_npB z b 1 = true) : (parseMethodDescriptor (am_yn z).desc).map (fun d => d.parameters.length + 1) = some b := by
  unfold am_npB at h
  split at h
  · rename_i hq
    have := Nat.le_of_ble_eq_true hq
    omega
  · exact of_decide_eq_true h
theorem am_np2 (hz : z < 300) (h : am_npB z b 2 = true) : (parseMethodDescriptor (am_yn z).desc).map (fun d => d.parameters.length) = some b := by
  unfold am_npB at h
  split at h
  · rename_i hq
    have := Nat.le_of_ble_eq_true hq
    omega
  · exact of_decide_eq_true h
theorem am_npS {o : Option MethodDescriptor} {n : Nat} (h : o.map (fun d => d.parameters.length + 1) = some (n + 1)) : o.map (fun d => d.parameters.length) = some n := by
  cases o with
  | none => cases h
  | some d =>
    have : d.parameters.length + 1 = n + 1 := Option.some.inj h
    show some d.parameters.length = some n
    rw [show d.parameters.length = n by omega]
/-- the machine's step over a call: what is common -/
theorem am_run {kind : Nat} {i : Instr} (hi : am_isI kind k i) (hat : am_at y pc = some (i, nx, x, z, b, ts)) (hz : z < 300) {p : Program} {e : Env} {s : State} {m : MethodId} {args : Array Value} {below : List Frame} {meth : Method} {c : Code} {H : Heap} {locs : List Loc} {ls : Array Slot}
    (hC : am_Ctx E X y p s m args meth c) (hl : am_H E ls (am_maxl y) lo) (hW : am_Wd E σ H) (hS : va_S (am_A E) s.heap H locs) (h1 : u.1 ≤ am_bc y) (h2 : u.2 ≤ am_bs y)
    (hst : st = as.reverse ++ r) (hn : as.length = b) (hcat : am_cat r ≤ 8) (hokb : am_okb y z u = true) (hrcv : am_rcv σ z kind as = true) (hcas : am_cat as ≤ am_maxl z) (hno : ∀ σ', ¬ Q' none σ')
    (h : am_Sem l E X z 0 (am_ent as (am_maxl z)) [] σ (0, 0) Q') : ∃ a9 : Array Value, va_Run p l e (am_rm y) s m args below meth c H locs u.1 u.2 (am_bc z) (am_bs z) (F0 m pc ls (st.map (am_cv E))) (r.map (am_cv E)) (am_Qc E Q' a9) (am_A E) := by
  obtain ⟨hd, -, ha, -⟩ := am_inv_fx hi hat
  obtain ⟨hx, hb, hr, hml, hown, hts, hlk, hex, hnm, hcf⟩ := id hC
  obtain ⟨hlist, hroom⟩ := am_invz hz ha
  have hR := am_roomz hz hroom
  have hpn := am_pnz hz
  have hf := am_okb_le h1 h2 hokb
  have hsize : (F0 m pc ls (st.map (am_cv E))).locals.size = am_maxl y := hl.1
  have hw8 : 2 * (F0 m pc ls (st.map (am_cv E))).monitorRoom + ((r.map (am_cv E)).map fun v => v.category).sum ≤ 8 := lv_room (by rw [am_cat_sum]; exact hcat)
  have hS0 : CallFix p m c (am_by y) (am_maxl y) s args am_TB (am_os (am_oy y)) := ⟨hx, hb, hml, hown, hts⟩
  have hpre := am_pre (as := as) hcf hW hS
  have hstk : st.map (am_cv E) = (as.map (am_cv E)).reverse ++ r.map (am_cv E) := by rw [hst, List.map_append, List.map_reverse]
  -- the callee's row, the link
  have hzr : am_zr z (am_kd kind) ∧ am_npB z b kind = true ∧ ((Cond.methodLink (am_os (am_oy y)) k (am_yn z) ∈ am_TB) ∨ va_Nw (Cond.methodLinkNest (am_os (am_oy y)) k (am_yn z) RX5) s) := by
    rcases hlist with ⟨q, hm⟩ | ⟨q, hm⟩
    · obtain ⟨g1, g2⟩ := am_ML_link hm
      refine ⟨am_MZz (List.all_eq_true.mp am_MLz _ hm) hz, g2, Or.inl ?_⟩
      rw [← hpn]
      exact am_tb g1 rfl
    · obtain ⟨g1, g2⟩ := am_MN_link hm
      refine ⟨am_MZz (List.all_eq_true.mp am_MNz _ hm) hz, g2, Or.inr ?_⟩
      rw [← hpn]
      exact hcf.2.1 _ (am_nwm g1 rfl)
  obtain ⟨hzr, hnp, hlink⟩ := hzr
  obtain ⟨f1, f2, f3, f4, f5, f6⟩ := am_zr_f hzr
  have hM := am_met hzr hcas hno h
  rcases hi with ⟨rfl, rfl⟩ | ⟨rfl, rfl⟩ | ⟨rfl, rfl⟩
  · -- virtual
    have hzr : am_zr z 0 := hzr
    obtain ⟨v1, v2⟩ := am_zr_v hzr
    have hh := am_zr_c hzr (by decide)
    have hw : am_head z :: am_TB = Cond.code (am_yn z) (am_by z) (am_maxl z) (am_re z) :: am_TB := by unfold am_head; rw [hh]
    have hrcv : (match (generalizing := false) as with | .ref p :: _ => Nat.beq (am_cls σ p) (am_mi z).1 | _ => false) = true := hrcv
    split at hrcv
    · rename_i p0 As hrcv0
      have hcls : am_cls σ p0 = am_oy z := Nat.eq_of_beq_eq_true hrcv
      obtain ⟨n', hn'⟩ : ∃ n', b = n' + 1 := ⟨As.length, by rw [← hn]; rfl⟩
      subst hn'
      have hAs : (As.map (am_cv E)).length = n' := by rw [List.length_map]; simpa using hn
      have hc1000 : am_oy z < 1000 := Nat.lt_of_lt_of_le (am_oy_lt z) (by decide)
      have hrv := am_recv (p0 := p0) hcf hW hS hcls hc1000
      rw [← f6] at hrv
      have hd2 := am_npS (am_np0 hz hnp)
      have hpv : PreV s H (am_yn z).cls (am_ad E p0) (am_Pc E X (Value.ref p0 :: As) σ) (As.map (am_cv E)) := ⟨am_blind, hrv, hpre⟩
      rcases hlink with q | q
      · have hG : GoodIn am_TB (wsV (am_os (am_oy y)) k (am_yn z).cls (am_yn z) (am_head z :: am_TB)) := by
          intro w hw9
          rcases List.mem_append.mp hw9 with h9 | h9
          · rcases (show w = Cond.methodLink (am_os (am_oy y)) k (am_yn z) ∨ w = Cond.instanceMethod (am_yn z) ∨ w = Cond.selects (am_yn z).cls (am_yn z) (am_yn z) ∨ w = Cond.initialized (am_yn z).cls by simpa using h9) with rfl | rfl | rfl | rfl
            · exact am_goodc q
            · exact am_goodc v1
            · exact am_goodc v2
            · exact am_goodc f2
          · exact am_good hzr w h9
        exact ⟨_, va_runV hS0 hM (cwV n' hts hG hw rfl rfl ⟨rfl, f4, f5, hd2⟩ hR) hpv rfl hAs hsize (by show st.map (am_cv E) = _; rw [hstk]; simp [am_cv]) hw8 hd hf⟩
      · exact ⟨_, va_runVN hS0 hM ⟨va_cnB n' hts (am_good hzr) hw rfl rfl q (hts _ f2) ⟨f4, f5, hd2⟩ hR, hts _ v1, hts _ v2⟩ hpv rfl hAs hsize (by show st.map (am_cv E) = _; rw [hstk]; simp [am_cv]) hw8 hd hf⟩
    · cases hrcv
  · -- a constructor
    have hzr : am_zr z 2 := hzr
    obtain ⟨v1, v2, v3⟩ := am_zr_i hzr
    have hh := am_zr_c hzr (by decide)
    have hw : am_head z :: am_TB = Cond.code (am_yn z) (am_by z) (am_maxl z) none :: am_TB := by unfold am_head; rw [hh, v3]
    have hrcv : (match (generalizing := false) as with | .ref _ :: _ => true | _ => false) = true := hrcv
    split at hrcv
    · rename_i p0 As hrcv0
      obtain ⟨n', hn'⟩ : ∃ n', b = n' + 1 := ⟨As.length, by rw [← hn]; rfl⟩
      subst hn'
      have hAs : (As.map (am_cv E)).length = n' := by rw [List.length_map]; simpa using hn
      have hd2 := am_npS (am_np1 hz hnp)
      have hps : PreS s H (am_Pc E X (Value.ref p0 :: As) σ) (.ref (am_ad E p0) :: As.map (am_cv E)) := ⟨am_blind, hpre⟩
      rcases hlink with q | q
      · exact ⟨_, va_runI hS0 hM (cwI n' hts (am_good hzr) hw rfl rfl (hts _ f2) (hts _ q) (hts _ v1) v2 ⟨f4, f5, hd2⟩ hR) hps rfl hAs hsize (by show st.map (am_cv E) = _; rw [hstk]; simp [am_cv]) hw8 hd hf⟩
      · exact ⟨_, va_runIN hS0 hM ⟨va_cnB n' hts (am_good hzr) hw rfl rfl q (hts _ f2) ⟨f4, f5, hd2⟩ hR, v2, hts _ v1⟩ hps rfl hAs hsize (by show st.map (am_cv E) = _; rw [hstk]; simp [am_cv]) hw8 hd hf⟩
    · cases hrcv
  · -- static
    have hzr : am_zr z 1 := hzr
    have v1 := am_zr_s hzr
    have hd2 := am_np2 hz hnp
    have hAs : (as.map (am_cv E)).length = b := by rw [List.length_map]; exact hn
    have hps : PreS s H (am_Pc E X as σ) (as.map (am_cv E)) := ⟨am_blind, hpre⟩
    have hG : ∀ q : Cond.methodLink (am_os (am_oy y)) k (am_yn z) ∈ am_TB, GoodIn am_TB (va_wsS (am_os (am_oy y)) k (am_yn z) (am_head z :: am_TB)) := by
      intro q w hw9
      rcases List.mem_append.mp hw9 with h9 | h9
      · rcases (show w = Cond.methodLink (am_os (am_oy y)) k (am_yn z) ∨ w = Cond.static (am_yn z) ∨ w = Cond.initialized (am_yn z).cls by simpa using h9) with rfl | rfl | rfl
        · exact am_goodc q
        · exact am_goodc v1
        · exact am_goodc f2
      · exact am_good hzr w h9
    cases hh : am_look am_HH z with
    | none =>
      have hw : am_head z :: am_TB = Cond.code (am_yn z) (am_by z) (am_maxl z) (am_re z) :: am_TB := by unfold am_head; rw [hh]
      rcases hlink with q | q
      · exact ⟨_, va_runS hS0 hM (va_cwS b hts (hG q) hw rfl rfl ⟨f4, f5, hd2⟩ hR) hps rfl hAs hsize hstk hw8 hd hf⟩
      · exact ⟨_, va_runSN hS0 hM ⟨va_cnB b hts (am_good hzr) hw rfl rfl q (hts _ f2) ⟨f4, f5, hd2⟩ hR, hts _ v1, trivial⟩ hps rfl hAs hsize hstk hw8 hd hf⟩
    | some hh9 =>
      have hw : am_head z :: am_TB = Cond.codeWith (am_yn z) (am_by z) (am_maxl z) (am_re z) hh9 :: am_TB := by unfold am_head; rw [hh]
      rcases hlink with q | q
      · exact ⟨_, vx_runSW hS0 hM (vx_cwSW b hts (hG q) hw rfl rfl ⟨f4, f5, hd2⟩ hR) hps rfl hAs hsize hstk hw8 hd hf⟩
      · have h226 : 226 ≤ z ∧ z ≤ 229 := by
          have hm := am_look_mem _ _ _ hh
          have : ∀ e ∈ am_HH, 226 ≤ e.1 ∧ e.1 ≤ 229 := by decide +kernel
          exact this _ hm
        have hnn : ∀ e ∈ am_MN, ¬ (226 ≤ e.2.2.1 ∧ e.2.2.1 ≤ 229) := by decide +kernel
        rcases hlist with ⟨q9, hm⟩ | ⟨q9, hm⟩
        · have g1 := (am_ML_link hm).1
          rw [hpn] at g1
          exact ⟨_, vx_runSW hS0 hM (vx_cwSW b hts (hG (am_tb g1 rfl)) hw rfl rfl ⟨f4, f5, hd2⟩ hR) hps rfl hAs hsize hstk hw8 hd hf⟩
        · exact absurd h226 (hnn _ hm)
end SdCall
