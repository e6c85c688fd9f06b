/-! ===== the machine's rows for arrays, constants, what is new ===== -/
noncomputable def am_GSc (e : Nat × Nat × Nat × String × String × String × Nat) : Bool := match e.2.2.1 with
  | 0 => decide ((e.2.2.2.1, e.2.2.2.2.1, e.2.2.2.2.2.1) = ("java/lang/String", "COMPACT_STRINGS", "Z"))
  | k => decide ((e.2.2.2.1, e.2.2.2.2.1, e.2.2.2.2.2.1, k) ∈ am_SL)
theorem am_GSc_ok : am_GS.all am_GSc = true := by decide +kernel
theorem am_GNc_ok : am_GN.all am_GSc = true := by decide +kernel
theorem am_KS_big : ∀ e ∈ am_KS, 1000 ≤ e.2.2.2 := by decide +kernel
theorem am_SL_big : ∀ e ∈ am_SL, 1000 ≤ e.2.2.2 := by decide +kernel
/-- a text by ldc_w -/
theorem vy_ldcSW {p : Program} {l : Launch} {e : Env} {R : Room} {s : State} {m : MethodId} {args : Array Value} {below : List Frame} {meth : Method} {c : Code} {H : Heap} {locs : List Loc} {cells slots : Nat} {Q : State → Prop} {pc : Nat} {ls : Array Slot} {rest : List Value} {cc : ByteArray} (hexec : p.tables.exec = Jvm.exec) (hb : c.code = cc) {own tx : String} {index q : Nat} (hown : s.vm.findClass own = some m.cls) (hZ : vk_R own index tx q s) (hdg : decode cc pc = .ok (.ldc_w index, 3))
    (k : W p l e R s m args below meth c H locs cells slots Q (F0 m (pc + 3) ls (.ref q :: rest))) : W p l e R s m args below meth c H locs cells slots Q (F0 m pc ls rest) := by
  intro T hT X
  obtain ⟨t, a1, b1⟩ := k T hT X
  exact ⟨t, X.ldcStringW hexec hown (text := tx) (a := q) hZ.1 hZ.2 (g := F0 m pc ls rest) rfl (by rw [hb]; exact hdg) t a1, b1⟩
section Arr
variable {l : Launch} {E : am_Env} {X : Nat × (Nat → Int32)} {y pc nx a b k : Nat} {x : Int32} {ts : List (Int32 × Nat)} {lo : am_L} {st r : List Value} {σ : am_S} {u : Nat × Nat} {Q : am_Q}
theorem am_ad_big {p : Nat} (h : 1000 ≤ p) : am_ad E p = E.2.2.2 p := if_neg (Nat.not_lt.mpr h)
/-- what an array that may be read is -/
theorem am_arr_spec {p0 kd n : Nat} {f : Nat → Int32} (h : am_arr X σ p0 = some (kd, n, f)) : (p0 < 1000 ∧ σ.1[p0]? = some (.inr (kd, n)) ∧ f = σ.2.1 p0) ∨ (p0 = 1000 ∧ kd = 0 ∧ n = X.1 ∧ f = X.2) ∨ (1000 ≤ p0 ∧ ∃ li : List Int32, (p0, kd, li) ∈ am_KA ∧ n = li.length ∧ f = fun i => li.getD i 0) := by
  unfold am_arr at h
  cases hp : Nat.ble 1000 p0 with
  | false =>
    rw [hp] at h
    dsimp only at h
    have hlt : p0 < 1000 := by
      rcases Nat.lt_or_ge p0 1000 with q | q
      · exact q
      · rw [Nat.ble_eq_true_of_le q] at hp; cases hp
    split at h
    · rename_i kd' n' hn
      cases h
      exact Or.inl ⟨hlt, am_nthE hn, rfl⟩
    · cases h
  | true =>
    rw [hp] at h
    dsimp only at h
    have hge := Nat.le_of_ble_eq_true hp
    cases hq : Nat.beq p0 1000 with
    | true =>
      rw [hq] at h
      cases h
      exact Or.inr (Or.inl ⟨Nat.eq_of_beq_eq_true hq, rfl, rfl, rfl⟩)
    | false =>
      rw [hq] at h
      dsimp only at h
      split at h
      · rename_i kd' li hn
        cases h
        exact Or.inr (Or.inr ⟨hge, li, am_look_mem _ _ _ hn, rfl, rfl⟩)
      · cases h
theorem am_sd_iaload (hat : am_at y pc = some (.iaload, nx, x, a, b, ts)) (h : am_ald X σ st 0 0 (fun s => am_Sem l E X y nx lo s σ u Q)) : am_Sem l E X y pc lo st σ u Q := by
  intro p e s m args below meth c H locs ls hC hl hW hS h1 h2
  obtain ⟨hd, rfl, ha⟩ := am_fx (L := 1) hat rfl
  obtain ⟨hx, hb, hr, hml, hown, hts, hlk, hex, hnm, hcf⟩ := id hC
  unfold am_ald at h
  split at h
  · rename_i j p0 r
    split at h
    · rename_i kd n f harr
      split at h
      · rename_i hkd
        have : kd = 0 := by
          rcases Bool.or_eq_true_iff.mp hkd with q | q <;> exact Nat.eq_of_beq_eq_true q
        subst this
        have kk := h.2 p e s m args below meth c H locs ls hC hl hW hS h1 h2
        rcases am_arr_spec harr with ⟨q1, q2, rfl⟩ | ⟨rfl, -, rfl, rfl⟩ | ⟨q1, li, q2, rfl, rfl⟩
        · exact va_iald (tys := am_tys E) hx hb hcf.1 hW.1 p0 0 (am_ws_at q2) rfl h.1 hd kk
        · obtain ⟨x1, x2, x3⟩ := hcf.2.2.2.2.2.2.2.2.2.2.2
          exact va_sld hx hb x1 (Nat.lt_of_lt_of_le x2 x3) (Nat.not_le.mpr x2) hS h.1 hd kk
        · show W _ _ _ _ _ _ _ _ _ _ _ _ _ _ _ (F0 m pc ls (Value.int j :: Value.ref (am_ad E p0) :: r.map (am_cv E)))
          rw [am_ad_big q1]
          exact va_ti hx hb (hcf.2.2.2.2.1 _ q2) hS h.1 rfl hd kk
      · exact h.elim
    · exact h.elim
  · exact h.elim
theorem am_sd_baload (hat : am_at y pc = some (.baload, nx, x, a, b, ts)) (h : am_ald X σ st 1 3 (fun s => am_Sem l E X y nx lo s σ u Q)) : am_Sem l E X y pc lo st σ u Q := by
  intro p e s m args below meth c H locs ls hC hl hW hS h1 h2
  obtain ⟨hd, rfl, ha⟩ := am_fx (L := 1) hat rfl
  obtain ⟨hx, hb, hr, hml, hown, hts, hlk, hex, hnm, hcf⟩ := id hC
  unfold am_ald at h
  split at h
  · rename_i j p0 r
    split at h
    · rename_i kd n f harr
      split at h
      · rename_i hkd
        have kk := h.2 p e s m args below meth c H locs ls hC hl hW hS h1 h2
        rcases Bool.or_eq_true_iff.mp hkd with q | q
        · cases Nat.eq_of_beq_eq_true q
          rcases am_arr_spec harr with ⟨q1, q2, rfl⟩ | ⟨-, q0, -, -⟩ | ⟨q1, li, q2, rfl, rfl⟩
          · exact va_bald (tys := am_tys E) hx hb hcf.1 hW.1 p0 1 (am_ws_at q2) rfl h.1 hd kk
          · cases q0
          · show W _ _ _ _ _ _ _ _ _ _ _ _ _ _ _ (F0 m pc ls (Value.int j :: Value.ref (am_ad E p0) :: r.map (am_cv E)))
            rw [am_ad_big q1]
            exact va_tb hx hb (hcf.2.2.2.2.1 _ q2) hS h.1 rfl hd kk
        · cases Nat.eq_of_beq_eq_true q
          rcases am_arr_spec harr with ⟨q1, q2, rfl⟩ | ⟨-, q0, -, -⟩ | ⟨q1, li, q2, rfl, rfl⟩
          · exact va_zald (tys := am_tys E) hx hb hcf.1 hW.1 p0 3 (am_ws_at q2) rfl h.1 hd kk
          · cases q0
          · show W _ _ _ _ _ _ _ _ _ _ _ _ _ _ _ (F0 m pc ls (Value.int j :: Value.ref (am_ad E p0) :: r.map (am_cv E)))
            rw [am_ad_big q1]
            exact va_tz hx hb (hcf.2.2.2.2.1 _ q2) hS h.1 rfl hd kk
      · exact h.elim
    · exact h.elim
  · exact h.elim
theorem am_sd_caload (hat : am_at y pc = some (.caload, nx, x, a, b, ts)) (h : am_ald X σ st 2 2 (fun s => am_Sem l E X y nx lo s σ u Q)) : am_Sem l E X y pc lo st σ u Q := by
  intro p e s m args below meth c H locs ls hC hl hW hS h1 h2
  obtain ⟨hd, rfl, ha⟩ := am_fx (L := 1) hat rfl
  obtain ⟨hx, hb, hr, hml, hown, hts, hlk, hex, hnm, hcf⟩ := id hC
  unfold am_ald at h
  split at h
  · rename_i j p0 r
    split at h
    · rename_i kd n f harr
      split at h
      · rename_i hkd
        have : kd = 2 := by
          rcases Bool.or_eq_true_iff.mp hkd with q | q <;> exact Nat.eq_of_beq_eq_true q
        subst this
        have kk := h.2 p e s m args below meth c H locs ls hC hl hW hS h1 h2
        rcases am_arr_spec harr with ⟨q1, q2, rfl⟩ | ⟨-, q0, -, -⟩ | ⟨q1, li, q2, rfl, rfl⟩
        · exact va_cald (tys := am_tys E) hx hb hcf.1 hW.1 p0 2 (am_ws_at q2) rfl h.1 hd kk
        · cases q0
        · show W _ _ _ _ _ _ _ _ _ _ _ _ _ _ _ (F0 m pc ls (Value.int j :: Value.ref (am_ad E p0) :: r.map (am_cv E)))
          rw [am_ad_big q1]
          exact va_tc hx hb (hcf.2.2.2.2.1 _ q2) hS h.1 rfl hd kk
      · exact h.elim
    · exact h.elim
  · exact h.elim
theorem am_arw_spec {p0 kd n : Nat} (h : am_arw σ p0 = some (kd, n)) : σ.1[p0]? = some (.inr (kd, n)) := by
  unfold am_arw at h
  split at h
  · rename_i kd' n' hn
    cases h
    exact am_nthE hn
  · cases h
theorem am_sd_laload (hat : am_at y pc = some (.laload, nx, x, a, b, ts)) (h : am_lald σ st (fun s => am_Sem l E X y nx lo s σ u Q)) : am_Sem l E X y pc lo st σ u Q := by
  intro p e s m args below meth c H locs ls hC hl hW hS h1 h2
  obtain ⟨hd, rfl, ha⟩ := am_fx (L := 1) hat rfl
  obtain ⟨hx, hb, hr, hml, hown, hts, hlk, hex, hnm, hcf⟩ := id hC
  unfold am_lald at h
  split at h
  · rename_i j p0 r
    split at h
    · rename_i n harr
      exact va_lald (tys := am_tys E) hx hb hcf.1 hW.1 p0 4 (am_ws_at (am_arw_spec harr)) rfl h.1 hd (h.2 p e s m args below meth c H locs ls hC hl hW hS h1 h2)
    · exact h.elim
  · exact h.elim
theorem am_sd_aaload (hat : am_at y pc = some (.aaload, nx, x, a, b, ts)) (h : am_aald σ st (fun s => am_Sem l E X y nx lo s σ u Q)) : am_Sem l E X y pc lo st σ u Q := by
  intro p e s m args below meth c H locs ls hC hl hW hS h1 h2
  obtain ⟨hd, rfl, ha⟩ := am_fx (L := 1) hat rfl
  obtain ⟨hx, hb, hr, hml, hown, hts, hlk, hex, hnm, hcf⟩ := id hC
  unfold am_aald at h
  split at h
  · rename_i j p0 r
    split at h
    · rename_i n harr
      obtain ⟨g1, q, g2, g3⟩ := h
      have kk := g3 p e s m args below meth c H locs ls hC hl hW hS h1 h2
      refine va_aldq (tys := am_tys E) (C := RX3) hx hb hcf.1 hW.1 p0 5 (am_ws_at (am_arw_spec harr)) rfl g1 hd ?_
      show W _ _ _ _ _ _ _ _ _ _ _ _ _ _ _ (F0 m (pc + 1) ls (va_rf ((am_gr σ p0 j.toNatClampNeg).map (am_ad E)) :: r.map (am_cv E)))
      rw [g2]
      exact kk
    · exact h.elim
  · exact h.elim
theorem am_sd_alen (hat : am_at y pc = some (.arraylength, nx, x, a, b, ts)) (h : am_alen X σ st (fun s => am_Sem l E X y nx lo s σ u Q)) : am_Sem l E X y pc lo st σ u Q := by
  intro p e s m args below meth c H locs ls hC hl hW hS h1 h2
  obtain ⟨hd, rfl, ha⟩ := am_fx (L := 1) hat rfl
  obtain ⟨hx, hb, hr, hml, hown, hts, hlk, hex, hnm, hcf⟩ := id hC
  unfold am_alen at h
  split at h
  · rename_i p0 r
    split at h
    · rename_i kd n f harr
      split at h
      · rename_i hkd
        have hkd := Nat.le_of_ble_eq_true hkd
        have kk := h p e s m args below meth c H locs ls hC hl hW hS h1 h2
        rcases am_arr_spec harr with ⟨q1, q2, rfl⟩ | ⟨rfl, -, rfl, rfl⟩ | ⟨q1, li, q2, rfl, rfl⟩
        · refine va_alen (tys := am_tys E) (ty := am_tyk kd) hx hb hcf.1 hW.1 p0 kd (am_ws_at q2) ?_ rfl hd kk
          rcases (show kd = 0 ∨ kd = 1 ∨ kd = 2 ∨ kd = 3 ∨ kd = 4 ∨ kd = 5 by omega) with rfl | rfl | rfl | rfl | rfl | rfl <;> rfl
        · obtain ⟨x1, x2, x3⟩ := hcf.2.2.2.2.2.2.2.2.2.2.2
          exact va_slen hx hb x1 (Nat.lt_of_lt_of_le x2 x3) (Nat.not_le.mpr x2) hS hd kk
        · show W _ _ _ _ _ _ _ _ _ _ _ _ _ _ _ (F0 m pc ls (Value.ref (am_ad E p0) :: r.map (am_cv E)))
          rw [am_ad_big q1]
          have hT : va_T (am_tyk kd) (E.2.2.2 (p0)) li.length (fun j => .int (li.getD j 0)) (am_A E) s s.heap := hcf.2.2.2.2.1 _ q2
          exact va_tlen (v := Int32.ofNat li.length) hx hb hT hS rfl hd kk
      · exact h.elim
    · exact h.elim
  · exact h.elim
theorem am_sd_iastore (hat : am_at y pc = some (.iastore, nx, x, a, b, ts)) (h : am_ast σ st 0 0 (fun s σ' => am_Sem l E X y nx lo s σ' u Q)) : am_Sem l E X y pc lo st σ u Q := by
  intro p e s m args below meth c H locs ls hC hl hW hS h1 h2
  obtain ⟨hd, rfl, ha⟩ := am_fx (L := 1) hat rfl
  obtain ⟨hx, hb, hr, hml, hown, hts, hlk, hex, hnm, hcf⟩ := id hC
  unfold am_ast at h
  split at h
  · rename_i v j p0 r
    split at h
    · rename_i n harr
      split at h
      · have hsh := am_arw_spec harr
        have hws := am_ws_at (E := E) hsh
        refine W.iast hx hb (hW.1 p0 _ hws) ((hcf.1.2 0 _ rfl).1 n (fun j => .int (σ.2.1 p0 j))) (fun q => by cases q) (by show ¬ (j < 0 ∨ (arrV _ _ _).slots.size ≤ _); rw [arrV_size]; exact h.1) rfl rfl hd fun H1 e1 z oq => ?_
        refine h.2 p e s m args below meth c H1 _ ls hC hl (am_Wd_upd hW hsh (am_ws_si hsh) ?_ z oq rfl rfl) (hS.put z oq (hW.2.1.2 p0 _ hws)) h1 h2
        show H1[am_ad E p0]? = some (vp_cell (E.2.1 0) (n, .inl ((am_si σ p0 j.toNatClampNeg v).2.1 p0)))
        rw [e1]
        show some (Cell.setSlot (arrV (E.2.1 0) n (fun j => .int (σ.2.1 p0 j))) j.toNatClampNeg (.int v)) = _
        rw [vp_cell_i, arrV_store, show (am_si σ p0 j.toNatClampNeg v).2.1 p0 = upd (σ.2.1 p0) j.toNatClampNeg v from am_up_eq]
        refine congrArg (fun z => some (arrV (E.2.1 0) n z)) ?_
        funext q
        by_cases hq : q = j.toNatClampNeg
        · subst hq
          simp [updV, upd]
        · simp [updV, upd, hq]
      · exact h.elim
    · rename_i c' n harr
      split at h
      · rename_i hk _
        simp at hk
      · exact h.elim
    · exact h.elim
  · exact h.elim
theorem am_ws_a3 {kd n p0 j : Nat} {v : Int32} (hk : kd = 1 ∨ kd = 2 ∨ kd = 3) (hsh : σ.1[p0]? = some (.inr (kd, n))) : am_ws E (am_si σ p0 j v) = (am_ws E σ).set p0 (am_ad E p0, .inl (E.2.1 kd, n, .inl (upd (σ.2.1 p0) j v))) := by
  rw [am_ws_si hsh]
  refine congrArg (fun z => (am_ws E σ).set p0 (am_ad E p0, z)) ?_
  have e : (am_si σ p0 j v).2.1 p0 = upd (σ.2.1 p0) j v := am_up_eq
  rcases hk with rfl | rfl | rfl
  · show (Sum.inl (E.2.1 1, n, Sum.inl ((am_si σ p0 j v).2.1 p0)) : va_E) = _
    rw [e]
  · show (Sum.inl (E.2.1 2, n, Sum.inl ((am_si σ p0 j v).2.1 p0)) : va_E) = _
    rw [e]
  · show (Sum.inl (E.2.1 3, n, Sum.inl ((am_si σ p0 j v).2.1 p0)) : va_E) = _
    rw [e]
theorem am_sd_bastore (hat : am_at y pc = some (.bastore, nx, x, a, b, ts)) (h : am_ast σ st 1 3 (fun s σ' => am_Sem l E X y nx lo s σ' u Q)) : am_Sem l E X y pc lo st σ u Q := by
  intro p e s m args below meth c H locs ls hC hl hW hS h1 h2
  obtain ⟨hd, rfl, ha⟩ := am_fx (L := 1) hat rfl
  obtain ⟨hx, hb, hr, hml, hown, hts, hlk, hex, hnm, hcf⟩ := id hC
  unfold am_ast at h
  split at h
  · rename_i v j p0 r
    split at h
    · rename_i n harr
      split at h
      · rename_i hk
        simp at hk
      · exact h.elim
    · rename_i c' n harr
      split at h
      · rename_i fg hk hfg
        have hsh := am_arw_spec harr
        have hws := am_ws_at (E := E) hsh
        have hne : ∀ w : Int32, (am_si σ p0 j.toNatClampNeg w).2.2.2.2 ≠ 0 := fun w e9 => by
          have e8 : σ.2.2.2.2 = 0 := e9
          rw [hfg] at e8
          cases e8
        rcases Bool.or_eq_true_iff.mp hk with q | q
        · have q := Nat.eq_of_beq_eq_true q
          cases q
          refine va_bast (tys := am_tys E) hx hb hcf.1 hW.1 hW.2.1 hS p0 1 hws rfl h.1 hd (fun H1 locs1 k1 k2 k3 => ?_)
          exact h.2 p e s m args below meth c H1 locs1 ls hC hl (am_Wd_any hW (am_ws_a3 (Or.inl rfl) hsh) k1 k2 rfl (hne _)) k3 h1 h2
        · have q := Nat.eq_of_beq_eq_true q
          cases q
          refine va_zast (tys := am_tys E) hx hb hcf.1 hW.1 hW.2.1 hS p0 3 hws rfl h.1 hd (fun H1 locs1 k1 k2 k3 => ?_)
          exact h.2 p e s m args below meth c H1 locs1 ls hC hl (am_Wd_any hW (am_ws_a3 (Or.inr (Or.inr rfl)) hsh) k1 k2 rfl (hne _)) k3 h1 h2
      · exact h.elim
    · exact h.elim
  · exact h.elim
theorem am_sd_castore (hat : am_at y pc = some (.castore, nx, x, a, b, ts)) (h : am_ast σ st 2 2 (fun s σ' => am_Sem l E X y nx lo s σ' u Q)) : am_Sem l E X y pc lo st σ u Q := by
  intro p e s m args below meth c H locs ls hC hl hW hS h1 h2
  obtain ⟨hd, rfl, ha⟩ := am_fx (L := 1) hat rfl
  obtain ⟨hx, hb, hr, hml, hown, hts, hlk, hex, hnm, hcf⟩ := id hC
  unfold am_ast at h
  split at h
  · rename_i v j p0 r
    split at h
    · rename_i n harr
      split at h
      · rename_i hk
        simp at hk
      · exact h.elim
    · rename_i c' n harr
      split at h
      · rename_i fg hk hfg
        have hsh := am_arw_spec harr
        have hws := am_ws_at (E := E) hsh
        have hne : ∀ w : Int32, (am_si σ p0 j.toNatClampNeg w).2.2.2.2 ≠ 0 := fun w e9 => by
          have e8 : σ.2.2.2.2 = 0 := e9
          rw [hfg] at e8
          cases e8
        have q : c' + 1 = 2 := by rcases Bool.or_eq_true_iff.mp hk with q | q <;> exact Nat.eq_of_beq_eq_true q
        cases q
        refine va_cast (tys := am_tys E) hx hb hcf.1 hW.1 hW.2.1 hS p0 2 hws rfl h.1 hd (fun H1 locs1 k1 k2 k3 => ?_)
        exact h.2 p e s m args below meth c H1 locs1 ls hC hl (am_Wd_any hW (am_ws_a3 (Or.inr (Or.inl rfl)) hsh) k1 k2 rfl (hne _)) k3 h1 h2
      · exact h.elim
    · exact h.elim
  · exact h.elim
theorem am_sd_lastore (hat : am_at y pc = some (.lastore, nx, x, a, b, ts)) (h : am_last σ st (fun s σ' => am_Sem l E X y nx lo s σ' u Q)) : am_Sem l E X y pc lo st σ u Q := by
  intro p e s m args below meth c H locs ls hC hl hW hS h1 h2
  obtain ⟨hd, rfl, ha⟩ := am_fx (L := 1) hat rfl
  obtain ⟨hx, hb, hr, hml, hown, hts, hlk, hex, hnm, hcf⟩ := id hC
  unfold am_last at h
  split at h
  · rename_i v j p0 r
    split at h
    · rename_i n fg harr hfg
      have hsh := am_arw_spec harr
      have hws := am_ws_at (E := E) hsh
      refine va_last (tys := am_tys E) hx hb hcf.1 hW.1 hW.2.1 hS p0 4 hws rfl h.1 hd (fun H1 locs1 k1 k2 k3 => ?_)
      refine h.2 p e s m args below meth c H1 locs1 ls hC hl (am_Wd_any hW ?_ k1 k2 rfl (fun e9 => ?_)) k3 h1 h2
      · rw [am_ws_sl hsh]
        refine congrArg (fun z => (am_ws E σ).set p0 (am_ad E p0, z)) ?_
        show (Sum.inl (E.2.1 4, n, Sum.inr (Sum.inl ((am_sl σ p0 j.toNatClampNeg v).2.2.1 p0))) : va_E) = _
        rw [show (am_sl σ p0 j.toNatClampNeg v).2.2.1 p0 = vp_updL (σ.2.2.1 p0) j.toNatClampNeg v from am_up_eq]
      · have e8 : σ.2.2.2.2 = 0 := e9
        rw [hfg] at e8
        cases e8
    · exact h.elim
  · exact h.elim
theorem am_cls_spec {q0 c' : Nat} (hc : c' < 8) (h : am_cls σ q0 = c') : ∃ fl, σ.1[q0]? = some (.inl (c', fl)) := by
  unfold am_cls at h
  split at h
  · split at h
    · rename_i c2 fl hn
      cases h
      exact ⟨fl, am_nthE hn⟩
    · omega
  · split at h <;> omega
theorem am_sd_aastore (hat : am_at y pc = some (.aastore, nx, x, a, b, ts)) (h : am_aast σ st (fun s σ' => am_Sem l E X y nx lo s σ' u Q)) : am_Sem l E X y pc lo st σ u Q := by
  intro p e s m args below meth c H locs ls hC hl hW hS h1 h2
  obtain ⟨hd, rfl, ha⟩ := am_fx (L := 1) hat rfl
  obtain ⟨hx, hb, hr, hml, hown, hts, hlk, hex, hnm, hcf⟩ := id hC
  unfold am_aast at h
  split at h
  · rename_i q0 j p0 r
    split at h
    · rename_i n harr
      obtain ⟨g1, g2, g3⟩ := h
      have hsh := am_arw_spec harr
      have hws := am_ws_at (E := E) hsh
      obtain ⟨fl, hq⟩ := am_cls_spec (by decide) g2
      have hlt : j.toNatClampNeg < n := Nat.not_le.mp fun q => g1 (Or.inr q)
      have h0 : ¬ j < 0 := fun q => g1 (Or.inl q)
      obtain ⟨r', hr', cellV, v1, v2, v3, -⟩ := hW.1 q0 _ (am_ws_at (E := E) hq)
      have hcls := (hcf.1.1 3 _ (am_cl_ok 3 (by decide)).1).2
      obtain ⟨kA, comp, k1, k2, k3, -⟩ := (hcf.1.2 5 _ rfl).2
      have hcomp : comp = E.1.1 3 := Option.some.inj (k3.symm.trans hcls.1)
      subst hcomp
      obtain ⟨kC, hkC, -⟩ := hcls.2
      refine W.aast hx hb (hW.1 p0 _ hws) (fun q h => by cases h) (fun h => by cases h) k1 k2 rfl hkC ⟨h0, by show _ < (arrV _ _ _).slots.size; rw [arrV_size]; exact hlt⟩ v1 (fun q h => by rw [v3] at h; cases h) (by rw [v2]; exact hkC) (by rw [v2]; exact va_assign hcls) rfl rfl hd fun H1 e1 z oq => ?_
      refine g3 p e s m args below meth c H1 _ ls hC hl (am_Wd_upd hW hsh (am_ws_sr hsh) ?_ z oq rfl rfl) (hS.put z oq (hW.2.1.2 p0 _ hws)) h1 h2
      show H1[am_ad E p0]? = some (vp_cell (E.2.1 5) (n, .inr (.inr (.inr (.inr (fun i => ((am_sr σ p0 j.toNatClampNeg (some q0)).2.2.2.1 p0 i).map (am_ad E)))))))
      rw [e1]
      show some (Cell.setSlot (arrV (E.2.1 5) n (fun i => va_rf ((σ.2.2.2.1 p0 i).map (am_ad E)))) j.toNatClampNeg (.ref (am_ad E q0))) = _
      rw [vp_cell_q, arrV_store, show (am_sr σ p0 j.toNatClampNeg (some q0)).2.2.2.1 p0 = va_up (σ.2.2.2.1 p0) j.toNatClampNeg (some q0) from am_up_eq]
      refine congrArg (fun z => some (arrV (E.2.1 5) n z)) ?_
      funext q
      by_cases hq9 : q = j.toNatClampNeg
      · subst hq9
        simp [updV, va_up, va_rf]
      · simp [updV, va_up, hq9]
    · exact h.elim
  · exact h.elim
theorem am_sd_ldcI (hat : am_at y pc = some (.ldc k, nx, x, 0, b, ts)) (h : am_Sem l E X y nx lo (.int x :: st) σ u Q) : am_Sem l E X y pc lo st σ u Q := by
  intro p e s m args below meth c H locs ls hC hl hW hS h1 h2
  obtain ⟨hd, rfl, ha⟩ := am_fx (L := 2) hat rfl
  obtain ⟨hx, hb, hr, hml, hown, hts, hlk, hex, hnm, hcf⟩ := id hC
  obtain ⟨⟨o', k', x', q⟩, hm, he⟩ := List.any_eq_true.mp (show am_KI.any (fun e : Nat × Nat × Int32 × Nat => Nat.beq e.1 (am_oy y) && (Nat.beq e.2.1 k && decide (e.2.2.1 = x))) = true from ha)
  simp only [Bool.and_eq_true, decide_eq_true_eq] at he
  obtain ⟨e1, e2, e3⟩ := he
  have e1 := Nat.eq_of_beq_eq_true e1
  have e2 := Nat.eq_of_beq_eq_true e2
  subst e1; subst e2; subst e3
  have h8 := of_decide_eq_true (List.all_eq_true.mp am_KI_ok _ hm)
  exact lv_ldc hx hb hown (hts _ (am_tb h8 rfl)) hd (h p e s m args below meth c H locs ls hC hl hW hS h1 h2)
theorem am_sd_ldcwI (hat : am_at y pc = some (.ldc_w k, nx, x, 0, b, ts)) (h : am_Sem l E X y nx lo (.int x :: st) σ u Q) : am_Sem l E X y pc lo st σ u Q := by
  intro p e s m args below meth c H locs ls hC hl hW hS h1 h2
  obtain ⟨hd, rfl, ha⟩ := am_fx (L := 3) hat rfl
  obtain ⟨hx, hb, hr, hml, hown, hts, hlk, hex, hnm, hcf⟩ := id hC
  obtain ⟨⟨o', k', x', q⟩, hm, he⟩ := List.any_eq_true.mp (show am_KI.any (fun e : Nat × Nat × Int32 × Nat => Nat.beq e.1 (am_oy y) && (Nat.beq e.2.1 k && decide (e.2.2.1 = x))) = true from ha)
  simp only [Bool.and_eq_true, decide_eq_true_eq] at he
  obtain ⟨e1, e2, e3⟩ := he
  have e1 := Nat.eq_of_beq_eq_true e1
  have e2 := Nat.eq_of_beq_eq_true e2
  subst e1; subst e2; subst e3
  have h8 := of_decide_eq_true (List.all_eq_true.mp am_KI_ok _ hm)
  exact lv_ldcw hx hb hown (hts _ (am_tb h8 rfl)) hd (h p e s m args below meth c H locs ls hC hl hW hS h1 h2)
theorem am_sd_ldc2 (hat : am_at y pc = some (.ldc2_w k, nx, x, a, b, ts)) (h : am_Sem l E X y nx lo (.long x.toInt64 :: st) σ u Q) : am_Sem l E X y pc lo st σ u Q := by
  intro p e s m args below meth c H locs ls hC hl hW hS h1 h2
  obtain ⟨hd, rfl, ha⟩ := am_fx (L := 3) hat rfl
  obtain ⟨hx, hb, hr, hml, hown, hts, hlk, hex, hnm, hcf⟩ := id hC
  obtain ⟨⟨o', k', x', q⟩, hm, he⟩ := List.any_eq_true.mp (show am_KJ.any (fun e : Nat × Nat × Int32 × Nat => Nat.beq e.1 (am_oy y) && (Nat.beq e.2.1 k && decide (e.2.2.1 = x))) = true from ha)
  simp only [Bool.and_eq_true, decide_eq_true_eq] at he
  obtain ⟨e1, e2, e3⟩ := he
  have e1 := Nat.eq_of_beq_eq_true e1
  have e2 := Nat.eq_of_beq_eq_true e2
  subst e1; subst e2; subst e3
  have h8 := of_decide_eq_true (List.all_eq_true.mp am_KJ_ok _ hm)
  exact lv_ldc2 hx hb hown (hts _ (am_tb h8 rfl)) hd (h p e s m args below meth c H locs ls hC hl hW hS h1 h2)
theorem am_sd_ldcS (hat : am_at y pc = some (.ldc k, nx, x, 1, b, ts)) (h : am_Sem l E X y nx lo (.ref (b) :: st) σ u Q) : am_Sem l E X y pc lo st σ u Q := by
  intro p e s m args below meth c H locs ls hC hl hW hS h1 h2
  obtain ⟨hd, rfl, ha⟩ := am_fx (L := 2) hat rfl
  obtain ⟨hx, hb, hr, hml, hown, hts, hlk, hex, hnm, hcf⟩ := id hC
  obtain ⟨⟨o', k', tx, q⟩, hm, he⟩ := List.any_eq_true.mp (show am_KS.any (fun e : Nat × Nat × String × Nat => Nat.beq e.1 (am_oy y) && (Nat.beq e.2.1 k && Nat.beq e.2.2.2 b)) = true from ha)
  simp only [Bool.and_eq_true] at he
  obtain ⟨e1, e2, e3⟩ := he
  have e1 := Nat.eq_of_beq_eq_true e1
  have e2 := Nat.eq_of_beq_eq_true e2
  have e3 := Nat.eq_of_beq_eq_true e3
  subst e1; subst e2; subst e3
  have hR := hcf.2.2.2.2.2.2.1 _ hm
  have kk := h p e s m args below meth c H locs ls hC hl hW hS h1 h2
  have hq9 : 1000 ≤ q := am_KS_big _ hm
  have e4 : am_ad E q = E.2.2.2 q := am_ad_big hq9
  refine va_ldcS hx hb hown hR hd ?_
  rw [← e4]
  exact kk
theorem am_sd_ldcwS (hat : am_at y pc = some (.ldc_w k, nx, x, 1, b, ts)) (h : am_Sem l E X y nx lo (.ref (b) :: st) σ u Q) : am_Sem l E X y pc lo st σ u Q := by
  intro p e s m args below meth c H locs ls hC hl hW hS h1 h2
  obtain ⟨hd, rfl, ha⟩ := am_fx (L := 3) hat rfl
  obtain ⟨hx, hb, hr, hml, hown, hts, hlk, hex, hnm, hcf⟩ := id hC
  obtain ⟨⟨o', k', tx, q⟩, hm, he⟩ := List.any_eq_true.mp (show am_KS.any (fun e : Nat × Nat × String × Nat => Nat.beq e.1 (am_oy y) && (Nat.beq e.2.1 k && Nat.beq e.2.2.2 b)) = true from ha)
  simp only [Bool.and_eq_true] at he
  obtain ⟨e1, e2, e3⟩ := he
  have e1 := Nat.eq_of_beq_eq_true e1
  have e2 := Nat.eq_of_beq_eq_true e2
  have e3 := Nat.eq_of_beq_eq_true e3
  subst e1; subst e2; subst e3
  have hR := hcf.2.2.2.2.2.2.1 _ hm
  have kk := h p e s m args below meth c H locs ls hC hl hW hS h1 h2
  have hq9 : 1000 ≤ q := am_KS_big _ hm
  have e4 : am_ad E q = E.2.2.2 q := am_ad_big hq9
  refine vy_ldcSW hx hb hown hR hd ?_
  rw [← e4]
  exact kk
theorem am_sd_getstatic (hat : am_at y pc = some (.getstatic k, nx, x, a, b, ts)) (h : match a with | 0 => am_Sem l E X y nx lo (.int x :: st) σ u Q | _ => am_Sem l E X y nx lo (.ref (b) :: st) σ u Q) : am_Sem l E X y pc lo st σ u Q := by
  intro p e s m args below meth c H locs ls hC hl hW hS h1 h2
  obtain ⟨hd, rfl, ha⟩ := am_fx (L := 3) hat rfl
  obtain ⟨hx, hb, hr, hml, hown, hts, hlk, hex, hnm, hcf⟩ := id hC
  cases a with
  | zero =>
    obtain ⟨a1, a2⟩ := Bool.and_eq_true_iff.mp (show (am_GS.any (fun e : Nat × Nat × Nat × String × String × String × Nat => Nat.beq e.1 (am_oy y) && (Nat.beq e.2.1 k && Nat.beq e.2.2.1 0)) && decide (x = 1)) = true from ha)
    have a2 := of_decide_eq_true a2
    obtain ⟨⟨o', k', b', cl9, n9, d9, q⟩, hm, he⟩ := List.any_eq_true.mp a1
    simp only [Bool.and_eq_true] at he
    obtain ⟨e1, e2, e3⟩ := he
    have e1 := Nat.eq_of_beq_eq_true e1
    have e2 := Nat.eq_of_beq_eq_true e2
    have e3 := Nat.eq_of_beq_eq_true e3
    subst e1; subst e2; subst e3; subst a2
    have h8 := of_decide_eq_true (List.all_eq_true.mp am_GS_ok _ hm)
    have h9 := of_decide_eq_true (show decide ((cl9, n9, d9) = ("java/lang/String", "COMPACT_STRINGS", "Z")) = true from List.all_eq_true.mp am_GSc_ok _ hm)
    cases h9
    exact va_gets hx hb hcf.2.2.2.1 hS hown (hts _ (am_tb h8 rfl)) (fun _ h => h) hd (h p e s m args below meth c H locs ls hC hl hW hS h1 h2)
  | succ a' =>
    obtain ⟨a1, a2⟩ := Bool.and_eq_true_iff.mp (show ((am_GS.any (fun e : Nat × Nat × Nat × String × String × String × Nat => Nat.beq e.1 (am_oy y) && (Nat.beq e.2.1 k && Nat.beq e.2.2.1 b)) || am_GN.any (fun e : Nat × Nat × Nat × String × String × String × Nat => Nat.beq e.1 (am_oy y) && (Nat.beq e.2.1 k && Nat.beq e.2.2.1 b))) && Nat.ble 1 b) = true from ha)
    have a2 := Nat.le_of_ble_eq_true a2
    have kk := h p e s m args below meth c H locs ls hC hl hW hS h1 h2
    have kk' : 1000 ≤ b → W p l e (am_rm y) s m args below meth c H locs u.1 u.2 (vx_MQ below (am_Qc E Q) (am_XC E Q) args s (am_bc y) (am_bs y) (am_A E)) (F0 m (pc + 3) ls (Value.ref (E.2.2.2 b) :: st.map (am_cv E))) := fun h7 => by
      rw [← am_ad_big (E := E) h7]; exact kk
    obtain ⟨b0, rfl⟩ : ∃ b0, b = b0 + 1 := ⟨b - 1, by omega⟩
    rcases Bool.or_eq_true_iff.mp a1 with a3 | a3
    · obtain ⟨⟨o', k', b', cl9, n9, d9, q⟩, hm, he⟩ := List.any_eq_true.mp a3
      simp only [Bool.and_eq_true] at he
      obtain ⟨e1, e2, e3⟩ := he
      have e1 := Nat.eq_of_beq_eq_true e1
      have e2 := Nat.eq_of_beq_eq_true e2
      have e3 := Nat.eq_of_beq_eq_true e3
      subst e1; subst e2; subst e3
      have h8 := of_decide_eq_true (List.all_eq_true.mp am_GS_ok _ hm)
      have h9 := of_decide_eq_true (show decide ((cl9, n9, d9, b0 + 1) ∈ am_SL) = true from List.all_eq_true.mp am_GSc_ok _ hm)
      exact va_gets hx hb (hcf.2.2.1 _ h9) hS hown (hts _ (am_tb h8 rfl)) (fun _ h => h) hd (kk' (am_SL_big _ h9))
    · obtain ⟨⟨o', k', b', cl9, n9, d9, q⟩, hm, he⟩ := List.any_eq_true.mp a3
      simp only [Bool.and_eq_true] at he
      obtain ⟨e1, e2, e3⟩ := he
      have e1 := Nat.eq_of_beq_eq_true e1
      have e2 := Nat.eq_of_beq_eq_true e2
      have e3 := Nat.eq_of_beq_eq_true e3
      subst e1; subst e2; subst e3
      have h8 := of_decide_eq_true (List.all_eq_true.mp am_GN_ok _ hm)
      have h9 := of_decide_eq_true (show decide ((cl9, n9, d9, b0 + 1) ∈ am_SL) = true from List.all_eq_true.mp am_GNc_ok _ hm)
      exact va_getsN hx hb (hcf.2.2.1 _ h9) hS hown (am_nest hcf (am_nwm h8 rfl)) (fun _ h => h) hd (kk' (am_SL_big _ h9))
end Arr
