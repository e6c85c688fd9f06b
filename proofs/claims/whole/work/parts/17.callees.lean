/-! ===== a callee's contract out of its meaning; what a call comes to ===== -/
noncomputable def am_ZXB (r : Nat × Nat × Nat × Nat × Nat × Nat) : Bool := (match am_look am_HH r.1 with
  | some _ => Nat.beq r.2.2.2.1 1
  | none => true) && (match r.2.2.2.1 with
  | 2 => decide (am_re r.1 = none)
  | _ => true)
theorem am_ZX_ok : am_ZP.all am_ZXB = true := by decide +kernel
section Callee
variable {l : Launch} {E : am_Env} {X : Nat × (Nat → Int32)} {y pc nx a b k z : Nat} {x : Int32} {ts : List (Int32 × Nat)} {lo : am_L} {st as r : List Value} {σ : am_S} {u : Nat × Nat} {Q Q' : am_Q}
theorem am_pop_spec : ∀ (n : Nat) (st acc as r : List Value), am_pop n st acc = some (as, r) → ∃ xs, st = xs ++ r ∧ xs.length = n ∧ as = xs.reverse ++ acc
  | 0, st, acc, as, r, h => by
    cases (show some (acc, st) = some (as, r) from h)
    exact ⟨[], rfl, rfl, rfl⟩
  | n + 1, [], acc, as, r, h => by cases (show none = some (as, r) from h)
  | n + 1, v :: st, acc, as, r, h => by
    obtain ⟨xs, h1, h2, h3⟩ := am_pop_spec n st (v :: acc) as r h
    refine ⟨v :: xs, by rw [h1]; rfl, by rw [← h2]; rfl, ?_⟩
    rw [h3, List.reverse_cons, List.append_assoc]
    rfl
theorem am_get_app {lo : am_L} {n i : Nat} {v : Value} (h : am_get (lo ++ List.replicate n none) i = some v) : am_get lo i = some v := by
  rw [am_get_eq] at h ⊢
  by_cases hi : i < lo.length
  · rw [List.getElem?_append_left hi] at h
    exact h
  · rw [List.getElem?_append_right (by omega), List.getElem?_replicate] at h
    split at h
    · cases h
    · cases h
theorem am_flat_get : ∀ (as : List Value) (j i : Nat) (v : Value), am_get (am_flat as) i = some v → (j + i, am_cv E v) ∈ lv_args j (as.map (am_cv E))
  | [], j, i, v, h => by
    rw [am_get_eq] at h
    cases (show (none : Option Value) = some v by simpa [am_flat] using h)
  | w :: as, j, i, v, h => by
    show (j + i, am_cv E v) ∈ (j, am_cv E w) :: lv_args (if (am_cv E w).category = 2 then j + 2 else j + 1) (as.map (am_cv E))
    rw [am_cat_cv]
    have h' : am_get (Bool.rec (motive := fun _ => am_L) (some w :: am_flat as) (some w :: none :: am_flat as) (Nat.beq w.category 2)) i = some v := h
    cases hc : Nat.beq w.category 2 with
    | true =>
      rw [hc] at h'
      rw [if_pos (Nat.eq_of_beq_eq_true hc)]
      match i, h' with
      | 0, h' => cases (show some w = some v from h'); exact List.mem_cons_self
      | 1, h' => cases (show (none : Option Value) = some v from h')
      | i + 2, h' =>
        have := am_flat_get as (j + 2) i v (show am_get (am_flat as) i = some v from h')
        rw [show j + 2 + i = j + (i + 2) by omega] at this
        exact List.mem_cons_of_mem _ this
    | false =>
      rw [hc] at h'
      rw [if_neg (fun e => by rw [e] at hc; cases hc)]
      match i, h' with
      | 0, h' => cases (show some w = some v from h'); exact List.mem_cons_self
      | i + 1, h' =>
        have := am_flat_get as (j + 1) i v (show am_get (am_flat as) i = some v from h')
        rw [show j + 1 + i = j + (i + 1) by omega] at this
        exact List.mem_cons_of_mem _ this
theorem am_sl_len : ∀ as : List Value, (lg_sl (as.map (am_cv E))).length = am_cat as
  | [] => rfl
  | v :: as => by
    have ih := am_sl_len as
    show (lg_sl (am_cv E v :: as.map (am_cv E))).length = v.category + am_cat as
    rw [← ih]
    unfold lg_sl
    rw [List.flatMap_cons, List.length_append, am_cat_cv]
    cases v <;> rfl
theorem am_H_ent {ls : Array Slot} {n : Nat} (h : lv_has ls n (lv_args 0 (as.map (am_cv E)))) : am_H E ls n (am_ent as n) := by
  refine ⟨h.1, h.2.1, fun i v hv => ?_⟩
  have := am_flat_get (E := E) as 0 i v (am_get_app hv)
  rw [Nat.zero_add] at this
  exact h.2.2 _ this
/-- a row of the callees' table -/
def am_zr (z kd : Nat) : Prop := ∃ ph pi pa pb, (z, ph, pi, kd, pa, pb) ∈ am_ZP
theorem am_zr_f {kd : Nat} (h : am_zr z kd) : am_head z ∈ am_TB ∧ Cond.initialized (am_yn z).cls ∈ am_TB ∧ plainName (am_yn z).cls = true ∧ (am_yn z).cls ≠ "java/lang/invoke/MethodHandle" ∧ (am_yn z).cls ≠ "java/lang/invoke/VarHandle" ∧ (am_yn z).cls = am_os (am_oy z) := by
  obtain ⟨ph, pi, pa, pb, hm⟩ := h
  have h1 := List.all_eq_true.mp am_ZP_all _ hm
  unfold am_zokB at h1
  simp only [Bool.and_eq_true, decide_eq_true_eq] at h1
  obtain ⟨g1, -, g2, g3, g4, g5⟩ := h1
  refine ⟨am_tb (am_ZP_hd _ hm) ?_, am_tb g1 rfl, g2, g3, g4, g5⟩
  unfold am_head
  split <;> rfl
theorem am_zr_v (h : am_zr z 0) : Cond.instanceMethod (am_yn z) ∈ am_TB ∧ Cond.selects (am_yn z).cls (am_yn z) (am_yn z) ∈ am_TB := by
  obtain ⟨ph, pi, pa, pb, hm⟩ := h
  have h1 := List.all_eq_true.mp am_ZP_all _ hm
  unfold am_zokB at h1
  simp only [Bool.and_eq_true, decide_eq_true_eq] at h1
  exact ⟨am_tb h1.2.1.1 rfl, am_tb h1.2.1.2 rfl⟩
theorem am_zr_s (h : am_zr z 1) : Cond.static (am_yn z) ∈ am_TB := by
  obtain ⟨ph, pi, pa, pb, hm⟩ := h
  have h1 := List.all_eq_true.mp am_ZP_all _ hm
  unfold am_zokB at h1
  simp only [Bool.and_eq_true, decide_eq_true_eq] at h1
  exact am_tb h1.2.1 rfl
theorem am_zr_i (h : am_zr z 2) : Cond.instanceMethod (am_yn z) ∈ am_TB ∧ (am_yn z).name = "<init>" ∧ am_re z = none := by
  obtain ⟨ph, pi, pa, pb, hm⟩ := h
  have h1 := List.all_eq_true.mp am_ZP_all _ hm
  have h2 := List.all_eq_true.mp am_ZX_ok _ hm
  unfold am_zokB at h1
  unfold am_ZXB at h2
  simp only [Bool.and_eq_true, decide_eq_true_eq] at h1 h2
  exact ⟨am_tb h1.2.1.1 rfl, h1.2.1.2, h2.2⟩
theorem am_zr_c {kd : Nat} (h : am_zr z kd) (hk : kd ≠ 1) : am_look am_HH z = none := by
  obtain ⟨ph, pi, pa, pb, hm⟩ := h
  have h2 := List.all_eq_true.mp am_ZX_ok _ hm
  unfold am_ZXB at h2
  obtain ⟨h3, -⟩ := Bool.and_eq_true_iff.mp h2
  cases hl : am_look am_HH z with
  | none => rfl
  | some q =>
    dsimp only at h3
    rw [hl] at h3
    exact absurd (Nat.eq_of_beq_eq_true h3) hk
def am_Pc (E : am_Env) (X : Nat × (Nat → Int32)) (as : List Value) (σ : am_S) : Array Value → State → Prop := va_Pc (as.map (am_cv E)) (fun U => am_CF E X U U.heap ∧ am_Wd E σ U.heap)
theorem am_vmet {kd : Nat} (hz : am_zr z kd) (hcat : am_cat as ≤ am_maxl z) (h : am_Sem l E X z 0 (am_ent as (am_maxl z)) [] σ (0, 0) Q') : vx_Met l (am_yn z) (am_head z :: am_TB) (am_rm z) (am_Pc E X as σ) (am_Qc E Q') (am_XC E Q') (am_bc z) (am_bs z) (am_A E) := by
  obtain ⟨f1, f2, f3, f4, f5, f6⟩ := am_zr_f hz
  have go : ∀ (p : Program) (e : Env) (s : State) (m : MethodId) (args : Array Value) (below : List Frame) (meth : Method) (c : Code) (s₁ : State), BodyLoose p l (am_yn z) (headSpec (am_head z :: am_TB) (am_rm z)) (am_by z) (am_maxl z) (am_re z) e s m args below meth c s₁ → c.maxLocals = am_maxl z → c.exceptionTable.toList = tableOf (am_hh z) → am_Pc E X as σ args s →
      W p l e (headSpec (am_head z :: am_TB) (am_rm z)).room s m args below meth c s.heap [] 0 0 (vx_MQ below (am_Qc E Q') (am_XC E Q') args s (am_bc z) (am_bs z) (am_A E)) (entryFrame m args (am_maxl z)) := by
    intro p e s m args below meth c s₁ B hml hex hv
    obtain ⟨rfl, hcf, hW⟩ := hv
    have hts := atoms_spec (ws := am_head z :: am_TB) B.pre
    have hown : s.vm.findClass (am_os (am_oy z)) = some m.cls := f6 ▸ findClass_of_methodNamed B.named
    have hl := lv_entry (as.map (am_cv E)) (n := am_maxl z) (by rw [am_sl_len]; exact hcat)
    rw [lg_entry_eq]
    exact h p e s m _ below meth c s.heap [] _ ⟨B.exec, B.bytes, B.returns, hml, hown, fun w hw => hts w (List.mem_cons_of_mem _ hw), B.notSynchronized, hex, (name_of_methodNamed B.named B.method).1, hcf⟩ (am_H_ent hl) hW va_S.rf (Nat.zero_le _) (Nat.zero_le _)
  cases hh : am_look am_HH z with
  | none =>
    have hw : am_head z :: am_TB = Cond.code (am_yn z) (am_by z) (am_maxl z) (am_re z) :: am_TB := by
      unfold am_head
      rw [hh]
    refine vx_ofW (cc := am_by z) (maxL := am_maxl z) (ret := am_re z) f3 hw ?_
    intro p e s m args below meth c s₁ B hml hno hv
    refine go p e s m args below meth c s₁ B hml ?_ hv
    have e1 : c.exceptionTable.toList = [] := List.eq_nil_iff_forall_not_mem.mpr fun x hx => hno x hx
    unfold am_hh
    rw [e1, hh]
    rfl
  | some q =>
    have hw : am_head z :: am_TB = Cond.codeWith (am_yn z) (am_by z) (am_maxl z) (am_re z) q :: am_TB := by
      unfold am_head
      rw [hh]
    refine vx_ofWH (cc := am_by z) (maxL := am_maxl z) (ret := am_re z) (hh := q) f3 hw ?_
    intro p e s m args below meth c s₁ B hml hv
    have hts := atoms_spec (ws := am_head z :: am_TB) B.pre
    refine go p e s m args below meth c s₁ B hml ?_ hv
    have := vx_table (x := am_yn z) B (hts (Cond.codeWith (am_yn z) (am_by z) (am_maxl z) (am_re z) q) (by rw [hw]; exact List.mem_cons_self))
    unfold am_hh
    rw [this, hh]
theorem am_met {kd : Nat} (hz : am_zr z kd) (hcat : am_cat as ≤ am_maxl z) (hno : ∀ σ', ¬ Q' none σ') (h : am_Sem l E X z 0 (am_ent as (am_maxl z)) [] σ (0, 0) Q') : Met l (am_yn z) (am_head z :: am_TB) (am_rm z) (am_Pc E X as σ) (am_Qc E Q') (am_bc z) (am_bs z) (am_A E) := by
  have hv := am_vmet hz hcat h
  intro p e h1 h2 h3 s m args below h4 h5 h6 h7
  obtain ⟨n, o, a1, a2, a3, a4⟩ := hv p e h1 h2 h3 s m args below h4 h5 h6 h7
  refine ⟨n, o, a1, a2, a3, ?_⟩
  rcases a4 with a4 | ⟨q, -, En, ce, L, ⟨-, ⟨σ', hq, -⟩, -⟩, -⟩
  · exact a4
  · exact absurd hq (hno σ')
/-- behind a call -/
theorem am_goon {p : Program} {e : Env} {R : Room} {s : State} {m : MethodId} {args a9 : Array Value} {below : List Frame} {meth : Method} {c : Code} {H : Heap} {locs : List Loc} {cells slots mc ms : Nat} {ls : Array Slot} {st0 rest : List Value} {Qf : State → Prop}
    (hr : va_Run p l e R s m args below meth c H locs cells slots mc ms (F0 m pc ls st0) rest (am_Qc E Q' a9) (am_A E)) (hS : va_S (am_A E) s.heap H locs)
    (kk : ∀ (v : Option Value) (σ' : am_S) (H1 : Heap) (locs1 : List Loc), Q' (some v) σ' → am_Wd E σ' H1 → va_S (am_A E) s.heap H1 locs1 → W p l e R s m args below meth c H1 locs1 (cells + mc) (slots + ms) Qf (F0 m (pc + 3) ls ((v.map (am_cv E)).toList ++ rest))) : W p l e R s m args below meth c H locs cells slots Qf (F0 m pc ls st0) := by
  intro T hT X9
  obtain ⟨v, st₀, t, T', L, h0, X', hL, e1, e2, ⟨⟨v', σ', hv, hq, hw⟩, hz, hk⟩, st9⟩ := hr T hT X9
  cases hv
  rw [h0] at hz hk
  obtain ⟨t2, a1, b1⟩ := kk v' σ' T'.heap (locs ++ L) hq (by rw [e1]; exact hw)
    ⟨Nat.le_trans hS.1 (by rw [e1]; exact hz), fun q h1 h2 => by rw [e1, hk q (Nat.lt_of_lt_of_le h1 hS.1) h2]; exact hS.2.1 q h1 h2, fun q hq => by
      rcases List.mem_append.mp hq with h | h
      · exact hS.2.2 q h
      · exact hL q h⟩ T' rfl X'
  exact ⟨t2, st9 t2 a1, b1⟩
theorem am_blind : FrameBlind (am_Pc E X as σ) := fun a9 U g mk h => ⟨h.1, h.2.1.moved (State.WarmedH.refl U) (Nat.le_refl _) (fun _ _ _ => rfl), h.2.2⟩
theorem am_pre {s : State} {H : Heap} {locs : List Loc} (hcf : am_CF E X s s.heap) (hW : am_Wd E σ H) (hS : va_S (am_A E) s.heap H locs) : ∀ U : State, U.heap = H → s.WarmedH U.vm → am_Pc E X as σ (as.map (am_cv E)).toArray U := fun U hU hWm => ⟨rfl, by rw [hU]; exact hcf.moved hWm hS.1 hS.2.1, by rw [hU]; exact hW⟩
theorem am_good {kd : Nat} (hz : am_zr z kd) : GoodIn am_TB (am_head z :: am_TB) := by
  intro w hw
  have hm : w ∈ am_TB := by
    rcases List.mem_cons.mp hw with rfl | h
    · exact (am_zr_f hz).1
    · exact h
  exact ⟨hm, good_of_word (List.mem_filter.mp hm).2⟩
theorem am_goodc {w : Cond} (h : w ∈ am_TB) : w ∈ am_TB ∧ ((w.onTables && w.keeps) = true ∨ ∃ ty, w = .arrayClass ty) := ⟨h, good_of_word (List.mem_filter.mp h).2⟩
theorem am_os_cl (c : Nat) (h : c < 7) : am_os c = (am_cl c).1 := by
  rcases (show c = 0 ∨ c = 1 ∨ c = 2 ∨ c = 3 ∨ c = 4 ∨ c = 5 ∨ c = 6 by omega) with rfl | rfl | rfl | rfl | rfl | rfl | rfl <;> rfl
/-- who receives -/
theorem am_recv {s : State} {H : Heap} {locs : List Loc} {p0 c0 : Nat} (hcf : am_CF E X s s.heap) (hW : am_Wd E σ H) (hS : va_S (am_A E) s.heap H locs) (hc : am_cls σ p0 = c0) (h1000 : c0 < 1000) : ∃ cellB : Cell, H[am_ad E p0]? = some cellB ∧ cellB.vm.isStatics = false ∧ s.vm.findClass (am_os c0) = some cellB.cls := by
  unfold am_cls at hc
  split at hc
  · split at hc
    · rename_i c2 fl hn
      subst hc
      have hws := am_ws_at (E := E) (am_nthE hn)
      obtain ⟨r9, g0, -⟩ := hW.1 p0 _ hws
      have h7 : c2 < 7 := by
        rcases Nat.lt_or_ge c2 7 with q | q
        · exact q
        · rw [List.getElem?_eq_none (show vwCl.length ≤ c2 from q)] at g0
          cases g0
      rw [am_os_cl c2 h7]
      exact va_recv hcf.1 hW.1 (am_cl_ok c2 h7).1 hws
    · omega
  · rename_i hbig
    split at hc
    · rename_i hr
      obtain ⟨c2, c3⟩ := Bool.and_eq_true_iff.mp hr
      have c2 := Nat.le_of_ble_eq_true c2
      have c3 := Nat.le_of_ble_eq_true c3
      subst hc
      obtain ⟨j, rfl⟩ := Nat.exists_eq_add_of_le c2
      obtain ⟨o1, -, -⟩ := hcf.2.2.2.2.2.1 j (by omega)
      rw [am_ad_big (by omega)]
      obtain ⟨cell, w1, w2, w3, w4⟩ := o1.kept hS.2.1
      exact ⟨cell, w1, w2, w3⟩
    · omega
end Callee
