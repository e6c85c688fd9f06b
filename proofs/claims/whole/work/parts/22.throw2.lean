/-! ===== the places that throw ===== -/
def am_isC : Cond → Bool
  | .code .. => true
  | .codeSync .. => true
  | _ => false
noncomputable def am_wok (w : Cond) : Bool := (goodWord w || am_isNest w) && vx_ot w
/-- words of a list by their places (code) and by looking (the rest) -/
theorem am_wl {L : List Cond} (ps : List Nat) (h1 : L.filter am_isC = ps.filterMap (fun i => lw_tbl[i]?)) (h2 : (L.filter (fun w => !am_isC w)).all (fun w => !vx_no w || decide (w ∈ lw_tbl)) = true) (h3 : L.all (fun w => !vx_no w || am_wok w) = true) : ∀ w ∈ L, vx_no w = true → w ∈ lw_tbl ∧ am_wok w = true := by
  intro w hw hn
  have g3 := List.all_eq_true.mp h3 w hw
  rw [hn] at g3
  refine ⟨?_, g3⟩
  cases hc : am_isC w with
  | true =>
    have h4 : w ∈ L.filter am_isC := List.mem_filter.mpr ⟨hw, hc⟩
    rw [h1] at h4
    obtain ⟨i, -, hi⟩ := List.mem_filterMap.mp h4
    exact List.mem_of_getElem? hi
  | false =>
    have g2 := List.all_eq_true.mp h2 w (List.mem_filter.mpr ⟨hw, by rw [hc]; rfl⟩)
    rw [hn] at g2
    exact of_decide_eq_true g2
def am_RTE : String := "java/lang/RuntimeException"
set_option maxRecDepth 100000 in
theorem am_wl1 : ∀ w ∈ Bundle.throwableAtoms, vx_no w = true → w ∈ lw_tbl ∧ am_wok w = true := am_wl [949, 940, 135] rfl (by decide +kernel) (by decide +kernel)
set_option maxRecDepth 100000 in
theorem am_wl2 : ∀ w ∈ Bundle.throwableSAtoms, vx_no w = true → w ∈ lw_tbl ∧ am_wok w = true := am_wl [967] rfl (by decide +kernel) (by decide +kernel)
set_option maxRecDepth 100000 in
theorem am_wl3 : ∀ w ∈ Bundle.passSAtoms am_NSE am_RTE 13 prog_23_method_4_code, vx_no w = true → w ∈ lw_tbl ∧ am_wok w = true := am_wl [958] rfl (by decide +kernel) (by decide +kernel)
set_option maxRecDepth 100000 in
theorem am_wl4 : ∀ w ∈ Bundle.chainSAtoms am_RTE ["java/lang/Exception"], vx_no w = true → w ∈ lw_tbl ∧ am_wok w = true := am_wl [961, 964] rfl (by decide +kernel) (by decide +kernel)
set_option maxRecDepth 100000 in
theorem am_wl5 : ∀ w ∈ ([Cond.methodLink RX5 167 (Bundle.initS am_NSE), .instantiable am_NSE 6, .selects am_NSE Bundle.tFill0 Bundle.tFill0, .selects am_NSE Bundle.tFill Bundle.tFill, .lays am_NSE Bundle.tN "cause" "Ljava/lang/Throwable;", .lays am_NSE Bundle.tN "stackTrace" Bundle.steD, .lays am_NSE Bundle.tN "suppressedExceptions" Bundle.listD, .lays am_NSE Bundle.tN "detailMessage" "Ljava/lang/String;", .isRef (.static Bundle.tN "UNASSIGNED_STACK" Bundle.steD), .isRef (.static Bundle.tN "SUPPRESSED_SENTINEL" Bundle.listD), .fieldLink Bundle.tN 198 Bundle.tN "backtrace" "Ljava/lang/Object;", .lays Bundle.tN Bundle.tN "backtrace" "Ljava/lang/Object;", .lays am_NSE Bundle.tN "backtrace" "Ljava/lang/Object;"] : List Cond), vx_no w = true → w ∈ lw_tbl ∧ am_wok w = true := am_wl [] rfl (by decide +kernel) (by decide +kernel)
theorem am_x163 : lw_tbl[916]? = some (Cond.classLink RX5 163 am_NSE) := by decide +kernel
theorem am_x127 : lw_tbl[127]? = some (Cond.initialized am_NSE) := by decide +kernel
/-- the rows that throw: their method's class, the text -/
noncomputable def am_THc (e : Nat × Nat × Nat × Nat × Nat × Bool) : Bool := match e with
  | (y, _, ik, is, ic, _) => Nat.beq (am_oy y) 5 && (Nat.beq ik 163 && (Nat.beq ic 167 && (am_KM.any (fun q => Nat.beq q.2.1 is && Nat.beq q.1 5) && (Nat.ble 6 (am_fr y) && (Nat.ble 90 (am_lc y) && (match am_hh y with | [] => true | _ => false))))))
theorem am_THc_ok : am_TH.all am_THc = true := by decide +kernel
theorem am_z0 : decode prog_23_method_4_code 0 = .ok (.aload_n 0, 1) ∧ decode prog_23_method_4_code 1 = .ok (.aload_n 1, 1) ∧ decode prog_23_method_4_code 2 = .ok (.invokespecial 13, 3) ∧ decode prog_23_method_4_code 5 = .ok (.return_, 1) := by decide +kernel
theorem am_fit : Bundle.fit am_NSE = true ∧ Bundle.fit am_RTE = true ∧ ∀ n ∈ ["java/lang/Exception"], Bundle.fit n = true := by decide +kernel
section Thr
variable {l : Launch} {E : am_Env} {X : Nat × (Nat → Int32)} {y pc nx a b k z : Nat} {x : Int32} {ts : List (Int32 × Nat)} {lo : am_L} {st as r : List Value} {σ : am_S} {u : Nat × Nat} {Q Q' : am_Q}
theorem am_wbefore {s : State} {args : Array Value} {w : Cond} (hts : ∀ w ∈ am_TB, w.before args s = true) (hcf : am_CF E X s s.heap) (h : w ∈ lw_tbl ∧ am_wok w = true) : w.before args s = true ∧ vx_ot w = true := by
  obtain ⟨h1, h2⟩ := h
  obtain ⟨h3, h4⟩ := Bool.and_eq_true_iff.mp h2
  refine ⟨?_, h4⟩
  rcases Bool.or_eq_true_iff.mp h3 with g | g
  · exact hts w (List.mem_filter.mpr ⟨h1, g⟩)
  · exact am_nest hcf (List.mem_filter.mpr ⟨h1, g⟩)
theorem am_thr_ok (hl : l.stackTraces = false) : am_thr l E X := by
  intro y pc nx k b x ts lo σ u Q hat hfl hbud hQ p e s m args below meth c H locs ls hC hl' hW hS h1 h2
  obtain ⟨-, -, ha⟩ := am_fx (L := 3) hat rfl
  obtain ⟨hx, hb, hr, hml, hown, hts, hlk, hex, hnm, hcf⟩ := id hC
  have ha2 : am_TH.any (fun e => Nat.beq e.1 y && Nat.beq e.2.1 pc) = true := ha
  obtain ⟨⟨y', pc', ik, is, ic, wide⟩, hm, he⟩ := List.any_eq_true.mp ha2
  obtain ⟨e1, e2⟩ := Bool.and_eq_true_iff.mp he
  have e1 := Nat.eq_of_beq_eq_true e1
  have e2 := Nat.eq_of_beq_eq_true e2
  subst e1; subst e2
  have hB := List.all_eq_true.mp am_TH_ok _ hm
  have hc := List.all_eq_true.mp am_THc_ok _ hm
  unfold am_THc at hc
  simp only [Bool.and_eq_true] at hc
  obtain ⟨c1, c2, c3, c4, c5, c6, c7⟩ := hc
  have c1 := Nat.eq_of_beq_eq_true c1
  have c2 := Nat.eq_of_beq_eq_true c2
  have c3 := Nat.eq_of_beq_eq_true c3
  have c5 := Nat.le_of_ble_eq_true c5
  have c6 := Nat.le_of_ble_eq_true c6
  subst c2; subst c3
  obtain ⟨⟨o9, i9, tx⟩, hkm, hke⟩ := List.any_eq_true.mp c4
  obtain ⟨k1, k2⟩ := Bool.and_eq_true_iff.mp hke
  have k1 := Nat.eq_of_beq_eq_true k1
  have k2 := Nat.eq_of_beq_eq_true k2
  subst k1; subst k2
  obtain ⟨sa, hstr⟩ := hcf.2.2.2.2.2.2.2.1 _ hkm
  have hown5 : s.vm.findClass RX5 = some m.cls := by
    rw [c1] at hown
    exact hown
  have hsz : ls.size = c.maxLocals := hl'.1.trans hml.symm
  have hno : ∀ x ∈ c.exceptionTable.toList, ∀ q : Nat, covers x q = false := by
    intro x hx9 q
    rw [hex] at hx9
    cases hh : am_hh y' with
    | nil => rw [hh] at hx9; exact absurd hx9 List.not_mem_nil
    | cons a9 b9 => rw [hh] at c7; cases c7
  have fin : ∀ (p9 : Nat) (q : Nat) (ce : Cell) (H1 : Heap), H1[q]? = some ce → ce.vm = .none → s.vm.findClass am_NSE = some ce.cls → H.size ≤ H1.size → (∀ q9 : Nat, q9 < H.size → H1[q9]? = H[q9]?) → vx_W p l e (am_rm y') s m args below meth c H1 locs (u.1 + 1) (u.2 + 6) (vx_MQ below (am_Qc E Q) (am_XC E Q) args s (am_bc y') (am_bs y') (am_A E)) (F0 m p9 ls []) q := by
    intro p9 q ce H1 g1 g2 g3 g4 g5
    refine vx_out (fun x hx9 => hno x hx9 _) hlk g1 g2 g3 (fun t ht _ => ⟨rfl, ⟨σ, hQ, ?_⟩, ?_⟩) hS.2.2 hbud.1 hbud.2
    · rw [ht]
      exact ⟨hW.1.kept (fun k9 x9 h9 => g5 x9.1 ((hW.1 k9 x9 h9).lt)), hW.2.1, fun h0 => absurd h0 hfl, hW.2.2.2⟩
    · exact ⟨by rw [ht]; exact Nat.le_trans hS.1 g4, fun q9 h8 h9 => by rw [ht, g5 q9 (Nat.lt_of_lt_of_le h8 hS.1)]; exact hS.2.1 q9 h8 h9⟩
  have hA1 := fun w hw hn => am_wbefore (E := E) (X := X) hts hcf (am_wl1 w hw hn)
  have hA2 := fun w hw hn => am_wbefore (E := E) (X := X) hts hcf (am_wl2 w hw hn)
  have hA3 := fun w hw hn => am_wbefore (E := E) (X := X) hts hcf (am_wl3 w hw hn)
  have hA4 := fun w hw hn => am_wbefore (E := E) (X := X) hts hcf (am_wl4 w hw hn)
  have hA5 := fun w hw hn => am_wbefore (E := E) (X := X) hts hcf (am_wl5 w hw hn)
  have hk := hts _ (am_tb am_x163 rfl)
  have hini := hts _ (am_tb am_x127 rfl)
  have hRf : (["java/lang/Exception"].length + 1) + 3 < (am_rm y').frames := by
    show 5 < am_fr y'
    omega
  have hRl : (([] : List Value).map fun v => v.category).sum + (13 * ((["java/lang/Exception"].length + 1) + 1) + 43) ≤ (am_rm y').locals := by
    show 82 ≤ am_lc y'
    omega
  cases wide with
  | false =>
    have hB2 : (decide (decode (am_by y') pc' = .ok (.new 163, 3)) && (decide (decode (am_by y') (pc' + 3) = .ok (.dup, 1)) && (decide (decode (am_by y') (pc' + 4) = .ok (.ldc i9, 2)) && (decide (decode (am_by y') (pc' + 6) = .ok (.invokespecial 167, 3)) && decide (decode (am_by y') (pc' + 9) = .ok (.athrow, 1)))))) = true := hB
    simp only [Bool.and_eq_true, decide_eq_true_eq] at hB2
    obtain ⟨d0, d3, d4, d6, d9⟩ := hB2
    refine vy_make (own := RX5) (cls := am_NSE) (sup := am_RTE) (names := ["java/lang/Exception"]) (text := tx) (by9 := prog_23_method_4_code) (A := am_A E) hx hb hl hown5 am_fit.1 am_fit.2.1 am_fit.2.2 am_z0.1 am_z0.2.1 am_z0.2.2.1 am_z0.2.2.2 hk hini hstr rfl rfl hA1 hA2 hA3 hA4 hA5 hcf.2.2.2.2.2.2.2.2.2.1 hcf.2.2.2.2.2.2.2.2.2.2.1 hS hsz d0 d3 d4 d6 hRf hRl hbud.1 hbud.2 (fun q ce H1 g1 g2 g3 g4 g5 => ?_)
    exact vx_athrow hx hb d9 (fin (pc' + 9) q ce H1 g1 g2 g3 g4 g5)
  | true =>
    have hB2 : (decide (decode (am_by y') pc' = .ok (.new 163, 3)) && (decide (decode (am_by y') (pc' + 3) = .ok (.dup, 1)) && (decide (decode (am_by y') (pc' + 4) = .ok (.ldc_w i9, 3)) && (decide (decode (am_by y') (pc' + 7) = .ok (.invokespecial 167, 3)) && decide (decode (am_by y') (pc' + 10) = .ok (.athrow, 1)))))) = true := hB
    simp only [Bool.and_eq_true, decide_eq_true_eq] at hB2
    obtain ⟨d0, d3, d4, d6, d9⟩ := hB2
    refine vy_makeW (own := RX5) (cls := am_NSE) (sup := am_RTE) (names := ["java/lang/Exception"]) (text := tx) (by9 := prog_23_method_4_code) (A := am_A E) hx hb hl hown5 am_fit.1 am_fit.2.1 am_fit.2.2 am_z0.1 am_z0.2.1 am_z0.2.2.1 am_z0.2.2.2 hk hini hstr rfl rfl hA1 hA2 hA3 hA4 hA5 hcf.2.2.2.2.2.2.2.2.2.1 hcf.2.2.2.2.2.2.2.2.2.2.1 hS hsz d0 d3 d4 d6 hRf hRl hbud.1 hbud.2 (fun q ce H1 g1 g2 g3 g4 g5 => ?_)
    exact vx_athrow hx hb d9 (fin (pc' + 10) q ce H1 g1 g2 g3 g4 g5)
/-- THE TIE, closed -/
theorem am_sound (hl : l.stackTraces = false) {y pc : Nat} {lo : am_L} {st : List Value} {σ : am_S} {u : Nat × Nat} {Q : am_Q} (h : am_T X y pc lo st σ u Q) : am_Sem l E X y pc lo st σ u Q := am_sound_open (am_thr_ok hl) h
end Thr
