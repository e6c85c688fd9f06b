/-! ===== what the abstract machine's word means on the machine ===== -/
noncomputable def am_TB : List Cond := lw_tbl.filter goodWord
def am_isNest : Cond → Bool
  | .fieldLinkNest .. => true
  | .methodLinkNest .. => true
  | .castable .. => true
  | .declares .. => true
  | _ => false
noncomputable def am_NW : List Cond := lw_tbl.filter am_isNest
/-- the static arrays, and their numbers among the constants -/
def am_SL : List (String × String × String × Nat) := [("JoinedMonths", "LAW_LEAST", "[I", 1001), ("JoinedMonths", "LAW_MOST", "[I", 1002), ("JoinedMonths", "LAW_DIGITS", "[I", 1003), ("JoinedMonths", "KINDS_BY_LETTER", "[I", 1004), ("JoinedMonthsModel", "LETTERS", "[B", 1005), ("JoinedMonthsModel", "BY_LETTERS", "[I", 1006)]
/-- the texts of what is thrown -/
def am_KM : List (Nat × Nat × String) := [(5, 165, "no such number of a span"), (5, 185, "no such number of a law"), (5, 193, "no such number of a month"), (5, 346, "no such number of the row")]
def am_tys (E : am_Env) : List (ClassId × FieldType) := [(E.2.1 0, .int), (E.2.1 1, .byte), (E.2.1 2, .char), (E.2.1 3, .boolean), (E.2.1 4, .long), (E.2.1 5, .object RX3)]
/-- what holds of a state and a heap beside the memory: tables, constants, the script -/
def am_CF (E : am_Env) (X : Nat × (Nat → Int32)) (U : State) (H : Heap) : Prop :=
  va_K E.1 vwCl (am_tys E) U ∧ (∀ w ∈ am_NW, va_Nw w U) ∧
  (∀ q ∈ am_SL, va_Z q.1 q.2.1 q.2.2.1 (.ref (E.2.2.2 q.2.2.2)) (am_A E) U H) ∧
  va_Z "java/lang/String" "COMPACT_STRINGS" "Z" (.int 1) (am_A E) U H ∧
  (∀ q ∈ am_KA, va_T (am_tyk q.2.1) (E.2.2.2 q.1) q.2.2.length (fun j => .int (q.2.2.getD j 0)) (am_A E) U H) ∧
  (∀ k, k < 4 → va_O "java/lang/String" (E.2.2.2 (1010 + k)) (am_A E) U H ∧ va_OF "java/lang/String" "coder" "B" (.int 0) (E.2.2.2 (1010 + k)) (am_A E) U H ∧ va_OF "java/lang/String" "value" "[B" (.ref (E.2.2.2 (1020 + k))) (E.2.2.2 (1010 + k)) (am_A E) U H) ∧
  (∀ q ∈ am_KS, vk_R (am_os q.1) q.2.1 q.2.2.1 (E.2.2.2 q.2.2.2) U) ∧
  (∀ q ∈ am_KM, ∃ a, vk_R (am_os q.1) q.2.1 q.2.2 a U) ∧
  va_AO RX3 U ∧
  vx_Zq Bundle.tN "UNASSIGNED_STACK" Bundle.steD (am_A E) U H ∧ vx_Zq Bundle.tN "SUPPRESSED_SENTINEL" Bundle.listD (am_A E) U H ∧
  (va_X (E.2.2.2 1000) X.1 X.2 U H ∧ E.2.2.2 1000 < E.2.2.1 ∧ E.2.2.1 ≤ H.size)
theorem am_CF.moved {E : am_Env} {X : Nat × (Nat → Int32)} {s U : State} {H H1 : Heap} (h : am_CF E X s H) (hW : s.WarmedH U.vm) (hz : H.size ≤ H1.size) (hq : ∀ a : Nat, a < H.size → ¬ am_A E a → H1[a]? = H[a]?) : am_CF E X U H1 := by
  obtain ⟨h1, h2, h3, h4, h5, h6, h7, h8, h9, h10, h11, h12, h13, h14⟩ := h
  refine ⟨h1.moved hW.alike, fun w hw => ?_, fun q hm => ((h3 q hm).kept hq).moved hW.alike, (h4.kept hq).moved hW.alike, fun q hm => ((h5 q hm).kept hq).moved hW.alike, fun k hk => ?_, fun q hm => (h7 q hm).warm hW, fun q hm => (h8 q hm).imp fun a ha => ha.warm hW, h9.moved hW.alike, (h10.kept hq).moved hW.alike, (h11.kept hq).moved hW.alike, (h12.kept (hq _ (Nat.lt_of_lt_of_le h13 h14) (Nat.not_le.mpr h13))).moved hW.alike, h13, Nat.le_trans h14 hz⟩
  · have hn := (List.mem_filter.mp hw).2
    have hz2 := h2 w hw
    cases w <;> first
      | exact hz2.warmF hW
      | exact hz2.warmM hW
      | exact hz2.warmC hW
      | exact hz2.warmD hW
      | exact absurd hn (by decide)
      | (simp [am_isNest] at hn)
  · obtain ⟨a1, a2, a3⟩ := h6 k hk
    exact ⟨(a1.kept hq).moved hW.alike, (a2.kept hq).moved hW.alike, (a3.kept hq).moved hW.alike⟩
noncomputable def am_rm (y : Nat) : Room := { frames := am_fr y, cells := am_bc y, slots := am_bs y, locals := am_lc y }
/-- what is fixed in a method's body -/
def am_Ctx (E : am_Env) (X : Nat × (Nat → Int32)) (y : Nat) (p : Program) (s : State) (m : MethodId) (args : Array Value) (meth : Method) (c : Code) : Prop :=
  p.tables.exec = Jvm.exec ∧ c.code = am_by y ∧ meth.sig.returnType = am_re y ∧ c.maxLocals = am_maxl y ∧ s.vm.findClass (am_os (am_oy y)) = some m.cls ∧ (∀ w ∈ am_TB, w.before args s = true) ∧ meth.locks = false ∧ c.exceptionTable.toList = tableOf (am_hh y) ∧ meth.name = (am_yn y).name ∧ am_CF E X s s.heap
def am_NSE : String := "java/util/NoSuchElementException"
def am_Qc (E : am_Env) (Q : am_Q) : Array Value → State → Outcome → State → Prop := fun _ st oc t => (∃ (r : Option Value) (σ' : am_S), oc = .returned (r.map (am_cv E)) ∧ Q (some r) σ' ∧ am_Wd E σ' t.heap) ∧ va_F (am_A E) st t
def am_XC (E : am_Env) (Q : am_Q) : String → State → State → Prop := fun n st t => n = am_NSE ∧ (∃ σ' : am_S, Q none σ' ∧ am_Wd E σ' t.heap) ∧ va_F (am_A E) st t
def am_Sem (l : Launch) (E : am_Env) (X : Nat × (Nat → Int32)) : am_P := fun y pc lo st σ u Q =>
  ∀ (p : Program) (e : Env) (s : State) (m : MethodId) (args : Array Value) (below : List Frame) (meth : Method) (c : Code) (H : Heap) (locs : List Loc) (ls : Array Slot),
    am_Ctx E X y p s m args meth c → am_H E ls (am_maxl y) lo → am_Wd E σ H → va_S (am_A E) s.heap H locs → u.1 ≤ am_bc y → u.2 ≤ am_bs y →
    W p l e (am_rm y) s m args below meth c H locs u.1 u.2 (vx_MQ below (am_Qc E Q) (am_XC E Q) args s (am_bc y) (am_bs y) (am_A E)) (F0 m pc ls (st.map (am_cv E)))
section Simple
variable {l : Launch} {E : am_Env} {X : Nat × (Nat → Int32)} {y pc nx a b k : Nat} {x : Int32} {ts : List (Int32 × Nat)} {lo : am_L} {st r : List Value} {σ : am_S} {u : Nat × Nat} {Q : am_Q}
theorem am_sd_iconst {n : Int} (hat : am_at y pc = some (.iconst n, nx, x, a, b, ts)) (h : am_Sem l E X y nx lo (.int x :: st) σ u Q) : am_Sem l E X y pc lo st σ u Q := by
  intro p e s m args below meth c H locs ls hC hl hW hS h1 h2
  obtain ⟨hd, rfl, ha⟩ := am_fx (L := 1) hat rfl
  exact lv_iconst hC.1 hC.2.1 hd (of_decide_eq_true ha) (h p e s m args below meth c H locs ls hC hl hW hS h1 h2)
theorem am_sd_bipush {n : Int} (hat : am_at y pc = some (.bipush n, nx, x, a, b, ts)) (h : am_Sem l E X y nx lo (.int x :: st) σ u Q) : am_Sem l E X y pc lo st σ u Q := by
  intro p e s m args below meth c H locs ls hC hl hW hS h1 h2
  obtain ⟨hd, rfl, ha⟩ := am_fx (L := 2) hat rfl
  exact lv_bipush hC.1 hC.2.1 hd (of_decide_eq_true ha) (h p e s m args below meth c H locs ls hC hl hW hS h1 h2)
theorem am_sd_sipush {n : Int} (hat : am_at y pc = some (.sipush n, nx, x, a, b, ts)) (h : am_Sem l E X y nx lo (.int x :: st) σ u Q) : am_Sem l E X y pc lo st σ u Q := by
  intro p e s m args below meth c H locs ls hC hl hW hS h1 h2
  obtain ⟨hd, rfl, ha⟩ := am_fx (L := 3) hat rfl
  exact lv_sipush hC.1 hC.2.1 hd (of_decide_eq_true ha) (h p e s m args below meth c H locs ls hC hl hW hS h1 h2)
theorem am_sd_lconst {n : Fin 2} (hat : am_at y pc = some (.lconst n, nx, x, a, b, ts)) (h : am_Sem l E X y nx lo (.long x.toInt64 :: st) σ u Q) : am_Sem l E X y pc lo st σ u Q := by
  intro p e s m args below meth c H locs ls hC hl hW hS h1 h2
  obtain ⟨hd, rfl, ha⟩ := am_fx (L := 1) hat rfl
  exact lv_lconst hC.1 hC.2.1 hd (of_decide_eq_true ha) (h p e s m args below meth c H locs ls hC hl hW hS h1 h2)
theorem am_sd_iload_n {n : Fin 4} (hat : am_at y pc = some (.iload_n n, nx, x, a, b, ts)) (h : am_ldI lo n.val (fun v => am_Sem l E X y nx lo (.int v :: st) σ u Q)) : am_Sem l E X y pc lo st σ u Q := by
  intro p e s m args below meth c H locs ls hC hl hW hS h1 h2
  obtain ⟨hd, rfl, ha⟩ := am_fx (L := 1) hat rfl
  unfold am_ldI at h
  split at h
  · rename_i v hv
    exact lv_iload_n hC.1 hC.2.1 hd rfl (hl.2.2 _ _ hv) (h p e s m args below meth c H locs ls hC hl hW hS h1 h2)
  · exact h.elim
theorem am_sd_iload {n : Nat} (hat : am_at y pc = some (.iload n, nx, x, a, b, ts)) (h : am_ldI lo n (fun v => am_Sem l E X y nx lo (.int v :: st) σ u Q)) : am_Sem l E X y pc lo st σ u Q := by
  intro p e s m args below meth c H locs ls hC hl hW hS h1 h2
  obtain ⟨hd, rfl, ha⟩ := am_fx (L := 2) hat rfl
  unfold am_ldI at h
  split at h
  · rename_i v hv
    exact lv_iload hC.1 hC.2.1 hd (hl.2.2 _ _ hv) (h p e s m args below meth c H locs ls hC hl hW hS h1 h2)
  · exact h.elim
theorem am_sd_lload_n {n : Fin 4} (hat : am_at y pc = some (.lload_n n, nx, x, a, b, ts)) (h : am_ldJ lo n.val (fun v => am_Sem l E X y nx lo (.long v :: st) σ u Q)) : am_Sem l E X y pc lo st σ u Q := by
  intro p e s m args below meth c H locs ls hC hl hW hS h1 h2
  obtain ⟨hd, rfl, ha⟩ := am_fx (L := 1) hat rfl
  unfold am_ldJ at h
  split at h
  · rename_i v hv
    exact lv_lload_n hC.1 hC.2.1 hd rfl (hl.2.2 _ _ hv) (h p e s m args below meth c H locs ls hC hl hW hS h1 h2)
  · exact h.elim
theorem am_sd_lload {n : Nat} (hat : am_at y pc = some (.lload n, nx, x, a, b, ts)) (h : am_ldJ lo n (fun v => am_Sem l E X y nx lo (.long v :: st) σ u Q)) : am_Sem l E X y pc lo st σ u Q := by
  intro p e s m args below meth c H locs ls hC hl hW hS h1 h2
  obtain ⟨hd, rfl, ha⟩ := am_fx (L := 2) hat rfl
  unfold am_ldJ at h
  split at h
  · rename_i v hv
    exact lv_lload hC.1 hC.2.1 hd (hl.2.2 _ _ hv) (h p e s m args below meth c H locs ls hC hl hW hS h1 h2)
  · exact h.elim
theorem am_sd_aload_n {n : Fin 4} (hat : am_at y pc = some (.aload_n n, nx, x, a, b, ts)) (h : am_ldA lo n.val (fun v => am_Sem l E X y nx lo (.ref v :: st) σ u Q)) : am_Sem l E X y pc lo st σ u Q := by
  intro p e s m args below meth c H locs ls hC hl hW hS h1 h2
  obtain ⟨hd, rfl, ha⟩ := am_fx (L := 1) hat rfl
  unfold am_ldA at h
  split at h
  · rename_i v hv
    exact lv_aload_n hC.1 hC.2.1 hd rfl (hl.2.2 _ _ hv) (h p e s m args below meth c H locs ls hC hl hW hS h1 h2)
  · exact h.elim
theorem am_sd_aload {n : Nat} (hat : am_at y pc = some (.aload n, nx, x, a, b, ts)) (h : am_ldA lo n (fun v => am_Sem l E X y nx lo (.ref v :: st) σ u Q)) : am_Sem l E X y pc lo st σ u Q := by
  intro p e s m args below meth c H locs ls hC hl hW hS h1 h2
  obtain ⟨hd, rfl, ha⟩ := am_fx (L := 2) hat rfl
  unfold am_ldA at h
  split at h
  · rename_i v hv
    exact lv_aload hC.1 hC.2.1 hd (hl.2.2 _ _ hv) (h p e s m args below meth c H locs ls hC hl hW hS h1 h2)
  · exact h.elim
theorem am_sd_istore_n {n : Fin 4} {v : Int32} (hat : am_at y pc = some (.istore_n n, nx, x, a, b, ts)) (h : am_Sem l E X y nx (am_st1 lo n.val (.int v)) r σ u Q) : am_Sem l E X y pc lo (.int v :: r) σ u Q := by
  intro p e s m args below meth c H locs ls hC hl hW hS h1 h2
  obtain ⟨hd, rfl, ha⟩ := am_fx (L := 1) hat rfl
  exact lv_istore_n hC.1 hC.2.1 hd rfl (am_H_has hl) (Nat.le_of_ble_eq_true ha) rfl (fun ls' hl' => h p e s m args below meth c H locs ls' hC (am_H_st1 hl') hW hS h1 h2)
theorem am_sd_istore {n : Nat} {v : Int32} (hat : am_at y pc = some (.istore n, nx, x, a, b, ts)) (h : am_Sem l E X y nx (am_st1 lo n (.int v)) r σ u Q) : am_Sem l E X y pc lo (.int v :: r) σ u Q := by
  intro p e s m args below meth c H locs ls hC hl hW hS h1 h2
  obtain ⟨hd, rfl, ha⟩ := am_fx (L := 2) hat rfl
  exact lv_istore hC.1 hC.2.1 hd (am_H_has hl) (Nat.le_of_ble_eq_true ha) rfl (fun ls' hl' => h p e s m args below meth c H locs ls' hC (am_H_st1 hl') hW hS h1 h2)
theorem am_sd_astore_n {n : Fin 4} {v : Nat} (hat : am_at y pc = some (.astore_n n, nx, x, a, b, ts)) (h : am_Sem l E X y nx (am_st1 lo n.val (.ref v)) r σ u Q) : am_Sem l E X y pc lo (.ref v :: r) σ u Q := by
  intro p e s m args below meth c H locs ls hC hl hW hS h1 h2
  obtain ⟨hd, rfl, ha⟩ := am_fx (L := 1) hat rfl
  exact lv_astore_n hC.1 hC.2.1 hd rfl (am_H_has hl) (Nat.le_of_ble_eq_true ha) rfl (fun ls' hl' => h p e s m args below meth c H locs ls' hC (am_H_st1 (v := .ref v) hl') hW hS h1 h2)
theorem am_sd_astore {n : Nat} {v : Nat} (hat : am_at y pc = some (.astore n, nx, x, a, b, ts)) (h : am_Sem l E X y nx (am_st1 lo n (.ref v)) r σ u Q) : am_Sem l E X y pc lo (.ref v :: r) σ u Q := by
  intro p e s m args below meth c H locs ls hC hl hW hS h1 h2
  obtain ⟨hd, rfl, ha⟩ := am_fx (L := 2) hat rfl
  exact lv_astore hC.1 hC.2.1 hd (am_H_has hl) (Nat.le_of_ble_eq_true ha) rfl (fun ls' hl' => h p e s m args below meth c H locs ls' hC (am_H_st1 (v := .ref v) hl') hW hS h1 h2)
theorem am_sd_lstore {n : Nat} {v : Int64} (hat : am_at y pc = some (.lstore n, nx, x, a, b, ts)) (h : am_Sem l E X y nx (am_st2 lo n (.long v)) r σ u Q) : am_Sem l E X y pc lo (.long v :: r) σ u Q := by
  intro p e s m args below meth c H locs ls hC hl hW hS h1 h2
  obtain ⟨hd, rfl, ha⟩ := am_fx (L := 2) hat rfl
  exact lv_lstore hC.1 hC.2.1 hd (am_H_has hl) (Nat.le_of_ble_eq_true ha) rfl (fun ls' hl' => h p e s m args below meth c H locs ls' hC (am_H_st2 (v := .long v) hl') hW hS h1 h2)
theorem am_sd_iinc {n : Nat} {q : Int} (hat : am_at y pc = some (.iinc n q, nx, x, a, b, ts)) (h : am_ldI lo n (fun v => am_Sem l E X y nx (am_st1 lo n (.int (v + x))) st σ u Q)) : am_Sem l E X y pc lo st σ u Q := by
  intro p e s m args below meth c H locs ls hC hl hW hS h1 h2
  obtain ⟨hd, rfl, ha⟩ := am_fx (L := 3) hat rfl
  unfold am_ldI at h
  split at h
  · rename_i v hv
    have ha' : (Nat.ble (n + 1) (am_maxl y) && decide (Int32.ofInt q = x)) = true := ha
    rw [Bool.and_eq_true] at ha'
    obtain ⟨j, hj⟩ := List.mem_iff_getElem?.mp (am_lv_mem.mpr ⟨_, hv, rfl⟩ : (n, am_cv E (.int v)) ∈ am_lv E lo)
    exact lv_iinc hC.1 hC.2.1 hd (am_H_has hl) (k := j) hj (by rw [of_decide_eq_true ha'.2]) (Nat.le_of_ble_eq_true ha'.1) rfl (fun ls' hl' => h p e s m args below meth c H locs ls' hC (am_H_st1 hl') hW hS h1 h2)
  · exact h.elim
theorem am_sd_iadd (hat : am_at y pc = some (.iadd, nx, x, a, b, ts)) (h : am_bin st (fun p q => p + q) (fun s => am_Sem l E X y nx lo s σ u Q)) : am_Sem l E X y pc lo st σ u Q := by
  intro p e s m args below meth c H locs ls hC hl hW hS h1 h2
  obtain ⟨hd, rfl, ha⟩ := am_fx (L := 1) hat rfl
  unfold am_bin at h
  split at h
  · exact lv_iadd hC.1 hC.2.1 hd (h p e s m args below meth c H locs ls hC hl hW hS h1 h2)
  · exact h.elim
theorem am_sd_isub (hat : am_at y pc = some (.isub, nx, x, a, b, ts)) (h : am_bin st (fun p q => p - q) (fun s => am_Sem l E X y nx lo s σ u Q)) : am_Sem l E X y pc lo st σ u Q := by
  intro p e s m args below meth c H locs ls hC hl hW hS h1 h2
  obtain ⟨hd, rfl, ha⟩ := am_fx (L := 1) hat rfl
  unfold am_bin at h
  split at h
  · exact lv_isub hC.1 hC.2.1 hd (h p e s m args below meth c H locs ls hC hl hW hS h1 h2)
  · exact h.elim
theorem am_sd_imul (hat : am_at y pc = some (.imul, nx, x, a, b, ts)) (h : am_bin st (fun p q => p * q) (fun s => am_Sem l E X y nx lo s σ u Q)) : am_Sem l E X y pc lo st σ u Q := by
  intro p e s m args below meth c H locs ls hC hl hW hS h1 h2
  obtain ⟨hd, rfl, ha⟩ := am_fx (L := 1) hat rfl
  unfold am_bin at h
  split at h
  · exact lv_imul hC.1 hC.2.1 hd (h p e s m args below meth c H locs ls hC hl hW hS h1 h2)
  · exact h.elim
theorem am_sd_iand (hat : am_at y pc = some (.iand, nx, x, a, b, ts)) (h : am_bin st (fun p q => p &&& q) (fun s => am_Sem l E X y nx lo s σ u Q)) : am_Sem l E X y pc lo st σ u Q := by
  intro p e s m args below meth c H locs ls hC hl hW hS h1 h2
  obtain ⟨hd, rfl, ha⟩ := am_fx (L := 1) hat rfl
  unfold am_bin at h
  split at h
  · exact lv_iand hC.1 hC.2.1 hd (h p e s m args below meth c H locs ls hC hl hW hS h1 h2)
  · exact h.elim
theorem am_sd_ior (hat : am_at y pc = some (.ior, nx, x, a, b, ts)) (h : am_bin st (fun p q => p ||| q) (fun s => am_Sem l E X y nx lo s σ u Q)) : am_Sem l E X y pc lo st σ u Q := by
  intro p e s m args below meth c H locs ls hC hl hW hS h1 h2
  obtain ⟨hd, rfl, ha⟩ := am_fx (L := 1) hat rfl
  unfold am_bin at h
  split at h
  · exact lv_ior hC.1 hC.2.1 hd (h p e s m args below meth c H locs ls hC hl hW hS h1 h2)
  · exact h.elim
theorem am_sd_ishl (hat : am_at y pc = some (.ishl, nx, x, a, b, ts)) (h : am_bin st (fun p q => p <<< (q &&& 31)) (fun s => am_Sem l E X y nx lo s σ u Q)) : am_Sem l E X y pc lo st σ u Q := by
  intro p e s m args below meth c H locs ls hC hl hW hS h1 h2
  obtain ⟨hd, rfl, ha⟩ := am_fx (L := 1) hat rfl
  unfold am_bin at h
  split at h
  · exact lv_ishl hC.1 hC.2.1 hd (h p e s m args below meth c H locs ls hC hl hW hS h1 h2)
  · exact h.elim
theorem am_sd_ishr (hat : am_at y pc = some (.ishr, nx, x, a, b, ts)) (h : am_bin st (fun p q => p >>> (q &&& 31)) (fun s => am_Sem l E X y nx lo s σ u Q)) : am_Sem l E X y pc lo st σ u Q := by
  intro p e s m args below meth c H locs ls hC hl hW hS h1 h2
  obtain ⟨hd, rfl, ha⟩ := am_fx (L := 1) hat rfl
  unfold am_bin at h
  split at h
  · exact lv_ishr hC.1 hC.2.1 hd (h p e s m args below meth c H locs ls hC hl hW hS h1 h2)
  · exact h.elim
theorem am_sd_iushr (hat : am_at y pc = some (.iushr, nx, x, a, b, ts)) (h : am_bin st (fun p q => (p.toUInt32 >>> (q.toUInt32 &&& Int32.toUInt32 31)).toInt32) (fun s => am_Sem l E X y nx lo s σ u Q)) : am_Sem l E X y pc lo st σ u Q := by
  intro p e s m args below meth c H locs ls hC hl hW hS h1 h2
  obtain ⟨hd, rfl, ha⟩ := am_fx (L := 1) hat rfl
  unfold am_bin at h
  split at h
  · exact lv_iushr hC.1 hC.2.1 hd rfl (h p e s m args below meth c H locs ls hC hl hW hS h1 h2)
  · exact h.elim
theorem am_sd_idiv (hat : am_at y pc = some (.idiv, nx, x, a, b, ts)) (h : am_div st (fun p q => p / q) (fun s => am_Sem l E X y nx lo s σ u Q)) : am_Sem l E X y pc lo st σ u Q := by
  intro p e s m args below meth c H locs ls hC hl hW hS h1 h2
  obtain ⟨hd, rfl, ha⟩ := am_fx (L := 1) hat rfl
  unfold am_div at h
  split at h
  · exact lv_idiv hC.1 hC.2.1 hd h.1 (h.2 p e s m args below meth c H locs ls hC hl hW hS h1 h2)
  · exact h.elim
theorem am_sd_irem (hat : am_at y pc = some (.irem, nx, x, a, b, ts)) (h : am_div st (fun p q => p - p / q * q) (fun s => am_Sem l E X y nx lo s σ u Q)) : am_Sem l E X y pc lo st σ u Q := by
  intro p e s m args below meth c H locs ls hC hl hW hS h1 h2
  obtain ⟨hd, rfl, ha⟩ := am_fx (L := 1) hat rfl
  unfold am_div at h
  split at h
  · exact lv_irem hC.1 hC.2.1 hd h.1 (h.2 p e s m args below meth c H locs ls hC hl hW hS h1 h2)
  · exact h.elim
theorem am_sd_i2l (hat : am_at y pc = some (.i2l, nx, x, a, b, ts)) (h : am_un st (fun p => .long p.toInt64) (fun s => am_Sem l E X y nx lo s σ u Q)) : am_Sem l E X y pc lo st σ u Q := by
  intro p e s m args below meth c H locs ls hC hl hW hS h1 h2
  obtain ⟨hd, rfl, ha⟩ := am_fx (L := 1) hat rfl
  unfold am_un at h
  split at h
  · exact lv_i2l hC.1 hC.2.1 hd rfl (h p e s m args below meth c H locs ls hC hl hW hS h1 h2)
  · exact h.elim
theorem am_sd_i2b (hat : am_at y pc = some (.i2b, nx, x, a, b, ts)) (h : am_un st (fun p => .int p.toInt8.toInt32) (fun s => am_Sem l E X y nx lo s σ u Q)) : am_Sem l E X y pc lo st σ u Q := by
  intro p e s m args below meth c H locs ls hC hl hW hS h1 h2
  obtain ⟨hd, rfl, ha⟩ := am_fx (L := 1) hat rfl
  unfold am_un at h
  split at h
  · exact lv_i2b hC.1 hC.2.1 hd rfl (h p e s m args below meth c H locs ls hC hl hW hS h1 h2)
  · exact h.elim
theorem am_sd_i2s (hat : am_at y pc = some (.i2s, nx, x, a, b, ts)) (h : am_un st (fun p => .int p.toInt16.toInt32) (fun s => am_Sem l E X y nx lo s σ u Q)) : am_Sem l E X y pc lo st σ u Q := by
  intro p e s m args below meth c H locs ls hC hl hW hS h1 h2
  obtain ⟨hd, rfl, ha⟩ := am_fx (L := 1) hat rfl
  unfold am_un at h
  split at h
  · exact lv_i2s hC.1 hC.2.1 hd rfl (h p e s m args below meth c H locs ls hC hl hW hS h1 h2)
  · exact h.elim
theorem am_sd_i2c (hat : am_at y pc = some (.i2c, nx, x, a, b, ts)) (h : am_un st (fun p => .int (p.toUInt32 % 65536).toInt32) (fun s => am_Sem l E X y nx lo s σ u Q)) : am_Sem l E X y pc lo st σ u Q := by
  intro p e s m args below meth c H locs ls hC hl hW hS h1 h2
  obtain ⟨hd, rfl, ha⟩ := am_fx (L := 1) hat rfl
  unfold am_un at h
  split at h
  · exact lv_i2c hC.1 hC.2.1 hd rfl (h p e s m args below meth c H locs ls hC hl hW hS h1 h2)
  · exact h.elim
theorem am_sd_lcmp {v w : Int64} (hat : am_at y pc = some (.lcmp, nx, x, a, b, ts)) (h : am_Sem l E X y nx lo (.int (lg_cmp v w) :: r) σ u Q) : am_Sem l E X y pc lo (.long w :: .long v :: r) σ u Q := by
  intro p e s m args below meth c H locs ls hC hl hW hS h1 h2
  obtain ⟨hd, rfl, ha⟩ := am_fx (L := 1) hat rfl
  exact W.lcmp hC.1 hC.2.1 hd (h p e s m args below meth c H locs ls hC hl hW hS h1 h2)
theorem am_sd_dup {v : Value} (hv : v.category = 1) (hat : am_at y pc = some (.dup, nx, x, a, b, ts)) (h : am_Sem l E X y nx lo (v :: v :: r) σ u Q) : am_Sem l E X y pc lo (v :: r) σ u Q := by
  intro p e s m args below meth c H locs ls hC hl hW hS h1 h2
  obtain ⟨hd, rfl, ha⟩ := am_fx (L := 1) hat rfl
  exact lv_dup hC.1 hC.2.1 hd ((am_cat_cv E v).trans hv) (h p e s m args below meth c H locs ls hC hl hW hS h1 h2)
theorem am_sd_dup2 {v w : Value} (hv : v.category = 1) (hw : w.category = 1) (hat : am_at y pc = some (.dup2, nx, x, a, b, ts)) (h : am_Sem l E X y nx lo (v :: w :: v :: w :: r) σ u Q) : am_Sem l E X y pc lo (v :: w :: r) σ u Q := by
  intro p e s m args below meth c H locs ls hC hl hW hS h1 h2
  obtain ⟨hd, rfl, ha⟩ := am_fx (L := 1) hat rfl
  exact lv_dup2_11 hC.1 hC.2.1 hd ((am_cat_cv E v).trans hv) ((am_cat_cv E w).trans hw) (h p e s m args below meth c H locs ls hC hl hW hS h1 h2)
theorem am_sd_dup_x1 {v w : Value} (hv : v.category = 1) (hw : w.category = 1) (hat : am_at y pc = some (.dup_x1, nx, x, a, b, ts)) (h : am_Sem l E X y nx lo (v :: w :: v :: r) σ u Q) : am_Sem l E X y pc lo (v :: w :: r) σ u Q := by
  intro p e s m args below meth c H locs ls hC hl hW hS h1 h2
  obtain ⟨hd, rfl, ha⟩ := am_fx (L := 1) hat rfl
  exact lv_dup_x1 hC.1 hC.2.1 hd ((am_cat_cv E v).trans hv) ((am_cat_cv E w).trans hw) (h p e s m args below meth c H locs ls hC hl hW hS h1 h2)
theorem am_sd_pop {v : Value} (hv : v.category = 1) (hat : am_at y pc = some (.pop, nx, x, a, b, ts)) (h : am_Sem l E X y nx lo r σ u Q) : am_Sem l E X y pc lo (v :: r) σ u Q := by
  intro p e s m args below meth c H locs ls hC hl hW hS h1 h2
  obtain ⟨hd, rfl, ha⟩ := am_fx (L := 1) hat rfl
  exact lv_pop hC.1 hC.2.1 hd ((am_cat_cv E v).trans hv) (h p e s m args below meth c H locs ls hC hl hW hS h1 h2)
theorem am_sd_icmp {cd : ClassFile.Cond} {o : Int} {v w : Int32} (hat : am_at y pc = some (.if_icmp cd o, nx, x, a, b, ts)) (h : am_icmp cd v w (am_Sem l E X y a lo r σ u Q) (am_Sem l E X y nx lo r σ u Q)) : am_Sem l E X y pc lo (.int w :: .int v :: r) σ u Q := by
  intro p e s m args below meth c H locs ls hC hl hW hS h1 h2
  obtain ⟨hd, rfl, ha⟩ := am_fx (L := 3) hat rfl
  have ha2 : (pc : Int) + o = (a : Int) := of_decide_eq_true ha
  cases cd
  · exact lv_icmp_eq hC.1 hC.2.1 hd ha2 (fun q => h.1 q p e s m args below meth c H locs ls hC hl hW hS h1 h2) (fun q => h.2 q p e s m args below meth c H locs ls hC hl hW hS h1 h2)
  · exact lv_icmp_ne hC.1 hC.2.1 hd ha2 (fun q => h.1 q p e s m args below meth c H locs ls hC hl hW hS h1 h2) (fun q => h.2 q p e s m args below meth c H locs ls hC hl hW hS h1 h2)
  · exact lv_icmp_lt hC.1 hC.2.1 hd ha2 (fun q => h.1 q p e s m args below meth c H locs ls hC hl hW hS h1 h2) (fun q => h.2 q p e s m args below meth c H locs ls hC hl hW hS h1 h2)
  · exact lv_icmp_ge hC.1 hC.2.1 hd ha2 (fun q => h.1 q p e s m args below meth c H locs ls hC hl hW hS h1 h2) (fun q => h.2 q p e s m args below meth c H locs ls hC hl hW hS h1 h2)
  · exact lv_icmp_gt hC.1 hC.2.1 hd ha2 (fun q => h.1 q p e s m args below meth c H locs ls hC hl hW hS h1 h2) (fun q => h.2 q p e s m args below meth c H locs ls hC hl hW hS h1 h2)
  · exact lv_icmp_le hC.1 hC.2.1 hd ha2 (fun q => h.1 q p e s m args below meth c H locs ls hC hl hW hS h1 h2) (fun q => h.2 q p e s m args below meth c H locs ls hC hl hW hS h1 h2)
theorem am_sd_if {cd : ClassFile.Cond} {o : Int} {v : Int32} (hat : am_at y pc = some (.ifCond cd o, nx, x, a, b, ts)) (h : am_icmp cd v 0 (am_Sem l E X y a lo r σ u Q) (am_Sem l E X y nx lo r σ u Q)) : am_Sem l E X y pc lo (.int v :: r) σ u Q := by
  intro p e s m args below meth c H locs ls hC hl hW hS h1 h2
  obtain ⟨hd, rfl, ha⟩ := am_fx (L := 3) hat rfl
  have ha2 : (pc : Int) + o = (a : Int) := of_decide_eq_true ha
  cases cd
  · exact lv_if_eq hC.1 hC.2.1 hd ha2 (fun q => h.1 q p e s m args below meth c H locs ls hC hl hW hS h1 h2) (fun q => h.2 q p e s m args below meth c H locs ls hC hl hW hS h1 h2)
  · exact lv_if_ne hC.1 hC.2.1 hd ha2 (fun q => h.1 q p e s m args below meth c H locs ls hC hl hW hS h1 h2) (fun q => h.2 q p e s m args below meth c H locs ls hC hl hW hS h1 h2)
  · exact lv_if_lt hC.1 hC.2.1 hd ha2 (fun q => h.1 q p e s m args below meth c H locs ls hC hl hW hS h1 h2) (fun q => h.2 q p e s m args below meth c H locs ls hC hl hW hS h1 h2)
  · exact lv_if_ge hC.1 hC.2.1 hd ha2 (fun q => h.1 q p e s m args below meth c H locs ls hC hl hW hS h1 h2) (fun q => h.2 q p e s m args below meth c H locs ls hC hl hW hS h1 h2)
  · exact lv_if_gt hC.1 hC.2.1 hd ha2 (fun q => h.1 q p e s m args below meth c H locs ls hC hl hW hS h1 h2) (fun q => h.2 q p e s m args below meth c H locs ls hC hl hW hS h1 h2)
  · exact lv_if_le hC.1 hC.2.1 hd ha2 (fun q => h.1 q p e s m args below meth c H locs ls hC hl hW hS h1 h2) (fun q => h.2 q p e s m args below meth c H locs ls hC hl hW hS h1 h2)
theorem am_sd_goto {o : Int} (hat : am_at y pc = some (.goto o, nx, x, a, b, ts)) (h : am_Sem l E X y a lo st σ u Q) : am_Sem l E X y pc lo st σ u Q := by
  intro p e s m args below meth c H locs ls hC hl hW hS h1 h2
  obtain ⟨hd, rfl, ha⟩ := am_fx (L := 3) hat rfl
  have ha2 : (pc : Int) + o = (a : Int) := of_decide_eq_true ha
  exact lv_goto hC.1 hC.2.1 hd ha2 (h p e s m args below meth c H locs ls hC hl hW hS h1 h2)
theorem am_sw_pick {v : Int32} {kk : Nat → Prop} {d : Nat} : ∀ ts : List (Int32 × Nat), am_sw v kk d ts → (∃ e ∈ ts, v = e.1 ∧ kk e.2) ∨ ((∀ e ∈ ts, v ≠ e.1) ∧ kk d)
  | [], h => Or.inr ⟨(fun _ h9 => absurd h9 List.not_mem_nil), h⟩
  | e :: r, h => by
    by_cases he : v = e.1
    · exact Or.inl ⟨e, List.mem_cons_self, he, h.1 he⟩
    · rcases am_sw_pick r (h.2 he) with ⟨e', h1, h2⟩ | ⟨h1, h2⟩
      · exact Or.inl ⟨e', List.mem_cons_of_mem _ h1, h2⟩
      · exact Or.inr ⟨List.forall_mem_cons.mpr ⟨he, h1⟩, h2⟩
theorem am_sd_table {d l0 h0 : Int} {offs : Array Int} {v : Int32} (hat : am_at y pc = some (.tableswitch d l0 h0 offs, nx, x, a, b, ts)) (h : am_sw v (fun t => am_Sem l E X y t lo r σ u Q) a ts) : am_Sem l E X y pc lo (.int v :: r) σ u Q := by
  intro p e s m args below meth c H locs ls hC hl hW hS h1 h2
  obtain ⟨hd, -, ha⟩ := am_at_spec hat
  have ha' : (decide ((pc : Int) + d = (a : Int)) && (decide (ts.map (fun e => (e.1.toInt, (e.2 : Int) - pc)) = (List.range offs.size).map (fun (j : Nat) => (l0 + (j : Int), offs.getD j 0))) && (decide (h0 = l0 + offs.size - 1) && Nat.ble 1 offs.size))) = true := ha
  simp only [Bool.and_eq_true] at ha'
  obtain ⟨k1, k2, k3, k4⟩ := ha'
  have k1 := of_decide_eq_true k1
  have k2 := of_decide_eq_true k2
  have k3 := of_decide_eq_true k3
  have k4 := Nat.le_of_ble_eq_true k4
  rcases am_sw_pick ts h with ⟨e', hm, hv, hk⟩ | ⟨hne, hk⟩
  · have hm2 : (e'.1.toInt, (e'.2 : Int) - pc) ∈ (List.range offs.size).map (fun (j : Nat) => (l0 + (j : Int), offs.getD j 0)) := by rw [← k2]; exact List.mem_map_of_mem hm
    obtain ⟨j, hj, hj2⟩ := List.mem_map.mp hm2
    have hjl := List.mem_range.mp hj
    have e1 : v.toInt = l0 + (j : Int) := by rw [hv]; exact (congrArg Prod.fst hj2).symm
    have e2 : offs.getD j 0 = (e'.2 : Int) - pc := congrArg Prod.snd hj2
    have e3 : (v.toInt - l0).toNat = j := by omega
    refine lv_tableIn hC.1 hC.2.1 (off := (e'.2 : Int) - pc) (tgt := e'.2) hd (by omega) (by omega) ?_ (by omega) (hk p e s m args below meth c H locs ls hC hl hW hS h1 h2)
    rw [e3, ← e2]
    simp [Array.getD, hjl]
  · refine lv_tableOut hC.1 hC.2.1 (tgt := a) hd ?_ k1 (hk p e s m args below meth c H locs ls hC hl hW hS h1 h2)
    by_cases q1 : v.toInt < l0
    · exact Or.inl q1
    · by_cases q2 : h0 < v.toInt
      · exact Or.inr q2
      · exfalso
        have hjl : (v.toInt - l0).toNat < offs.size := by omega
        have hm2 : (v.toInt, offs.getD (v.toInt - l0).toNat 0) ∈ ts.map (fun e => (e.1.toInt, (e.2 : Int) - pc)) := by
          rw [k2]
          refine List.mem_map.mpr ⟨(v.toInt - l0).toNat, List.mem_range.mpr hjl, ?_⟩
          have : l0 + (((v.toInt - l0).toNat : Nat) : Int) = v.toInt := by omega
          rw [this]
        obtain ⟨e', hm, he⟩ := List.mem_map.mp hm2
        exact hne e' hm (Int32.toInt_inj.mp (congrArg Prod.fst he).symm)
theorem am_lk {v : Int32} {d : Int} {pc a : Nat} {kk : Nat → Prop} (hd : (pc : Int) + d = (a : Int)) : ∀ ts : List (Int32 × Nat), am_sw v kk a ts → ∃ t : Nat, (pc : Int) + Op.lookupswitch.offset (ts.map (fun e => (e.1.toInt, (e.2 : Int) - pc))) d v.toInt = (t : Int) ∧ kk t
  | [], h => ⟨a, hd, h⟩
  | e :: r, h => by
    by_cases he : v = e.1
    · refine ⟨e.2, ?_, h.1 he⟩
      rw [List.map_cons, Op.lookupswitch.offset_cons, if_pos (by rw [he])]
      omega
    · obtain ⟨t, h1, h2⟩ := am_lk hd r (h.2 he)
      refine ⟨t, ?_, h2⟩
      rw [List.map_cons, Op.lookupswitch.offset_cons, if_neg (fun q => he (Int32.toInt_inj.mp q.symm))]
      exact h1
theorem am_sd_lookup {d : Int} {ps : Array (Int × Int)} {v : Int32} (hat : am_at y pc = some (.lookupswitch d ps, nx, x, a, b, ts)) (h : am_sw v (fun t => am_Sem l E X y t lo r σ u Q) a ts) : am_Sem l E X y pc lo (.int v :: r) σ u Q := by
  intro p e s m args below meth c H locs ls hC hl hW hS h1 h2
  obtain ⟨hd, -, ha⟩ := am_at_spec hat
  have ha' : (decide ((pc : Int) + d = (a : Int)) && (decide (ts.map (fun e => (e.1.toInt, (e.2 : Int) - pc)) = ps.toList) && (ps.toList.zip (ps.toList.drop 1)).all (fun (a, next) => a.1 < next.1))) = true := ha
  simp only [Bool.and_eq_true] at ha'
  obtain ⟨k1, k2, k3⟩ := ha'
  obtain ⟨t, e1, e2⟩ := am_lk (of_decide_eq_true k1) ts h
  rw [of_decide_eq_true k2] at e1
  exact lv_lookup hC.1 hC.2.1 hd k3 rfl e1 (e2 p e s m args below meth c H locs ls hC hl hW hS h1 h2)
-- ends
theorem am_bF {s t : State} {H : Heap} {locs : List Loc} (hS : va_S (am_A E) s.heap H locs) (ht : t.heap = H) : va_F (am_A E) s t := hS.F ht
theorem am_sd_iret {v : Int32} (hat : am_at y pc = some (.ireturn, nx, x, a, b, ts)) (hr : ∃ ty, am_re y = some ty ∧ narrow ty (.int v) = .int v) (h : Q (some (some (.int v))) σ) : am_Sem l E X y pc lo [.int v] σ u Q := by
  intro p e s m args below meth c H locs ls hC hl hW hS h1 h2
  obtain ⟨hd, rfl, ha⟩ := am_fx (L := 1) hat rfl
  obtain ⟨ty, e1, e2⟩ := hr
  refine vx_ret (W.widen h1 h2 ?_)
  exact W.zret (ty := ty) hC.1 hC.2.1 (hC.2.2.1.trans e1) e2 (fun t ht hWm => ⟨⟨some (.int v), σ, rfl, h, by rw [ht]; exact hW⟩, hS.F ht⟩) hS.2.2 hd hC.2.2.2.2.2.2.1
theorem am_sd_lret {v : Int64} (hat : am_at y pc = some (.lreturn, nx, x, a, b, ts)) (hr : am_re y = some .long) (h : Q (some (some (.long v))) σ) : am_Sem l E X y pc lo [.long v] σ u Q := by
  intro p e s m args below meth c H locs ls hC hl hW hS h1 h2
  obtain ⟨hd, rfl, ha⟩ := am_fx (L := 1) hat rfl
  refine vx_ret (W.widen h1 h2 ?_)
  exact W.lret hC.1 hC.2.1 (hC.2.2.1.trans hr) (fun t ht hWm => ⟨⟨some (.long v), σ, rfl, h, by rw [ht]; exact hW⟩, hS.F ht⟩) hS.2.2 hd hC.2.2.2.2.2.2.1
theorem am_sd_vret (hat : am_at y pc = some (.return_, nx, x, a, b, ts)) (hr : am_re y = none) (h : Q (some none) σ) : am_Sem l E X y pc lo [] σ u Q := by
  intro p e s m args below meth c H locs ls hC hl hW hS h1 h2
  obtain ⟨hd, rfl, ha⟩ := am_fx (L := 1) hat rfl
  refine vx_ret (W.widen h1 h2 ?_)
  exact W.vret hC.1 hC.2.1 (hC.2.2.1.trans hr) (fun t ht hWm => ⟨⟨none, σ, rfl, h, by rw [ht]; exact hW⟩, hS.F ht⟩) hS.2.2 hd hC.2.2.2.2.2.2.1
end Simple
