/-! ===== the abstract memory in the heap ===== -/
/-- class and slot numbers, the arrays' classes, the first address, the constants' addresses -/
abbrev am_Env : Type := va_G × (Nat → ClassId) × Nat × (Nat → Nat)
def am_ad (E : am_Env) (p : Nat) : Nat := if p < 1000 then E.2.2.1 + p else E.2.2.2 p
def am_cv (E : am_Env) : Value → Value
  | .ref p => .ref (am_ad E p)
  | v => v
def am_A (E : am_Env) : Nat → Prop := fun q => E.2.2.1 ≤ q
def am_flds (E : am_Env) (f : Nat → Int32) : List (Option (Option Nat)) → Nat → List Value
  | [], _ => []
  | none :: r, k => .int (f k) :: am_flds E f r (k + 1)
  | some o :: r, k => va_rf (o.map (am_ad E)) :: am_flds E f r (k + 1)
def am_row (E : am_Env) (σ : am_S) (p kd : Nat) : (Nat → Int32) ⊕ (Nat → Int64) ⊕ (Nat → UInt32) ⊕ (Nat → UInt64) ⊕ (Nat → Option Nat) := match kd with
  | 4 => .inr (.inl (σ.2.2.1 p))
  | 5 => .inr (.inr (.inr (.inr (fun i => (σ.2.2.2.1 p i).map (am_ad E)))))
  | _ => .inl (σ.2.1 p)
def am_cell (E : am_Env) (σ : am_S) (p : Nat) : am_Sh → va_E
  | .inl (c, fl) => .inr (c, am_flds E (σ.2.1 p) fl 0)
  | .inr (kd, n) => .inl (E.2.1 kd, n, am_row E σ p kd)
def am_ws (E : am_Env) (σ : am_S) : va_W := σ.1.mapIdx (fun p s => (am_ad E p, am_cell E σ p s))
def am_Wd (E : am_Env) (σ : am_S) (H : Heap) : Prop := va_P E.1 vwCl (am_ws E σ) H ∧ va_D (am_A E) (am_ws E σ) ∧ (σ.2.2.2.2 = 0 → H.size = E.2.2.1 + σ.1.length) ∧ σ.1.length ≤ 1000
theorem am_ad_lt {E : am_Env} {p : Nat} (h : p < 1000) : am_ad E p = E.2.2.1 + p := if_pos h
theorem am_ws_at {E : am_Env} {σ : am_S} {p : Nat} {s : am_Sh} (h : σ.1[p]? = some s) : (am_ws E σ)[p]? = some (am_ad E p, am_cell E σ p s) := by
  unfold am_ws
  rw [List.getElem?_mapIdx, h]
  rfl
theorem am_ws_len (E : am_Env) (σ : am_S) : (am_ws E σ).length = σ.1.length := by
  unfold am_ws
  exact List.length_mapIdx
theorem am_flds_len (E : am_Env) (f : Nat → Int32) : ∀ (fl : List (Option (Option Nat))) (j : Nat), (am_flds E f fl j).length = fl.length
  | [], _ => rfl
  | none :: r, j => congrArg (· + 1) (am_flds_len E f r (j + 1))
  | some _ :: r, j => congrArg (· + 1) (am_flds_len E f r (j + 1))
theorem am_flds_at (E : am_Env) (f : Nat → Int32) : ∀ (fl : List (Option (Option Nat))) (j k : Nat) (o : Option (Option Nat)), fl[k]? = some o → (am_flds E f fl j)[k]? = some (match o with | none => .int (f (j + k)) | some r => va_rf (r.map (am_ad E)))
  | [], _, _, _, h => by simp at h
  | none :: r, j, 0, o, h => by cases h; rfl
  | some _ :: r, j, 0, o, h => by cases h; rfl
  | none :: r, j, k + 1, o, h => by
    have := am_flds_at E f r (j + 1) k o h
    rw [show j + 1 + k = j + (k + 1) by omega] at this
    exact this
  | some _ :: r, j, k + 1, o, h => by
    have := am_flds_at E f r (j + 1) k o h
    rw [show j + 1 + k = j + (k + 1) by omega] at this
    exact this
theorem am_flds_low (E : am_Env) (f : Nat → Int32) (i : Nat) (v : Int32) : ∀ (fl : List (Option (Option Nat))) (j : Nat), i < j → am_flds E (upd f i v) fl j = am_flds E f fl j
  | [], _, _ => rfl
  | none :: r, j, h => by
    show Value.int (upd f i v j) :: am_flds E (upd f i v) r (j + 1) = Value.int (f j) :: am_flds E f r (j + 1)
    rw [am_flds_low E f i v r (j + 1) (by omega), show upd f i v j = f j from if_neg (by omega)]
  | some _ :: r, j, h => congrArg (_ :: ·) (am_flds_low E f i v r (j + 1) (by omega))
theorem am_flds_upd (E : am_Env) (f : Nat → Int32) (v : Int32) : ∀ (fl : List (Option (Option Nat))) (j k : Nat), fl[k]? = some none → am_flds E (upd f (j + k) v) fl j = (am_flds E f fl j).set k (.int v)
  | [], _, _, h => by simp at h
  | none :: r, j, 0, h => by
    show Value.int (upd f (j + 0) v j) :: am_flds E (upd f (j + 0) v) r (j + 1) = Value.int v :: am_flds E f r (j + 1)
    rw [am_flds_low E f (j + 0) v r (j + 1) (by omega), show upd f (j + 0) v j = v from if_pos (by omega)]
  | some _ :: r, j, 0, h => by cases h
  | none :: r, j, k + 1, h => by
    show Value.int (upd f (j + (k + 1)) v j) :: am_flds E (upd f (j + (k + 1)) v) r (j + 1) = Value.int (f j) :: (am_flds E f r (j + 1)).set k (.int v)
    rw [show upd f (j + (k + 1)) v j = f j from if_neg (by omega), show j + (k + 1) = j + 1 + k by omega, am_flds_upd E f v r (j + 1) k h]
  | some o :: r, j, k + 1, h => by
    show va_rf (o.map (am_ad E)) :: am_flds E (upd f (j + (k + 1)) v) r (j + 1) = va_rf (o.map (am_ad E)) :: (am_flds E f r (j + 1)).set k (.int v)
    rw [show j + (k + 1) = j + 1 + k by omega, am_flds_upd E f v r (j + 1) k h]
theorem am_flds_set (E : am_Env) (f : Nat → Int32) (q : Nat) : ∀ (fl : List (Option (Option Nat))) (j k : Nat), am_flds E f (fl.set k (some (some q))) j = (am_flds E f fl j).set k (.ref (am_ad E q))
  | [], _, _ => rfl
  | none :: r, j, 0 => rfl
  | some _ :: r, j, 0 => rfl
  | none :: r, j, k + 1 => congrArg (_ :: ·) (am_flds_set E f q r (j + 1) k)
  | some _ :: r, j, k + 1 => congrArg (_ :: ·) (am_flds_set E f q r (j + 1) k)
theorem am_ws_set {E : am_Env} {σ σ' : am_S} {p : Nat} {s' : am_Sh} (h1 : σ'.1 = σ.1.set p s') (h2 : ∀ i, i ≠ p → ∀ t, am_cell E σ' i t = am_cell E σ i t) : am_ws E σ' = (am_ws E σ).set p (am_ad E p, am_cell E σ' p s') := by
  apply List.ext_getElem?
  intro i
  rw [List.getElem?_set, am_ws_len]
  unfold am_ws
  rw [List.getElem?_mapIdx, List.getElem?_mapIdx, h1, List.getElem?_set]
  by_cases hi : p = i
  · subst hi
    simp only [if_true]
    by_cases hl : p < σ.1.length
    · simp [hl]
    · simp [hl]
  · simp only [if_neg hi]
    cases σ.1[i]? with
    | none => rfl
    | some t => exact congrArg (fun z => some (am_ad E i, z)) (h2 i (fun e => hi e.symm) t)
theorem am_set_self {α : Type} {l : List α} {p : Nat} {s : α} (h : l[p]? = some s) : l = l.set p s := by
  apply List.ext_getElem?
  intro i
  rw [List.getElem?_set]
  by_cases hi : p = i
  · subst hi
    have := (List.getElem?_eq_some_iff.mp h).1
    rw [if_pos rfl, if_pos this]
    exact h
  · rw [if_neg hi]
theorem am_up_ne {α : Type} {f : Nat → α} {k i : Nat} {v : α} (h : i ≠ k) : va_up f k v i = f i := if_neg h
theorem am_up_eq {α : Type} {f : Nat → α} {k : Nat} {v : α} : va_up f k v k = v := if_pos rfl
/-- a cell's picture by what its place holds alone -/
theorem am_cell_congr {E : am_Env} {σ σ' : am_S} {i : Nat} (h1 : σ'.2.1 i = σ.2.1 i) (h2 : σ'.2.2.1 i = σ.2.2.1 i) (h3 : σ'.2.2.2.1 i = σ.2.2.2.1 i) : ∀ t, am_cell E σ' i t = am_cell E σ i t
  | .inl (c, fl) => by
    show (Sum.inr (c, am_flds E (σ'.2.1 i) fl 0) : va_E) = Sum.inr (c, am_flds E (σ.2.1 i) fl 0)
    rw [h1]
  | .inr (kd, n) => by
    show (Sum.inl (E.2.1 kd, n, am_row E σ' i kd) : va_E) = Sum.inl (E.2.1 kd, n, am_row E σ i kd)
    have : am_row E σ' i kd = am_row E σ i kd := by
      unfold am_row
      rw [h1, h2, h3]
    rw [this]
theorem am_ws_si {E : am_Env} {σ : am_S} {p j : Nat} {v : Int32} {s : am_Sh} (h : σ.1[p]? = some s) : am_ws E (am_si σ p j v) = (am_ws E σ).set p (am_ad E p, am_cell E (am_si σ p j v) p s) :=
  am_ws_set (σ' := am_si σ p j v) (am_set_self h) (fun i hi => am_cell_congr (am_up_ne hi) rfl rfl)
theorem am_ws_sl {E : am_Env} {σ : am_S} {p j : Nat} {v : Int64} {s : am_Sh} (h : σ.1[p]? = some s) : am_ws E (am_sl σ p j v) = (am_ws E σ).set p (am_ad E p, am_cell E (am_sl σ p j v) p s) :=
  am_ws_set (σ' := am_sl σ p j v) (am_set_self h) (fun i hi => am_cell_congr rfl (am_up_ne hi) rfl)
theorem am_ws_sr {E : am_Env} {σ : am_S} {p j : Nat} {v : Option Nat} {s : am_Sh} (h : σ.1[p]? = some s) : am_ws E (am_sr σ p j v) = (am_ws E σ).set p (am_ad E p, am_cell E (am_sr σ p j v) p s) :=
  am_ws_set (σ' := am_sr σ p j v) (am_set_self h) (fun i hi => am_cell_congr rfl rfl (am_up_ne hi))
theorem am_ws_cp {E : am_Env} {σ : am_S} {p q sp dp n : Nat} {s : am_Sh} (h : σ.1[q]? = some s) : am_ws E (am_cp σ p sp q dp n) = (am_ws E σ).set q (am_ad E q, am_cell E (am_cp σ p sp q dp n) q s) :=
  am_ws_set (σ' := am_cp σ p sp q dp n) (am_set_self h) (fun i hi => am_cell_congr (am_up_ne hi) rfl rfl)
theorem am_ws_sf {E : am_Env} {σ : am_S} {p c k q : Nat} {fl : List (Option (Option Nat))} : am_ws E (am_sf σ p c fl k q) = (am_ws E σ).set p (am_ad E p, .inr (c, (am_flds E (σ.2.1 p) fl 0).set k (.ref (am_ad E q)))) := by
  rw [am_ws_set (σ := σ) (σ' := am_sf σ p c fl k q) (s' := .inl (c, am_put (some (some q)) fl k)) (am_put_eq _ _ _) (fun i _ => am_cell_congr rfl rfl rfl)]
  refine congrArg (fun z => (am_ws E σ).set p (am_ad E p, z)) ?_
  show (Sum.inr (c, am_flds E (σ.2.1 p) (am_put (some (some q)) fl k) 0) : va_E) = _
  rw [am_put_eq, am_flds_set]
theorem am_ws_nw {E : am_Env} {σ : am_S} {s : am_Sh} : am_ws E (am_nw σ s) = am_ws E σ ++ [(am_ad E σ.1.length, am_cell E (am_nw σ s) σ.1.length s)] := by
  apply List.ext_getElem?
  intro i
  unfold am_ws
  rw [List.getElem?_mapIdx, show (am_nw σ s).1 = σ.1 ++ [s] from rfl]
  by_cases hi : i < σ.1.length
  · rw [List.getElem?_append_left hi, List.getElem?_append_left (by rw [List.length_mapIdx]; exact hi), List.getElem?_mapIdx]
    have hne : i ≠ σ.1.length := by omega
    cases σ.1[i]? with
    | none => rfl
    | some t => exact congrArg (fun z => some (am_ad E i, z)) (am_cell_congr (σ := σ) (σ' := am_nw σ s) (am_up_ne hne) (am_up_ne hne) (am_up_ne hne) t)
  · rw [List.getElem?_append_right (by omega), List.getElem?_append_right (by rw [List.length_mapIdx]; omega), List.length_mapIdx]
    by_cases h2 : i = σ.1.length
    · subst h2
      simp
    · have : 1 ≤ i - σ.1.length := by omega
      obtain ⟨k, hk⟩ : ∃ k, i - σ.1.length = k + 1 := ⟨i - σ.1.length - 1, by omega⟩
      rw [hk]
      rfl
-- locals
def am_H (E : am_Env) (ls : Array Slot) (nL : Nat) (lo : am_L) : Prop := ls.size = nL ∧ lv_wf ls ∧ ∀ i v, am_get lo i = some v → ls[i]? = some (.val (am_cv E v))
noncomputable def am_lv (E : am_Env) (lo : am_L) : List (Nat × Value) := (List.range lo.length).filterMap (fun i => (am_get lo i).map (fun v => (i, am_cv E v)))
theorem am_get_eq (lo : am_L) (i : Nat) : am_get lo i = (lo[i]?).join := by
  unfold am_get
  rw [am_nth_eq]
  cases lo[i]? with
  | none => rfl
  | some v => rfl
theorem am_get_lt {lo : am_L} {i : Nat} {v : Value} (h : am_get lo i = some v) : i < lo.length := by
  rw [am_get_eq] at h
  rcases Nat.lt_or_ge i lo.length with q | q
  · exact q
  · rw [List.getElem?_eq_none q] at h
    cases h
theorem am_lv_mem {E : am_Env} {lo : am_L} {i : Nat} {w : Value} : (i, w) ∈ am_lv E lo ↔ ∃ v, am_get lo i = some v ∧ w = am_cv E v := by
  unfold am_lv
  rw [List.mem_filterMap]
  constructor
  · rintro ⟨j, -, h⟩
    cases hg : am_get lo j with
    | none => rw [hg] at h; cases h
    | some v => rw [hg] at h; cases h; exact ⟨v, hg, rfl⟩
  · rintro ⟨v, h, rfl⟩
    exact ⟨i, List.mem_range.mpr (am_get_lt h), by rw [h]; rfl⟩
theorem am_H_has {E : am_Env} {ls : Array Slot} {nL : Nat} {lo : am_L} (h : am_H E ls nL lo) : lv_has ls nL (am_lv E lo) := by
  refine ⟨h.1, h.2.1, ?_⟩
  rintro ⟨i, w⟩ hm
  obtain ⟨v, hv, rfl⟩ := am_lv_mem.mp hm
  exact h.2.2 i v hv
theorem am_cat_cv (E : am_Env) (v : Value) : (am_cv E v).category = v.category := by cases v <;> rfl
theorem am_get_put {lo : am_L} {i j : Nat} {o : Option Value} {w : Value} (h : am_get (am_put o lo i) j = some w) : (j = i ∧ o = some w) ∨ (j ≠ i ∧ am_get lo j = some w) := by
  rw [am_get_eq, am_put_eq, List.getElem?_set] at h
  by_cases hi : i = j
  · subst hi
    by_cases hl : i < lo.length
    · simp [hl] at h
      exact Or.inl ⟨rfl, h⟩
    · simp [hl] at h
  · simp only [if_neg hi] at h
    exact Or.inr ⟨fun e => hi e.symm, by rw [am_get_eq]; exact h⟩
theorem am_get_kill {lo : am_L} {i j : Nat} {w : Value} (h : am_get (am_kill lo i) j = some w) : am_get lo j = some w ∧ ¬ (j + 1 = i ∧ w.category = 2) := by
  unfold am_kill at h
  split at h
  · exact ⟨h, fun e => by omega⟩
  · rename_i k
    split at h
    · rename_i v hv
      cases hc : Nat.beq v.category 2 with
      | true =>
        rw [hc] at h
        rcases am_get_put h with ⟨-, e⟩ | ⟨e1, e2⟩
        · cases e
        · exact ⟨e2, fun e => e1 (by omega)⟩
      | false =>
        rw [hc] at h
        refine ⟨h, fun e => ?_⟩
        have : j = k := by omega
        subst this
        rw [hv] at h
        cases h
        rw [e.2] at hc
        cases hc
    · rename_i hv
      refine ⟨h, fun e => ?_⟩
      have : j = k := by omega
      subst this
      rw [hv] at h
      cases h
theorem am_H_st1 {E : am_Env} {ls' : Array Slot} {nL i : Nat} {lo : am_L} {v : Value} (h : lv_has ls' nL ((i, am_cv E v) :: (am_lv E lo).filter (fun q => !(q.1 == i) && !(q.1 + 1 == i && q.2.category == 2)))) : am_H E ls' nL (am_st1 lo i v) := by
  refine ⟨h.1, h.2.1, fun j w hj => ?_⟩
  rcases am_get_put hj with ⟨rfl, e⟩ | ⟨e1, e2⟩
  · cases e
    exact h.2.2 (j, am_cv E v) List.mem_cons_self
  · obtain ⟨e3, e4⟩ := am_get_kill e2
    refine h.2.2 (j, am_cv E w) (List.mem_cons_of_mem _ (List.mem_filter.mpr ⟨am_lv_mem.mpr ⟨w, e3, rfl⟩, ?_⟩))
    simp only [am_cat_cv]
    have h1 : (j == i) = false := by simpa using e1
    rw [h1]
    cases h2 : (j + 1 == i) with
    | false => rfl
    | true =>
      have : w.category ≠ 2 := fun e => e4 ⟨by simpa using h2, e⟩
      simpa using this
theorem am_H_st2 {E : am_Env} {ls' : Array Slot} {nL i : Nat} {lo : am_L} {v : Value} (h : lv_has ls' nL ((i, am_cv E v) :: (am_lv E lo).filter (fun q => !(q.1 == i) && (!(q.1 == i + 1) && !(q.1 + 1 == i && q.2.category == 2))))) : am_H E ls' nL (am_st2 lo i v) := by
  refine ⟨h.1, h.2.1, fun j w hj => ?_⟩
  rcases am_get_put hj with ⟨rfl, e⟩ | ⟨e1, e2⟩
  · cases e
    exact h.2.2 (j, am_cv E v) List.mem_cons_self
  · rcases am_get_put e2 with ⟨-, e⟩ | ⟨e5, e6⟩
    · cases e
    obtain ⟨e3, e4⟩ := am_get_kill e6
    refine h.2.2 (j, am_cv E w) (List.mem_cons_of_mem _ (List.mem_filter.mpr ⟨am_lv_mem.mpr ⟨w, e3, rfl⟩, ?_⟩))
    simp only [am_cat_cv]
    have h1 : (j == i) = false := by simpa using e1
    have h3 : (j == i + 1) = false := by simpa using e5
    rw [h1, h3]
    cases h2 : (j + 1 == i) with
    | false => rfl
    | true =>
      have : w.category ≠ 2 := fun e => e4 ⟨by simpa using h2, e⟩
      simpa using this
theorem am_H_less {E : am_Env} {ls : Array Slot} {nL : Nat} {lo lo' : am_L} (hl : am_le lo' lo) (h : am_H E ls nL lo) : am_H E ls nL lo' := ⟨h.1, h.2.1, fun i v hv => h.2.2 i v (hl.2 i v hv)⟩
