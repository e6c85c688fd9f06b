/-! THE CLAIM OUT OF ONE WALK OF THE LAW'S BODY. Your part is whole_start (and what it stands on); all else here is the same for every law, but numbers. -/
def R_law : String := "JoinedMonthsLaw"
def lw_P (b : Addr) (xs : List Int32) (args : Array Value) (s : State) : Prop := args = #[.ref b] ∧ s.IntsAt b xs ∧ xs.length ≤ 3584 ∧ (Jvm.Cond.and given_1 narrow_1).before args s = true
def lw_Q (_ : Array Value) (s : State) (o : Outcome) (t : State) : Prop := o = .returned (some (.int 1)) ∧ Framed s o t [] 601024 7293034
def lw_Z (below : List Frame) (a : Array Value) (s : State) : State → Prop := fun t => ∃ o, t.status = .running ∧ Ended t below o ∧ lw_Q a s o t
/-- what holds at the law's entry: the machine, the code, the tables' words (any of lw_tbl by 'hts w (by decide +kernel)'), the script of L ints xs at the cell b, what the Statement gives of the start (any of its parts by flat_of_before) -/
def lw_At (p : Program) (s : State) (m : MethodId) (meth : Method) (c : Code) (b L : Nat) (xs : Nat → Int32) : Prop :=
  p.tables.exec = Jvm.exec ∧ c.code = code ∧ meth.sig.returnType = ret ∧ c.maxLocals = 8 ∧ s.vm.findClass R_law = some m.cls ∧ (∀ w ∈ lw_tbl, w.before #[Value.ref b] s = true) ∧ va_X b L xs s s.heap ∧ b < s.heap.size ∧ meth.locks = false ∧ (Jvm.Cond.and given_1 narrow_1).before #[Value.ref b] s = true
/-! ===== the law's entry: what the Statement gives there (written by wip/gen/gen_entry.py) ===== -/
section Entry
variable {args : Array Value} {s : State}
theorem za_w (hts : ∀ w ∈ lw_tbl, w.before args s = true) (i : Nat) {w : Cond} (h : lw_tbl[i]? = some w) : w.before args s = true := hts w (List.mem_of_getElem? h)
theorem za_g (hgv : (Jvm.Cond.and given_1 narrow_1).before args s = true) (i : Nat) {w : Cond} (h : (flatC (Jvm.Cond.and given_1 narrow_1))[i]? = some w) : w.before args s = true := flat_of_before _ hgv w (List.mem_of_getElem? h)
theorem za_inst (hts : ∀ w ∈ lw_tbl, w.before args s = true) (k : Nat) (hk : k < 7) : (Cond.instantiable (am_cl k).1 (am_cl k).2.2).before args s = true := by
  rcases (show k = 0 ∨ k = 1 ∨ k = 2 ∨ k = 3 ∨ k = 4 ∨ k = 5 ∨ k = 6 by omega) with rfl | rfl | rfl | rfl | rfl | rfl | rfl
  · exact za_w hts 216 (by decide +kernel)
  · exact za_w hts 222 (by decide +kernel)
  · exact za_w hts 159 (by decide +kernel)
  · exact za_w hts 175 (by decide +kernel)
  · exact za_w hts 137 (by decide +kernel)
  · exact za_w hts 129 (by decide +kernel)
  · exact za_w hts 1011 (by decide +kernel)
theorem za_cls (hts : ∀ w ∈ lw_tbl, w.before args s = true) : ∃ (dC : Nat → ClassId) (dI : Nat → Nat → Nat), ∀ (k : Nat) (q : vw_C), vwCl[k]? = some q → u_Kn s q.1 q.2.1 q.2.2 (dC k) (dI k) := by
  have hT : ∀ w ∈ am_TB, w.before args s = true := fun w hw => hts w (List.mem_filter.mp hw).1
  have h : ∀ k, ∃ q : ClassId × (Nat → Nat), k < 7 → u_Kn s (am_cl k).1 (am_cl k).2.1 (am_cl k).2.2 q.1 q.2 := by
    intro k
    by_cases hk : k < 7
    · obtain ⟨cC, iS, h⟩ := u_known (n := (am_cl k).2.2) hT (am_cl_ok k hk).2.1 (za_inst hts k hk)
      exact ⟨(cC, iS), fun _ => h⟩
    · exact ⟨(0, fun _ => 0), fun h => absurd h hk⟩
  obtain ⟨f, hf⟩ := Classical.axiomOfChoice h
  refine ⟨fun k => (f k).1, fun k => (f k).2, fun k q hq => ?_⟩
  have hk : k < 7 := (List.getElem?_eq_some_iff.mp hq).1
  have e : q = am_cl k := Option.some.inj (hq.symm.trans (am_cl_ok k hk).1)
  rw [e]
  exact hf k hk
theorem za_arr {ty : FieldType} (h : (Cond.arrayClass ty).before args s = true) : ∃ cA, ArrOfT s cA ty ∧ s.vm.findClass ("[" ++ ty.toString) = some cA := by
  obtain ⟨cA, kA, comp, h1, h2, h3⟩ := Cond.arrayClass_spec h
  exact ⟨cA, fun n z => ⟨fun k h => (by cases h), kA, h2, comp, h3⟩, h1⟩
theorem za_arrO {n : String} (h : (Cond.arrayOver (.object n)).before args s = true) : ∃ cA, ArrOfT s cA (.object n) ∧ va_RA s cA (.object n) := by
  obtain ⟨comp, c, k, h1, -, h3, h4, h5⟩ := Cond.arrayOver_spec h
  exact ⟨c, fun N z => ⟨(fun k h => by cases h), k, h3, comp, h4⟩, k, comp, h3, h4, h1, h5⟩
theorem za_tab {A : Nat → Prop} {tm : Term} {ty : FieldType} {l : List Int32} (h4 : l.length = 4) (harr : (Cond.arrayOf tm ty).before args s = true) (hlen : (Cond.eq (.length tm) (.int 4)).before args s = true) (e0 : (Cond.eq (.elem tm (.int 0)) (.int (l.getD 0 0))).before args s = true) (e1 : (Cond.eq (.elem tm (.int 1)) (.int (l.getD 1 0))).before args s = true) (e2 : (Cond.eq (.elem tm (.int 2)) (.int (l.getD 2 0))).before args s = true) (e3 : (Cond.eq (.elem tm (.int 3)) (.int (l.getD 3 0))).before args s = true) (hA : ∀ a : Nat, a < s.heap.size → ¬ A a) : ∃ t : Nat, tm.eval args s none [] s = some (.ref t) ∧ va_T ty t l.length (fun j => .int (l.getD j 0)) A s s.heap := by
  rw [h4]
  refine va_Tof (by decide) harr (va_eqt hlen) (fun j hj => ?_) hA
  rcases (show j = 0 ∨ j = 1 ∨ j = 2 ∨ j = 3 by omega) with rfl | rfl | rfl | rfl
  · exact va_eqt e0
  · exact va_eqt e1
  · exact va_eqt e2
  · exact va_eqt e3
/-- a text that is a constant -/
theorem za_str {A : Nat → Prop} {tm : Term} {l : List Int32} (hN : l.length < 2147483648) (hex : (Cond.exactly tm "java/lang/String").before args s = true) (hco : (Cond.eq (.field tm "java/lang/String" "coder" "B") (.int 0)).before args s = true) (har : (Cond.arrayOf (.field tm "java/lang/String" "value" "[B") .byte).before args s = true) (hle : (Cond.eq (.length (.field tm "java/lang/String" "value" "[B")) (.int (Int32.ofNat l.length))).before args s = true) (hel : ∀ j : Nat, j < l.length → (Cond.eq (.elem (.field tm "java/lang/String" "value" "[B") (.int (Int32.ofNat j))) (.int (l.getD j 0))).before args s = true) (hA : ∀ a : Nat, a < s.heap.size → ¬ A a) :
    ∃ a v : Nat, tm.eval args s none [] s = some (.ref a) ∧ (va_O "java/lang/String" a A s s.heap ∧ va_OF "java/lang/String" "coder" "B" (.int 0) a A s s.heap ∧ va_OF "java/lang/String" "value" "[B" (.ref v) a A s s.heap) ∧ va_T .byte v l.length (fun j => .int (l.getD j 0)) A s s.heap := by
  obtain ⟨a, c, cA, kA, q1, q2, q3, q4, q5, q6, -⟩ := Cond.exactly_spec hex
  obtain ⟨t, ht, hT⟩ := va_Tof (f := fun j => .int (l.getD j 0)) (A := A) hN har (va_eqt hle) (fun j hj => va_eqt (hel j hj)) hA
  exact ⟨a, t, q1, ⟨⟨cA, q3, q5, by rw [q6]; exact q2, hA a (Array.getElem?_eq_some_iff.mp q3).1⟩, vk_OFof q1 (va_eqt hco) hA, vk_OFof q1 ht hA⟩, hT⟩
theorem za_pick (b : Nat) (t k v : Nat → Nat) : ∃ cad : Nat → Nat, cad 1000 = b ∧ (∀ i, i < 6 → cad (1001 + i) = t i) ∧ (∀ i, i < 4 → cad (1010 + i) = k i) ∧ ∀ i, i < 4 → cad (1020 + i) = v i := by
  refine ⟨fun q => if q < 1001 then b else if q < 1010 then t (q - 1001) else if q < 1020 then k (q - 1010) else v (q - 1020), ?_, fun i hi => ?_, fun i hi => ?_, fun i hi => ?_⟩
  · exact if_pos (by omega)
  · dsimp only
    rw [if_neg (by omega), if_pos (by omega), Nat.add_sub_cancel_left]
  · dsimp only
    rw [if_neg (by omega), if_neg (by omega), if_pos (by omega), Nat.add_sub_cancel_left]
  · dsimp only
    rw [if_neg (by omega), if_neg (by omega), if_neg (by omega), Nat.add_sub_cancel_left]
theorem za_t0 {A : Nat → Prop} (hgv : (Jvm.Cond.and given_1 narrow_1).before args s = true) (hA : ∀ a : Nat, a < s.heap.size → ¬ A a) : ∃ t : Nat, (Term.static "JoinedMonths" "LAW_LEAST" "[I").eval args s none [] s = some (.ref t) ∧ va_T .int t 4 (fun j => .int (([1, 0, 0, 0] : List Int32).getD j 0)) A s s.heap :=
  za_tab (l := [1, 0, 0, 0]) rfl (za_g hgv 17 (by decide +kernel)) (za_g hgv 18 (by decide +kernel)) (za_g hgv 19 (by decide +kernel)) (za_g hgv 20 (by decide +kernel)) (za_g hgv 21 (by decide +kernel)) (za_g hgv 22 (by decide +kernel)) hA
theorem za_t1 {A : Nat → Prop} (hgv : (Jvm.Cond.and given_1 narrow_1).before args s = true) (hA : ∀ a : Nat, a < s.heap.size → ¬ A a) : ∃ t : Nat, (Term.static "JoinedMonths" "LAW_MOST" "[I").eval args s none [] s = some (.ref t) ∧ va_T .int t 4 (fun j => .int (([240, 99, 99, 359] : List Int32).getD j 0)) A s s.heap :=
  za_tab (l := [240, 99, 99, 359]) rfl (za_g hgv 24 (by decide +kernel)) (za_g hgv 25 (by decide +kernel)) (za_g hgv 26 (by decide +kernel)) (za_g hgv 27 (by decide +kernel)) (za_g hgv 28 (by decide +kernel)) (za_g hgv 29 (by decide +kernel)) hA
theorem za_t2 {A : Nat → Prop} (hgv : (Jvm.Cond.and given_1 narrow_1).before args s = true) (hA : ∀ a : Nat, a < s.heap.size → ¬ A a) : ∃ t : Nat, (Term.static "JoinedMonths" "LAW_DIGITS" "[I").eval args s none [] s = some (.ref t) ∧ va_T .int t 4 (fun j => .int (([3, 2, 2, 3] : List Int32).getD j 0)) A s s.heap :=
  za_tab (l := [3, 2, 2, 3]) rfl (za_g hgv 10 (by decide +kernel)) (za_g hgv 11 (by decide +kernel)) (za_g hgv 12 (by decide +kernel)) (za_g hgv 13 (by decide +kernel)) (za_g hgv 14 (by decide +kernel)) (za_g hgv 15 (by decide +kernel)) hA
theorem za_t3 {A : Nat → Prop} (hgv : (Jvm.Cond.and given_1 narrow_1).before args s = true) (hA : ∀ a : Nat, a < s.heap.size → ¬ A a) : ∃ t : Nat, (Term.static "JoinedMonths" "KINDS_BY_LETTER" "[I").eval args s none [] s = some (.ref t) ∧ va_T .int t 4 (fun j => .int (([2, 1, 3, 0] : List Int32).getD j 0)) A s s.heap :=
  za_tab (l := [2, 1, 3, 0]) rfl (za_g hgv 31 (by decide +kernel)) (za_g hgv 32 (by decide +kernel)) (za_g hgv 33 (by decide +kernel)) (za_g hgv 34 (by decide +kernel)) (za_g hgv 35 (by decide +kernel)) (za_g hgv 36 (by decide +kernel)) hA
theorem za_t4 {A : Nat → Prop} (hgv : (Jvm.Cond.and given_1 narrow_1).before args s = true) (hA : ∀ a : Nat, a < s.heap.size → ¬ A a) : ∃ t : Nat, (Term.static "JoinedMonthsModel" "LETTERS" "[B").eval args s none [] s = some (.ref t) ∧ va_T .byte t 4 (fun j => .int (([119, 115, 99, 118] : List Int32).getD j 0)) A s s.heap :=
  za_tab (l := [119, 115, 99, 118]) rfl (za_g hgv 40 (by decide +kernel)) (za_g hgv 41 (by decide +kernel)) (za_g hgv 42 (by decide +kernel)) (za_g hgv 43 (by decide +kernel)) (za_g hgv 44 (by decide +kernel)) (za_g hgv 45 (by decide +kernel)) hA
theorem za_t5 {A : Nat → Prop} (hgv : (Jvm.Cond.and given_1 narrow_1).before args s = true) (hA : ∀ a : Nat, a < s.heap.size → ¬ A a) : ∃ t : Nat, (Term.static "JoinedMonthsModel" "BY_LETTERS" "[I").eval args s none [] s = some (.ref t) ∧ va_T .int t 4 (fun j => .int (([2, 1, 3, 0] : List Int32).getD j 0)) A s s.heap :=
  za_tab (l := [2, 1, 3, 0]) rfl (za_g hgv 47 (by decide +kernel)) (za_g hgv 48 (by decide +kernel)) (za_g hgv 49 (by decide +kernel)) (za_g hgv 50 (by decide +kernel)) (za_g hgv 51 (by decide +kernel)) (za_g hgv 52 (by decide +kernel)) hA
theorem za_s0 {A : Nat → Prop} (hgv : (Jvm.Cond.and given_1 narrow_1).before args s = true) (hA : ∀ a : Nat, a < s.heap.size → ¬ A a) : ∃ a v : Nat, (Term.string "JoinedMonths" 108).eval args s none [] s = some (.ref a) ∧ (va_O "java/lang/String" a A s s.heap ∧ va_OF "java/lang/String" "coder" "B" (.int 0) a A s s.heap ∧ va_OF "java/lang/String" "value" "[B" (.ref v) a A s s.heap) ∧ va_T .byte v 5 (fun j => .int (([97, 98, 99, 100, 101] : List Int32).getD j 0)) A s s.heap := by
  refine za_str (l := [97, 98, 99, 100, 101]) (by decide) (za_g hgv 60 (by decide +kernel)) (za_g hgv 61 (by decide +kernel)) (za_g hgv 62 (by decide +kernel)) (za_g hgv 63 (by decide +kernel)) (fun j hj => ?_) hA
  have hj : j < 5 := hj
  rcases (show j = 0 ∨ j = 1 ∨ j = 2 ∨ j = 3 ∨ j = 4 by omega) with rfl | rfl | rfl | rfl | rfl
  · exact za_g hgv 64 (by decide +kernel)
  · exact za_g hgv 65 (by decide +kernel)
  · exact za_g hgv 66 (by decide +kernel)
  · exact za_g hgv 67 (by decide +kernel)
  · exact za_g hgv 68 (by decide +kernel)
theorem za_s1 {A : Nat → Prop} (hgv : (Jvm.Cond.and given_1 narrow_1).before args s = true) (hA : ∀ a : Nat, a < s.heap.size → ¬ A a) : ∃ a v : Nat, (Term.string "JoinedMonths" 133).eval args s none [] s = some (.ref a) ∧ (va_O "java/lang/String" a A s s.heap ∧ va_OF "java/lang/String" "coder" "B" (.int 0) a A s s.heap ∧ va_OF "java/lang/String" "value" "[B" (.ref v) a A s s.heap) ∧ va_T .byte v 4 (fun j => .int (([119, 115, 99, 118] : List Int32).getD j 0)) A s s.heap := by
  refine za_str (l := [119, 115, 99, 118]) (by decide) (za_g hgv 69 (by decide +kernel)) (za_g hgv 70 (by decide +kernel)) (za_g hgv 71 (by decide +kernel)) (za_g hgv 72 (by decide +kernel)) (fun j hj => ?_) hA
  have hj : j < 4 := hj
  rcases (show j = 0 ∨ j = 1 ∨ j = 2 ∨ j = 3 by omega) with rfl | rfl | rfl | rfl
  · exact za_g hgv 73 (by decide +kernel)
  · exact za_g hgv 74 (by decide +kernel)
  · exact za_g hgv 75 (by decide +kernel)
  · exact za_g hgv 76 (by decide +kernel)
theorem za_s2 {A : Nat → Prop} (hgv : (Jvm.Cond.and given_1 narrow_1).before args s = true) (hA : ∀ a : Nat, a < s.heap.size → ¬ A a) : ∃ a v : Nat, (Term.string "JoinedMonths" 363).eval args s none [] s = some (.ref a) ∧ (va_O "java/lang/String" a A s s.heap ∧ va_OF "java/lang/String" "coder" "B" (.int 0) a A s s.heap ∧ va_OF "java/lang/String" "value" "[B" (.ref v) a A s s.heap) ∧ va_T .byte v 7 (fun j => .int (([43, 45, 109, 114, 107, 108, 105] : List Int32).getD j 0)) A s s.heap := by
  refine za_str (l := [43, 45, 109, 114, 107, 108, 105]) (by decide) (za_g hgv 78 (by decide +kernel)) (za_g hgv 79 (by decide +kernel)) (za_g hgv 80 (by decide +kernel)) (za_g hgv 81 (by decide +kernel)) (fun j hj => ?_) hA
  have hj : j < 7 := hj
  rcases (show j = 0 ∨ j = 1 ∨ j = 2 ∨ j = 3 ∨ j = 4 ∨ j = 5 ∨ j = 6 by omega) with rfl | rfl | rfl | rfl | rfl | rfl | rfl
  · exact za_g hgv 82 (by decide +kernel)
  · exact za_g hgv 83 (by decide +kernel)
  · exact za_g hgv 84 (by decide +kernel)
  · exact za_g hgv 85 (by decide +kernel)
  · exact za_g hgv 86 (by decide +kernel)
  · exact za_g hgv 87 (by decide +kernel)
  · exact za_g hgv 88 (by decide +kernel)
theorem za_s3 {A : Nat → Prop} (hgv : (Jvm.Cond.and given_1 narrow_1).before args s = true) (hA : ∀ a : Nat, a < s.heap.size → ¬ A a) : ∃ a v : Nat, (Term.string "JoinedMonths" 381).eval args s none [] s = some (.ref a) ∧ (va_O "java/lang/String" a A s s.heap ∧ va_OF "java/lang/String" "coder" "B" (.int 0) a A s s.heap ∧ va_OF "java/lang/String" "value" "[B" (.ref v) a A s s.heap) ∧ va_T .byte v 4 (fun j => .int (([48, 49, 50, 51] : List Int32).getD j 0)) A s s.heap := by
  refine za_str (l := [48, 49, 50, 51]) (by decide) (za_g hgv 91 (by decide +kernel)) (za_g hgv 92 (by decide +kernel)) (za_g hgv 93 (by decide +kernel)) (za_g hgv 94 (by decide +kernel)) (fun j hj => ?_) hA
  have hj : j < 4 := hj
  rcases (show j = 0 ∨ j = 1 ∨ j = 2 ∨ j = 3 by omega) with rfl | rfl | rfl | rfl
  · exact za_g hgv 95 (by decide +kernel)
  · exact za_g hgv 96 (by decide +kernel)
  · exact za_g hgv 97 (by decide +kernel)
  · exact za_g hgv 98 (by decide +kernel)
theorem za_m0 (hts : ∀ w ∈ lw_tbl, w.before args s = true) (hgv : (Jvm.Cond.and given_1 narrow_1).before args s = true) : ∃ a, vk_R "JoinedMonths" 165 "no such number of a span" a s := by
  have hx : (Cond.exactly (.string "JoinedMonths" 165) "java/lang/String").before args s = true := (za_g hgv 102 (by decide +kernel))
  obtain ⟨a, c, cA, kA, q1, -⟩ := Cond.exactly_spec hx
  exact ⟨a, vk_R.of (za_w hts 955 (by decide +kernel)) q1⟩
theorem za_m1 (hts : ∀ w ∈ lw_tbl, w.before args s = true) (hgv : (Jvm.Cond.and given_1 narrow_1).before args s = true) : ∃ a, vk_R "JoinedMonths" 185 "no such number of a law" a s := by
  have hx : (Cond.exactly (.string "JoinedMonths" 185) "java/lang/String").before args s = true := (za_g hgv 134 (by decide +kernel))
  obtain ⟨a, c, cA, kA, q1, -⟩ := Cond.exactly_spec hx
  exact ⟨a, vk_R.of (za_w hts 993 (by decide +kernel)) q1⟩
theorem za_m2 (hts : ∀ w ∈ lw_tbl, w.before args s = true) (hgv : (Jvm.Cond.and given_1 narrow_1).before args s = true) : ∃ a, vk_R "JoinedMonths" 193 "no such number of a month" a s := by
  have hx : (Cond.exactly (.string "JoinedMonths" 193) "java/lang/String").before args s = true := (za_g hgv 166 (by decide +kernel))
  obtain ⟨a, c, cA, kA, q1, -⟩ := Cond.exactly_spec hx
  exact ⟨a, vk_R.of (za_w hts 1001 (by decide +kernel)) q1⟩
theorem za_m3 (hts : ∀ w ∈ lw_tbl, w.before args s = true) (hgv : (Jvm.Cond.and given_1 narrow_1).before args s = true) : ∃ a, vk_R "JoinedMonths" 346 "no such number of the row" a s := by
  have hx : (Cond.exactly (.string "JoinedMonths" 346) "java/lang/String").before args s = true := (za_g hgv 201 (by decide +kernel))
  obtain ⟨a, c, cA, kA, q1, -⟩ := Cond.exactly_spec hx
  exact ⟨a, vk_R.of (za_w hts 1009 (by decide +kernel)) q1⟩
end Entry
theorem za_CF {p : Program} {s : State} {m : MethodId} {meth : Method} {c : Code} {b L : Nat} {xs : Nat → Int32} (C0 : lw_At p s m meth c b L xs) : ∃ E : am_Env, E.2.2.1 = s.heap.size ∧ E.2.2.2 1000 = b ∧ am_CF E (L, xs) s s.heap := by
  obtain ⟨hx, hb, hr, hml, hown, hts, hX, hbl, hlocks, hgv⟩ := id C0
  have hA : ∀ a : Nat, a < s.heap.size → ¬ (fun q : Nat => s.heap.size ≤ q) a := fun a ha => Nat.not_le.mpr ha
  obtain ⟨dC, dI, hcl⟩ := za_cls hts
  obtain ⟨a0, hr0, hn0⟩ := za_arr (ty := .int) (za_w hts 214 (by decide +kernel))
  obtain ⟨a1, hr1, hn1⟩ := za_arr (ty := .byte) (za_w hts 602 (by decide +kernel))
  obtain ⟨a2, hr2, hn2⟩ := za_arr (ty := .char) (za_w hts 157 (by decide +kernel))
  obtain ⟨a3, hr3, hn3⟩ := za_arr (ty := .boolean) (za_w hts 423 (by decide +kernel))
  obtain ⟨a4, hr4, hn4⟩ := za_arr (ty := .long) (za_w hts 173 (by decide +kernel))
  obtain ⟨a5, hr5, hn5⟩ := za_arrO (n := RX3) (za_w hts 315 (by decide +kernel))
  obtain ⟨t0, ht0, hT0⟩ := za_t0 hgv hA
  obtain ⟨t1, ht1, hT1⟩ := za_t1 hgv hA
  obtain ⟨t2, ht2, hT2⟩ := za_t2 hgv hA
  obtain ⟨t3, ht3, hT3⟩ := za_t3 hgv hA
  obtain ⟨t4, ht4, hT4⟩ := za_t4 hgv hA
  obtain ⟨t5, ht5, hT5⟩ := za_t5 hgv hA
  obtain ⟨k0, v0, hk0, hO0, hV0⟩ := za_s0 hgv hA
  obtain ⟨k1, v1, hk1, hO1, hV1⟩ := za_s1 hgv hA
  obtain ⟨k2, v2, hk2, hO2, hV2⟩ := za_s2 hgv hA
  obtain ⟨k3, v3, hk3, hO3, hV3⟩ := za_s3 hgv hA
  obtain ⟨cad, cb, ct, ck, cv⟩ := za_pick b (fun i => match i with | 0 => t0 | 1 => t1 | 2 => t2 | 3 => t3 | 4 => t4 | _ => t5) (fun i => match i with | 0 => k0 | 1 => k1 | 2 => k2 | _ => k3) (fun i => match i with | 0 => v0 | 1 => v1 | 2 => v2 | _ => v3)
  have ct0 : cad 1001 = t0 := ct 0 (by decide)
  have ct1 : cad 1002 = t1 := ct 1 (by decide)
  have ct2 : cad 1003 = t2 := ct 2 (by decide)
  have ct3 : cad 1004 = t3 := ct 3 (by decide)
  have ct4 : cad 1005 = t4 := ct 4 (by decide)
  have ct5 : cad 1006 = t5 := ct 5 (by decide)
  have ck0 : cad 1010 = k0 := ck 0 (by decide)
  have cv0 : cad 1020 = v0 := cv 0 (by decide)
  have ck1 : cad 1011 = k1 := ck 1 (by decide)
  have cv1 : cad 1021 = v1 := cv 1 (by decide)
  have ck2 : cad 1012 = k2 := ck 2 (by decide)
  have cv2 : cad 1022 = v2 := cv 2 (by decide)
  have ck3 : cad 1013 = k3 := ck 3 (by decide)
  have cv3 : cad 1023 = v3 := cv 3 (by decide)
  refine ⟨((dC, dI), (fun k => match k with | 0 => a0 | 1 => a1 | 2 => a2 | 3 => a3 | 4 => a4 | _ => a5), s.heap.size, cad), rfl, cb, ⟨hcl, fun k q h => ?_⟩, fun w hw => ?_, ?_, ?_, ?_, fun k hk => ?_, ?_, ?_, ?_, ?_, ?_, ?_, ?_, Nat.le_refl _⟩
  · match k, h with
    | 0, h => cases h; exact ⟨hr0, hn0⟩
    | 1, h => cases h; exact ⟨hr1, hn1⟩
    | 2, h => cases h; exact ⟨hr2, hn2⟩
    | 3, h => cases h; exact ⟨hr3, hn3⟩
    | 4, h => cases h; exact ⟨hr4, hn4⟩
    | 5, h => cases h; exact ⟨hr5, hn5⟩
    | k + 6, h => simp [am_tys] at h
  · obtain ⟨h1, h2⟩ := List.mem_filter.mp hw
    have h3 := hts w h1
    cases w <;> first
      | exact va_Nw.of rfl h3
      | (simp [am_isNest] at h2)
  · unfold am_SL
    refine List.forall_mem_cons.mpr ⟨?_, List.forall_mem_cons.mpr ⟨?_, List.forall_mem_cons.mpr ⟨?_, List.forall_mem_cons.mpr ⟨?_, List.forall_mem_cons.mpr ⟨?_, List.forall_mem_cons.mpr ⟨?_, fun _ h => absurd h List.not_mem_nil⟩⟩⟩⟩⟩⟩
    · show va_Z "JoinedMonths" "LAW_LEAST" "[I" (.ref (cad 1001)) _ s s.heap
      rw [ct0]
      exact va_Zof (za_w hts 610 (by decide +kernel)) (za_w hts 110 (by decide +kernel)) ht0 hA
    · show va_Z "JoinedMonths" "LAW_MOST" "[I" (.ref (cad 1002)) _ s s.heap
      rw [ct1]
      exact va_Zof (za_w hts 612 (by decide +kernel)) (za_w hts 110 (by decide +kernel)) ht1 hA
    · show va_Z "JoinedMonths" "LAW_DIGITS" "[I" (.ref (cad 1003)) _ s s.heap
      rw [ct2]
      exact va_Zof (za_w hts 608 (by decide +kernel)) (za_w hts 110 (by decide +kernel)) ht2 hA
    · show va_Z "JoinedMonths" "KINDS_BY_LETTER" "[I" (.ref (cad 1004)) _ s s.heap
      rw [ct3]
      exact va_Zof (za_w hts 783 (by decide +kernel)) (za_w hts 110 (by decide +kernel)) ht3 hA
    · show va_Z "JoinedMonthsModel" "LETTERS" "[B" (.ref (cad 1005)) _ s s.heap
      rw [ct4]
      exact va_Zof (za_w hts 1158 (by decide +kernel)) (za_w hts 117 (by decide +kernel)) ht4 hA
    · show va_Z "JoinedMonthsModel" "BY_LETTERS" "[I" (.ref (cad 1006)) _ s s.heap
      rw [ct5]
      exact va_Zof (za_w hts 1423 (by decide +kernel)) (za_w hts 117 (by decide +kernel)) ht5 hA
  · exact va_Zof (za_w hts 491 (by decide +kernel)) (za_w hts 119 (by decide +kernel)) (va_eqt (za_g hgv 4 (by decide +kernel))) hA
  · unfold am_KA
    refine List.forall_mem_cons.mpr ⟨?_, List.forall_mem_cons.mpr ⟨?_, List.forall_mem_cons.mpr ⟨?_, List.forall_mem_cons.mpr ⟨?_, List.forall_mem_cons.mpr ⟨?_, List.forall_mem_cons.mpr ⟨?_, List.forall_mem_cons.mpr ⟨?_, List.forall_mem_cons.mpr ⟨?_, List.forall_mem_cons.mpr ⟨?_, List.forall_mem_cons.mpr ⟨?_, fun _ h => absurd h List.not_mem_nil⟩⟩⟩⟩⟩⟩⟩⟩⟩⟩
    · show va_T .int (cad 1001) 4 (fun j => .int (([1, 0, 0, 0] : List Int32).getD j 0)) _ s s.heap
      rw [ct0]
      exact hT0
    · show va_T .int (cad 1002) 4 (fun j => .int (([240, 99, 99, 359] : List Int32).getD j 0)) _ s s.heap
      rw [ct1]
      exact hT1
    · show va_T .int (cad 1003) 4 (fun j => .int (([3, 2, 2, 3] : List Int32).getD j 0)) _ s s.heap
      rw [ct2]
      exact hT2
    · show va_T .int (cad 1004) 4 (fun j => .int (([2, 1, 3, 0] : List Int32).getD j 0)) _ s s.heap
      rw [ct3]
      exact hT3
    · show va_T .byte (cad 1005) 4 (fun j => .int (([119, 115, 99, 118] : List Int32).getD j 0)) _ s s.heap
      rw [ct4]
      exact hT4
    · show va_T .int (cad 1006) 4 (fun j => .int (([2, 1, 3, 0] : List Int32).getD j 0)) _ s s.heap
      rw [ct5]
      exact hT5
    · show va_T .byte (cad 1020) 5 (fun j => .int (([97, 98, 99, 100, 101] : List Int32).getD j 0)) _ s s.heap
      rw [cv0]
      exact hV0
    · show va_T .byte (cad 1021) 4 (fun j => .int (([119, 115, 99, 118] : List Int32).getD j 0)) _ s s.heap
      rw [cv1]
      exact hV1
    · show va_T .byte (cad 1022) 7 (fun j => .int (([43, 45, 109, 114, 107, 108, 105] : List Int32).getD j 0)) _ s s.heap
      rw [cv2]
      exact hV2
    · show va_T .byte (cad 1023) 4 (fun j => .int (([48, 49, 50, 51] : List Int32).getD j 0)) _ s s.heap
      rw [cv3]
      exact hV3
  · rcases (show k = 0 ∨ k = 1 ∨ k = 2 ∨ k = 3 by omega) with rfl | rfl | rfl | rfl
    · show va_O "java/lang/String" (cad 1010) _ s s.heap ∧ va_OF "java/lang/String" "coder" "B" (.int 0) (cad 1010) _ s s.heap ∧ va_OF "java/lang/String" "value" "[B" (.ref (cad 1020)) (cad 1010) _ s s.heap
      rw [ck0, cv0]
      exact hO0
    · show va_O "java/lang/String" (cad 1011) _ s s.heap ∧ va_OF "java/lang/String" "coder" "B" (.int 0) (cad 1011) _ s s.heap ∧ va_OF "java/lang/String" "value" "[B" (.ref (cad 1021)) (cad 1011) _ s s.heap
      rw [ck1, cv1]
      exact hO1
    · show va_O "java/lang/String" (cad 1012) _ s s.heap ∧ va_OF "java/lang/String" "coder" "B" (.int 0) (cad 1012) _ s s.heap ∧ va_OF "java/lang/String" "value" "[B" (.ref (cad 1022)) (cad 1012) _ s s.heap
      rw [ck2, cv2]
      exact hO2
    · show va_O "java/lang/String" (cad 1013) _ s s.heap ∧ va_OF "java/lang/String" "coder" "B" (.int 0) (cad 1013) _ s s.heap ∧ va_OF "java/lang/String" "value" "[B" (.ref (cad 1023)) (cad 1013) _ s s.heap
      rw [ck3, cv3]
      exact hO3
  · unfold am_KS
    refine List.forall_mem_cons.mpr ⟨?_, List.forall_mem_cons.mpr ⟨?_, List.forall_mem_cons.mpr ⟨?_, List.forall_mem_cons.mpr ⟨?_, fun _ h => absurd h List.not_mem_nil⟩⟩⟩⟩
    · show vk_R "JoinedMonths" 108 "abcde" (cad 1010) s
      rw [ck0]
      exact vk_R.of (za_w hts 472 (by decide +kernel)) hk0
    · show vk_R "JoinedMonths" 133 "wscv" (cad 1011) s
      rw [ck1]
      exact vk_R.of (za_w hts 561 (by decide +kernel)) hk1
    · show vk_R "JoinedMonths" 363 "+-mrkli" (cad 1012) s
      rw [ck2]
      exact vk_R.of (za_w hts 853 (by decide +kernel)) hk2
    · show vk_R "JoinedMonths" 381 "0123" (cad 1013) s
      rw [ck3]
      exact vk_R.of (za_w hts 871 (by decide +kernel)) hk3
  · unfold am_KM
    exact List.forall_mem_cons.mpr ⟨za_m0 hts hgv, List.forall_mem_cons.mpr ⟨za_m1 hts hgv, List.forall_mem_cons.mpr ⟨za_m2 hts hgv, List.forall_mem_cons.mpr ⟨za_m3 hts hgv, fun _ h => absurd h List.not_mem_nil⟩⟩⟩⟩
  · exact va_AO.of (za_w hts 315 (by decide +kernel))
  · exact vx_Zqof (za_w hts 943 (by decide +kernel)) (za_w hts 124 (by decide +kernel)) (za_g hgv 37 (by decide +kernel)) hA
  · exact vx_Zqof (za_w hts 945 (by decide +kernel)) (za_w hts 124 (by decide +kernel)) (za_g hgv 38 (by decide +kernel)) hA
  · show va_X (cad 1000) L xs s s.heap
    rw [cb]
    exact hX
  · show cad 1000 < s.heap.size
    rw [cb]
    exact hbl
