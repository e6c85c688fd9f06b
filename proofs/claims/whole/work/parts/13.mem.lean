/-! ===== the machine's rows for what reads and writes the memory ===== -/
theorem am_tb {i : Nat} {w : Cond} (h : lw_tbl[i]? = some w) (hg : goodWord w = true) : w ∈ am_TB := List.mem_filter.mpr ⟨List.mem_of_getElem? h, hg⟩
theorem am_nwm {i : Nat} {w : Cond} (h : lw_tbl[i]? = some w) (hg : am_isNest w = true) : w ∈ am_NW := List.mem_filter.mpr ⟨List.mem_of_getElem? h, hg⟩
theorem am_at5_mem {l : List (Nat × Nat × Nat × Nat × Nat)} {o k a b : Nat} (h : am_at5 l o k a b = true) : ∃ q, (o, k, a, b, q) ∈ l := by
  unfold am_at5 at h
  obtain ⟨⟨o', k', a', b', q⟩, hm, he⟩ := List.any_eq_true.mp h
  simp only [Bool.and_eq_true] at he
  obtain ⟨⟨e1, e2⟩, e3, e4⟩ := he
  cases Nat.eq_of_beq_eq_true e1
  cases Nat.eq_of_beq_eq_true e2
  cases Nat.eq_of_beq_eq_true e3
  cases Nat.eq_of_beq_eq_true e4
  exact ⟨q, hm⟩
theorem am_at6_mem {l : List (Nat × Nat × Nat × Nat × Nat × Nat)} {o k a b c : Nat} (h : am_at6 l o k a b c = true) : ∃ q, (o, k, a, b, c, q) ∈ l := by
  unfold am_at6 at h
  obtain ⟨⟨o', k', a', b', c', q⟩, hm, he⟩ := List.any_eq_true.mp h
  simp only [Bool.and_eq_true] at he
  obtain ⟨⟨e1, e2⟩, e3, e4, e5⟩ := he
  cases Nat.eq_of_beq_eq_true e1
  cases Nat.eq_of_beq_eq_true e2
  cases Nat.eq_of_beq_eq_true e3
  cases Nat.eq_of_beq_eq_true e4
  cases Nat.eq_of_beq_eq_true e5
  exact ⟨q, hm⟩
theorem am_uw0 : ∀ w ∈ u_ws RX0 TX0 13, w ∈ lw_tbl := by decide +kernel
theorem am_uw1 : ∀ w ∈ u_ws RX1 TX1 8, w ∈ lw_tbl := by decide +kernel
theorem am_uw2 : ∀ w ∈ u_ws RX2 TX2 2, w ∈ lw_tbl := by decide +kernel
theorem am_uw3 : ∀ w ∈ u_ws RX3 TX3 7, w ∈ lw_tbl := by decide +kernel
theorem am_uw4 : ∀ w ∈ u_ws RX4 TX4 4, w ∈ lw_tbl := by decide +kernel
theorem am_uw5 : ∀ w ∈ u_ws RX5 TX5 11, w ∈ lw_tbl := by decide +kernel
theorem am_uw6 : ∀ w ∈ u_ws RX6 TX6 31, w ∈ lw_tbl := by decide +kernel
theorem am_ug {C : String} {T : u_T} {N : Nat} : ∀ w ∈ u_ws C T N, goodWord w = true := by
  intro w hw
  unfold u_ws at hw
  obtain ⟨k, -, rfl⟩ := List.mem_map.mp hw
  unfold u_lay
  split <;> rfl
/-- a class of the tables: its place, its words, its fields' types and names -/
theorem am_cl_ok (a : Nat) (ha : a < 7) : vwCl[a]? = some (am_cl a) ∧ (∀ w ∈ u_ws (am_cl a).1 (am_cl a).2.1 (am_cl a).2.2, w ∈ am_TB) ∧ (∃ ty0 : Nat → FieldType, ∀ k, k < (am_cl a).2.2 → parseFieldDescriptor ((am_cl a).2.1 k).2.2.1 = some (ty0 k)) ∧ (∀ i, i < (am_cl a).2.2 → ∀ j, j < (am_cl a).2.2 → i ≠ j → ((am_cl a).2.1 i).2.1 ≠ ((am_cl a).2.1 j).2.1) := by
  rcases (show a = 0 ∨ a = 1 ∨ a = 2 ∨ a = 3 ∨ a = 4 ∨ a = 5 ∨ a = 6 by omega) with rfl | rfl | rfl | rfl | rfl | rfl | rfl
  · exact ⟨rfl, fun w hw => List.mem_filter.mpr ⟨am_uw0 w hw, am_ug w hw⟩, ⟨tyX0, tyX0_ok⟩, nmX0⟩
  · exact ⟨rfl, fun w hw => List.mem_filter.mpr ⟨am_uw1 w hw, am_ug w hw⟩, ⟨tyX1, tyX1_ok⟩, nmX1⟩
  · exact ⟨rfl, fun w hw => List.mem_filter.mpr ⟨am_uw2 w hw, am_ug w hw⟩, ⟨tyX2, tyX2_ok⟩, nmX2⟩
  · exact ⟨rfl, fun w hw => List.mem_filter.mpr ⟨am_uw3 w hw, am_ug w hw⟩, ⟨tyX3, tyX3_ok⟩, nmX3⟩
  · exact ⟨rfl, fun w hw => List.mem_filter.mpr ⟨am_uw4 w hw, am_ug w hw⟩, ⟨tyX4, tyX4_ok⟩, nmX4⟩
  · exact ⟨rfl, fun w hw => List.mem_filter.mpr ⟨am_uw5 w hw, am_ug w hw⟩, ⟨tyX5, tyX5_ok⟩, nmX5⟩
  · exact ⟨rfl, fun w hw => List.mem_filter.mpr ⟨am_uw6 w hw, am_ug w hw⟩, ⟨tyX6, tyX6_ok⟩, nmX6⟩
theorem am_FL_at {e : Nat × Nat × Nat × Nat × Nat} (h : e ∈ am_FL) : lw_tbl[e.2.2.2.2]? = some (.fieldLink (am_os e.1) e.2.1 ((am_cl e.2.2.1).2.1 e.2.2.2.1).1 ((am_cl e.2.2.1).2.1 e.2.2.2.1).2.1 ((am_cl e.2.2.1).2.1 e.2.2.2.1).2.2.1) ∧ e.2.2.2.1 < (am_cl e.2.2.1).2.2 ∧ e.2.2.1 < 7 := by
  have := List.all_eq_true.mp am_FL_ok e h
  unfold am_FLB at this
  simp only [Bool.and_eq_true, decide_eq_true_eq] at this
  exact this
theorem am_FN_at {e : Nat × Nat × Nat × Nat × Nat} (h : e ∈ am_FN) : lw_tbl[e.2.2.2.2]? = some (.fieldLinkNest (am_os e.1) e.2.1 ((am_cl e.2.2.1).2.1 e.2.2.2.1).1 ((am_cl e.2.2.1).2.1 e.2.2.2.1).2.1 ((am_cl e.2.2.1).2.1 e.2.2.2.1).2.2.1 RX5) ∧ e.2.2.2.1 < (am_cl e.2.2.1).2.2 ∧ e.2.2.1 < 7 := by
  have := List.all_eq_true.mp am_FN_ok e h
  unfold am_FNB at this
  simp only [Bool.and_eq_true, decide_eq_true_eq] at this
  exact this
section Mem
variable {l : Launch} {E : am_Env} {X : Nat × (Nat → Int32)} {y pc nx a b k : Nat} {x : Int32} {ts : List (Int32 × Nat)} {lo : am_L} {st r : List Value} {σ : am_S} {u : Nat × Nat} {Q : am_Q}
/-- one cell has changed, the heap's end hasn't -/
theorem am_Wd_upd {H H1 : Heap} {σ' : am_S} {p0 : Nat} {sh : am_Sh} {ce : va_E} (hW : am_Wd E σ H) (hs : σ.1[p0]? = some sh) (he : am_ws E σ' = (am_ws E σ).set p0 (am_ad E p0, ce)) (hat : va_at E.1 vwCl (am_ad E p0, ce) H1) (z : H1.size = H.size) (oq : ∀ q : Nat, q ≠ am_ad E p0 → H1[q]? = H[q]?) (h1 : σ'.1.length = σ.1.length) (h2 : σ'.2.2.2.2 = σ.2.2.2.2) : am_Wd E σ' H1 :=
  ⟨by rw [he]; exact hW.1.set hW.2.1 (am_ws_at hs) hat oq, by rw [he]; exact hW.2.1.set (am_ws_at hs), fun h0 => by rw [z, h1]; exact hW.2.2.1 (h2 ▸ h0), by rw [h1]; exact hW.2.2.2⟩
/-- one cell has changed, and the heap's end doesn't matter -/
theorem am_Wd_any {H H1 : Heap} {σ' : am_S} {ws' : va_W} (hW : am_Wd E σ H) (he : am_ws E σ' = ws') (hP : va_P E.1 vwCl ws' H1) (hD : va_D (am_A E) ws') (h1 : σ'.1.length = σ.1.length) (h2 : σ'.2.2.2.2 ≠ 0) : am_Wd E σ' H1 :=
  ⟨he ▸ hP, he ▸ hD, fun h => absurd h h2, by rw [h1]; exact hW.2.2.2⟩
theorem am_Wd_gb {H : Heap} (hW : am_Wd E σ H) : am_Wd E (am_gb σ) H := ⟨hW.1, hW.2.1, fun h => absurd h Nat.one_ne_zero, hW.2.2.2⟩
/-- nest words hold -/
theorem am_nest {s : State} {args : Array Value} {w : Cond} (hcf : am_CF E X s s.heap) (hw : w ∈ am_NW) : w.before args s = true := by
  have hn := (List.mem_filter.mp hw).2
  have h := hcf.2.1 w hw
  cases w <;> first
    | exact h.use rfl
    | exact absurd hn (by decide)
    | (simp [am_isNest] at hn)
theorem am_nthE {α : Type} {l : List α} {n : Nat} {v : α} (h : am_nth l n = some v) : l[n]? = some v := by rw [← am_nth_eq]; exact h
theorem am_sd_getfield (hat : am_at y pc = some (.getfield k, nx, x, a, b, ts)) (h : am_gfd σ st a b (fun s => am_Sem l E X y nx lo s σ u Q)) : am_Sem l E X y pc lo st σ u Q := by
  intro p e s m args below meth c H locs ls hC hl hW hS h1 h2
  obtain ⟨hd, rfl, ha⟩ := am_fx (L := 3) hat rfl
  obtain ⟨hx, hb, hr, hml, hown, hts, hlk, hex, hnm, hcf⟩ := id hC
  unfold am_gfd at h
  split at h
  · rename_i p0 r
    have go : ∀ v : Value, (am_fld σ p0 a b = some none ∧ v = .int (am_fi σ p0 b) ∨ ∃ q, am_fld σ p0 a b = some (some q) ∧ v = .ref q) → am_Sem l E X y (pc + 3) lo (v :: r) σ u Q → W p l e (am_rm y) s m args below meth c H locs u.1 u.2 (vx_MQ below (am_Qc E Q) (am_XC E Q) args s (am_bc y) (am_bs y) (am_A E)) (F0 m pc ls ((Value.ref p0 :: r).map (am_cv E))) := by
      intro v hv hk
      have kk := hk p e s m args below meth c H locs ls hC hl hW hS h1 h2
      have ha' : (am_at5 am_FL (am_oy y) k a b || (am_at5 am_FN (am_oy y) k a b || am_at5 am_FS (am_oy y) k a b)) = true := ha
      unfold am_fld at hv
      cases hp : Nat.ble 1000 p0 with
      | false =>
        rw [hp] at hv
        dsimp only at hv
        -- an object of the memory
        have hobj : ∃ fl, σ.1[p0]? = some (.inl (a, fl)) ∧ (am_flds E (σ.2.1 p0) fl 0)[b]? = some (am_cv E v) := by
          cases hn : am_nth σ.1 p0 with
          | none => rw [hn] at hv; simp at hv
          | some sh =>
            rw [hn] at hv
            cases sh with
            | inr q => simp at hv
            | inl q =>
              obtain ⟨c', fl⟩ := q
              dsimp only at hv
              cases hc : Nat.beq c' a with
              | false => rw [hc] at hv; simp at hv
              | true =>
                rw [hc] at hv
                dsimp only at hv
                cases Nat.eq_of_beq_eq_true hc
                refine ⟨fl, am_nthE hn, ?_⟩
                cases hf : am_nth fl b with
                | none => rw [hf] at hv; simp at hv
                | some o =>
                  have := am_flds_at E (σ.2.1 p0) fl 0 b o (am_nthE hf)
                  rw [this]
                  rw [hf] at hv
                  cases o with
                  | none =>
                    simp at hv
                    rw [hv]
                    unfold am_fi
                    rw [hp]
                    show some (Value.int (σ.2.1 p0 (0 + b))) = some (Value.int (σ.2.1 p0 b))
                    rw [Nat.zero_add]
                  | some q =>
                    cases q with
                    | none => simp at hv
                    | some q =>
                      simp at hv
                      rw [hv]
                      rfl
        obtain ⟨fl, hsh, hv2⟩ := hobj
        have hws := am_ws_at (E := E) hsh
        rcases Bool.or_eq_true_iff.mp ha' with hf | hf
        · obtain ⟨q, hm⟩ := am_at5_mem hf
          obtain ⟨f1, f2, f3⟩ := am_FL_at hm
          obtain ⟨g1, g2, -, -⟩ := am_cl_ok a f3
          exact va_get (tys := am_tys E) hx hb hts g2 hown hcf.1 hW.1 p0 hws g1 b f2 (hts _ (am_tb f1 rfl)) (fun _ h => h) hv2 hd kk
        · rcases Bool.or_eq_true_iff.mp hf with hf | hf
          · obtain ⟨q, hm⟩ := am_at5_mem hf
            obtain ⟨f1, f2, f3⟩ := am_FN_at hm
            obtain ⟨g1, g2, -, -⟩ := am_cl_ok a f3
            exact va_getN (tys := am_tys E) hx hb hts g2 hown hcf.1 hW.1 p0 hws g1 b f2 (am_nest hcf (am_nwm f1 rfl)) (fun _ h => h) hv2 hd kk
          · obtain ⟨q, hm⟩ := am_at5_mem hf
            have h8 := List.all_eq_true.mp am_FS_ok _ hm
            have : a = 8 := by
              unfold am_FSB at h8
              split at h8 <;> exact Nat.eq_of_beq_eq_true (Bool.and_eq_true_iff.mp h8).1
            subst this
            obtain ⟨r9, h9, -⟩ := hW.1 p0 _ hws
            cases h9
      | true =>
        rw [hp] at hv
        dsimp only at hv
        have hbig : 1000 ≤ p0 := Nat.le_of_ble_eq_true hp
        cases hc : (Nat.beq a 8).and ((Nat.ble 1010 p0).and (Nat.ble p0 1013)) with
        | false => rw [hc] at hv; simp at hv
        | true =>
          rw [hc] at hv
          dsimp only at hv
          obtain ⟨c1, c2⟩ := Bool.and_eq_true_iff.mp hc
          obtain ⟨c2, c3⟩ := Bool.and_eq_true_iff.mp c2
          have c2 := Nat.le_of_ble_eq_true c2
          have c3 := Nat.le_of_ble_eq_true c3
          cases Nat.eq_of_beq_eq_true c1
          obtain ⟨j, rfl⟩ := Nat.exists_eq_add_of_le c2
          have hj : j < 4 := by omega
          obtain ⟨o1, o2, o3⟩ := hcf.2.2.2.2.2.1 j hj
          have e1 : am_ad E (1010 + j) = E.2.2.2 (1010 + j) := by
            unfold am_ad
            rw [if_neg (by omega)]
          have e2 : am_ad E (1010 + j + 10) = E.2.2.2 (1020 + j) := by
            unfold am_ad
            rw [if_neg (by omega), show 1010 + j + 10 = 1020 + j by omega]
          have hst : (Value.ref (1010 + j) :: r).map (am_cv E) = Value.ref (E.2.2.2 (1010 + j)) :: r.map (am_cv E) := by
            show Value.ref (am_ad E (1010 + j)) :: r.map (am_cv E) = _
            rw [e1]
          rw [hst]
          have hfs : am_at5 am_FS (am_oy y) k 8 b = true := by
            rcases Bool.or_eq_true_iff.mp ha' with hf | hf
            · obtain ⟨q, hm⟩ := am_at5_mem hf
              exact absurd (am_FL_at hm).2.2 (show ¬ 8 < 7 by decide)
            · rcases Bool.or_eq_true_iff.mp hf with hf | hf
              · obtain ⟨q, hm⟩ := am_at5_mem hf
                exact absurd (am_FN_at hm).2.2 (show ¬ 8 < 7 by decide)
              · exact hf
          obtain ⟨q, hm⟩ := am_at5_mem hfs
          have h8 := List.all_eq_true.mp am_FS_ok _ hm
          unfold am_FSB at h8
          cases b with
          | zero =>
            have h8 := of_decide_eq_true (Bool.and_eq_true_iff.mp h8).2
            have hv : v = .ref (1010 + j + 10) := by
              rcases hv with ⟨e8, -⟩ | ⟨q9, e8, e9⟩
              · cases e8
              · cases e8; exact e9
            subst hv
            have kk' : W p l e (am_rm y) s m args below meth c H locs u.1 u.2 (vx_MQ below (am_Qc E Q) (am_XC E Q) args s (am_bc y) (am_bs y) (am_A E)) (F0 m (pc + 3) ls (Value.ref (E.2.2.2 (1020 + j)) :: r.map (am_cv E))) := by
              rw [← e2]; exact kk
            exact vk_getf hx hb o3 hS hown (hts _ (am_tb h8 rfl)) (fun _ h => h) hd kk'
          | succ b' =>
            have h8 := of_decide_eq_true (Bool.and_eq_true_iff.mp h8).2
            have hv : v = .int (am_fi σ (1010 + j) (b' + 1)) := by
              rcases hv with ⟨-, e9⟩ | ⟨q9, e8, -⟩
              · exact e9
              · cases e8
            have hz : am_fi σ (1010 + j) (b' + 1) = 0 := by
              unfold am_fi
              rw [hp]
            rw [hz] at hv
            subst hv
            exact vk_getf hx hb o2 hS hown (hts _ (am_tb h8 rfl)) (fun _ h => h) hd kk
    cases hf : am_fld σ p0 a b with
    | none => rw [hf] at h; exact h.elim
    | some o =>
      rw [hf] at h
      cases o with
      | none => exact go _ (Or.inl ⟨hf, rfl⟩) h
      | some q => exact go _ (Or.inr ⟨q, hf, rfl⟩) h
  · exact h.elim
/-- a field is written -/
theorem am_w_put {p : Program} {e : Env} {s : State} {m : MethodId} {args : Array Value} {below : List Frame} {meth : Method} {c : Code} {H : Heap} {locs : List Loc} {ls : Array Slot} {rest : List Value} {cells slots : Nat} {R : Room} {Q' : State → Prop} {p0 : Nat} {fl : List (Option (Option Nat))} {w : Value} {ty : FieldType}
    (hC : am_Ctx E X y p s m args meth c) (hW : am_Wd E σ H) (hS : va_S (am_A E) s.heap H locs) (hsh : σ.1[p0]? = some (.inl (a, fl))) (hbl : b < fl.length) (hty : parseFieldDescriptor ((am_cl a).2.1 b).2.2.1 = some ty) (hn : narrow ty w = w) (hfit : fits ty w = true)
    (hd : decode (am_by y) pc = .ok (.putfield k, 3)) (ha : am_argB y pc (.putfield k, nx, x, a, b, ts) = true)
    (kk : ∀ (H1 : Heap) (locs1 : List Loc), va_at E.1 vwCl (am_ad E p0, .inr (a, (am_flds E (σ.2.1 p0) fl 0).set b w)) H1 → H1.size = H.size → (∀ q : Nat, q ≠ am_ad E p0 → H1[q]? = H[q]?) → va_S (am_A E) s.heap H1 locs1 → W p l e R s m args below meth c H1 locs1 cells slots Q' (F0 m (pc + 3) ls rest)) :
    W p l e R s m args below meth c H locs cells slots Q' (F0 m pc ls (w :: .ref (am_ad E p0) :: rest)) := by
  obtain ⟨hx, hb, hr, hml, hown, hts, hlk, hex, hnm, hcf⟩ := id hC
  have ha' : (am_at5 am_FL (am_oy y) k a b && (decide (((am_cl a).2.1 b).2.2.2 = false) || (decide ((am_yn y).name = "<init>") && decide (((am_cl a).2.1 b).1 = am_os (am_oy y))))) = true := ha
  obtain ⟨a1, a2⟩ := Bool.and_eq_true_iff.mp ha'
  obtain ⟨q, hm⟩ := am_at5_mem a1
  obtain ⟨f1, hk, f3⟩ := am_FL_at hm
  obtain ⟨g1, g2, ⟨ty0, g3⟩, g4⟩ := am_cl_ok a f3
  have hws := am_ws_at (E := E) hsh
  have hlen : b < (am_flds E (σ.2.1 p0) fl 0).length := by rw [am_flds_len]; exact hbl
  have hap := va_apart (own := am_os (am_oy y)) hts g2 ty0 g3 g4 hcf.1 g1
  obtain ⟨r9, g0, cell, q1, q2, q3, q4⟩ := hW.1 p0 _ hws
  have hr9 : r9 = am_cl a := Option.some.inj (g0.symm.trans g1)
  subst hr9
  obtain ⟨hSl, hfc, kC, hkC, hkind⟩ := hcf.1.1 a _ g1
  obtain ⟨cf, kf, fi, f, hi, hsl⟩ := hSl b hk
  have hlay := hts _ (g2 _ (u_in_lay hk))
  have hst := (u_facts hfc hkC (u_lays hts g2 hk) hi).1
  have fin : ∀ H' : Heap, H'[am_ad E p0]? = some (cell.setSlot f.slot w) → H'.size = H.size → (∀ q, q ≠ am_ad E p0 → H'[q]? = H[q]?) → W p l e R s m args below meth c H' (locs ++ [⟨am_ad E p0, f.slot⟩]) cells slots Q' (F0 m (pc + 3) ls rest) := by
    intro H' e1 e2 e3
    rw [hsl] at e1
    exact kk H' _ ⟨_, g1, t_OB.to (V := updV (vp_V (am_flds E (σ.2.1 p0) fl 0)) b w) ⟨_, e1, q2, q3, t_set q4 hap hk w⟩ (fun j _ => vp_updV_set hlen w j)⟩ e2 e3 (hS.put e2 e3 (hW.2.1.2 p0 _ hws))
  unfold u_lay at hlay
  rcases Bool.or_eq_true_iff.mp a2 with a3 | a3
  · have hfin := of_decide_eq_true a3
    rw [if_neg (by rw [hfin]; decide)] at hlay
    exact W.putK hx hb (f := f) ⟨hown, hts _ (am_tb f1 rfl), ⟨_, _, _, hi⟩, hst⟩ (by rw [q2]; exact u_store hfc hkC hkind hlay hi hty hn hfit) q1 q3 (by rw [hsl]; exact k2_hasslot (q4 b hk)) rfl rfl hd fin
  · obtain ⟨a4, a5⟩ := Bool.and_eq_true_iff.mp a3
    have hin2 : meth.name = "<init>" := hnm.trans (of_decide_eq_true a4)
    have hdecl := of_decide_eq_true a5
    cases hfin : ((am_cl a).2.1 b).2.2.2 with
    | false =>
      rw [if_neg (by rw [hfin]; decide)] at hlay
      exact W.putK hx hb (f := f) ⟨hown, hts _ (am_tb f1 rfl), ⟨_, _, _, hi⟩, hst⟩ (by rw [q2]; exact u_store hfc hkC hkind hlay hi hty hn hfit) q1 q3 (by rw [hsl]; exact k2_hasslot (q4 b hk)) rfl rfl hd fin
    | true =>
      rw [if_pos hfin] at hlay
      have hcl : m.cls = cf := by
        obtain ⟨_, _, c', _, _, _, -, -, hf', -, -, -, hown2, -⟩ := Cond.laysFinal_spec hlay
        have e1 : c' = cf := by have := hi.symm.trans hf'; simp at this; exact this.1.symm
        rw [hdecl] at hown2
        rw [← e1]; exact Option.some.inj (hown.symm.trans hown2)
      exact W.putFinK hx hb hown (hts _ (am_tb f1 rfl)) hi hst hcl hin2 (by rw [q2]; exact u_fits hfc hkC hkind (Or.inr hlay) hi hty hn hfit) q1 q3 (by rw [hsl]; exact k2_hasslot (q4 b hk)) rfl rfl hd fin
theorem am_kind_at {a b : Nat} (ha : a < 7) (hb : b < 31) : am_kindB a b = true := List.all_eq_true.mp (List.all_eq_true.mp am_kind_ok a (List.mem_range.mpr ha)) b (List.mem_range.mpr hb)
theorem am_cl_31 (a : Nat) (ha : a < 7) : (am_cl a).2.2 ≤ 31 := by
  rcases (show a = 0 ∨ a = 1 ∨ a = 2 ∨ a = 3 ∨ a = 4 ∨ a = 5 ∨ a = 6 by omega) with rfl | rfl | rfl | rfl | rfl | rfl | rfl <;> exact Nat.le_of_ble_eq_true rfl
theorem am_sd_putfield (hat : am_at y pc = some (.putfield k, nx, x, a, b, ts)) (h : am_pfd σ st a b (fun s σ' => am_Sem l E X y nx lo s σ' u Q)) : am_Sem l E X y pc lo st σ u Q := by
  intro p e s m args below meth c H locs ls hC hl hW hS h1 h2
  obtain ⟨hd, rfl, ha⟩ := am_fx (L := 3) hat rfl
  have hkb : am_kindB a b = true := by
    have ha' : (am_at5 am_FL (am_oy y) k a b && (decide (((am_cl a).2.1 b).2.2.2 = false) || (decide ((am_yn y).name = "<init>") && decide (((am_cl a).2.1 b).1 = am_os (am_oy y))))) = true := ha
    obtain ⟨q, hm⟩ := am_at5_mem (Bool.and_eq_true_iff.mp ha').1
    obtain ⟨-, f2, f3⟩ := am_FL_at hm
    exact am_kind_at f3 (Nat.lt_of_lt_of_le f2 (am_cl_31 a f3))
  unfold am_pfd at h
  split at h
  · rename_i v p0 r
    split at h
    · rename_i c' fl hn
      split at h
      · rename_i hc hf hkd
        cases Nat.eq_of_beq_eq_true hc
        have hsh := am_nthE hn
        have hfl := am_nthE hf
        have hty : parseFieldDescriptor ((am_cl a).2.1 b).2.2.1 = some .int := by
          unfold am_kindB at hkb
          rw [hkd] at hkb
          exact of_decide_eq_true hkb
        refine am_w_put hC hW hS hsh (List.getElem?_eq_some_iff.mp hfl).1 hty rfl rfl hd ha (fun H1 locs1 k1 k2 k3 k4 => ?_)
        refine h p e s m args below meth c H1 locs1 ls hC hl (am_Wd_upd hW hsh ?_ k1 k2 k3 rfl rfl) k4 h1 h2
        rw [am_ws_si hsh]
        refine congrArg (fun z => (am_ws E σ).set p0 (am_ad E p0, z)) ?_
        show (Sum.inr (a, am_flds E ((am_si σ p0 b v).2.1 p0) fl 0) : va_E) = _
        rw [show (am_si σ p0 b v).2.1 p0 = upd (σ.2.1 p0) (0 + b) v by rw [Nat.zero_add]; exact am_up_eq, am_flds_upd E (σ.2.1 p0) v fl 0 b hfl]
        rfl
      · exact h.elim
    · exact h.elim
  · rename_i q0 p0 r
    split at h
    · rename_i c' fl hn
      split at h
      · rename_i o hc hf hkd
        cases Nat.eq_of_beq_eq_true hc
        have hsh := am_nthE hn
        have hfl := am_nthE hf
        have hty : am_isRef (parseFieldDescriptor ((am_cl a).2.1 b).2.2.1) = true := by
          unfold am_kindB at hkb
          rw [hkd] at hkb
          exact hkb
        obtain ⟨ty, ht, hn9, hf9⟩ : ∃ ty, parseFieldDescriptor ((am_cl a).2.1 b).2.2.1 = some ty ∧ narrow ty (.ref (am_ad E q0)) = .ref (am_ad E q0) ∧ fits ty (.ref (am_ad E q0)) = true := by
          cases ht : parseFieldDescriptor ((am_cl a).2.1 b).2.2.1 with
          | none => rw [ht] at hty; cases hty
          | some ty =>
            rw [ht] at hty
            cases ty with
            | object C => exact ⟨_, rfl, rfl, rfl⟩
            | array t => exact ⟨_, rfl, rfl, rfl⟩
            | _ => cases hty
        refine am_w_put hC hW hS hsh (List.getElem?_eq_some_iff.mp hfl).1 ht hn9 hf9 hd ha (fun H1 locs1 k1 k2 k3 k4 => ?_)
        refine h p e s m args below meth c H1 locs1 ls hC hl (am_Wd_upd hW hsh am_ws_sf k1 k2 k3 ?_ rfl) k4 h1 h2
        show (am_put _ σ.1 p0).length = _
        rw [am_put_eq, List.length_set]
      · exact h.elim
    · exact h.elim
  · exact h.elim
end Mem
