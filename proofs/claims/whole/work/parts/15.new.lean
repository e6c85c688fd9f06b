/-! ===== what is new; the machine's own methods ===== -/
section New
variable {l : Launch} {E : am_Env} {X : Nat × (Nat → Int32)} {y pc nx a b k : Nat} {x : Int32} {ts : List (Int32 × Nat)} {lo : am_L} {st r : List Value} {σ : am_S} {u : Nat × Nat} {Q : am_Q}
theorem am_Wd_new {sh : am_Sh} {H H1 : Heap} (hW : am_Wd E σ H) (h0 : σ.2.2.2.2 = 0) (hn : σ.1.length < 1000) (hat : va_at E.1 vwCl (am_ad E σ.1.length, am_cell E (am_nw σ sh) σ.1.length sh) H1) (z : H1.size = H.size + 1) (o1 : ∀ q : Nat, q < H.size → H1[q]? = H[q]?) : am_Wd E (am_nw σ sh) H1 := by
  have hsz := hW.2.2.1 h0
  have had : am_ad E σ.1.length = H.size := by rw [am_ad_lt hn, hsz]
  have hk : ∀ (k : Nat) (x : Nat × va_E), (am_ws E σ)[k]? = some x → H1[x.1]? = H[x.1]? := fun k x hx => o1 x.1 ((hW.1 k x hx).lt)
  refine ⟨?_, ?_, fun _ => ?_, ?_⟩
  · rw [am_ws_nw]
    refine (hW.1.kept hk).app (fun k x hx => ?_)
    have hz : k < 1 := (List.getElem?_eq_some_iff.mp hx).1
    rw [show k = 0 by omega] at hx
    cases hx
    exact hat
  · rw [am_ws_nw]
    refine hW.2.1.push hW.1 had ?_
    show E.2.2.1 ≤ _
    rw [am_ad_lt hn]
    exact Nat.le_add_right _ _
  · show H1.size = E.2.2.1 + (σ.1 ++ [sh]).length
    rw [z, hsz, List.length_append]
    rfl
  · show (σ.1 ++ [sh]).length ≤ 1000
    rw [List.length_append]
    exact hn
theorem am_S_new {s : State} {H H1 : Heap} {locs : List Loc} (hS : va_S (am_A E) s.heap H locs) (z : H1.size = H.size + 1) (o1 : ∀ q : Nat, q < H.size → H1[q]? = H[q]?) : va_S (am_A E) s.heap H1 locs :=
  ⟨Nat.le_trans hS.1 (by omega), fun x h1 h2 => (o1 x (Nat.lt_of_lt_of_le h1 hS.1)).trans (hS.2.1 x h1 h2), hS.2.2⟩
theorem am_blank_ok (c : Nat) (hc : c < 7) : ∃ fl, am_blank c = some fl ∧ fl.length = (am_cl c).2.2 ∧ ∀ ty0 : Nat → FieldType, (∀ k, k < (am_cl c).2.2 → parseFieldDescriptor ((am_cl c).2.1 k).2.2.1 = some (ty0 k)) → ∀ j, j < (am_cl c).2.2 → defaultValue (ty0 j) = vp_V (am_flds E (fun _ => 0) fl 0) j := by
  have key : ∀ (fl : List (Option (Option Nat))), am_blank c = some fl → fl.length = (am_cl c).2.2 → (∀ j, j < fl.length → fl[j]? = some none ∨ fl[j]? = some (some none)) → ∀ ty0 : Nat → FieldType, (∀ k, k < (am_cl c).2.2 → parseFieldDescriptor ((am_cl c).2.1 k).2.2.1 = some (ty0 k)) → ∀ j, j < (am_cl c).2.2 → defaultValue (ty0 j) = vp_V (am_flds E (fun _ => 0) fl 0) j := by
    intro fl hb hlen hno ty0 hty j hj
    have hkb := am_kind_at hc (Nat.lt_of_lt_of_le hj (am_cl_31 c hc))
    have hjl : j < fl.length := by rw [hlen]; exact hj
    have h0 := hno j hjl
    have hkd : am_kind c j = (match fl[j]? with | some none => 0 | some (some _) => 1 | none => 2) := by
      unfold am_kind
      rw [hb]
      dsimp only
      rw [am_nth_eq]
      rcases h0 with q | q <;> rw [q]
    unfold am_kindB at hkb
    unfold vp_V
    rcases h0 with q | q
    · have := am_flds_at E (fun _ => 0) fl 0 j _ q
      rw [List.getD_eq_getElem?_getD, this]
      rw [hkd, q] at hkb
      have := of_decide_eq_true hkb
      rw [hty j hj] at this
      rw [Option.some.inj this]
      rfl
    · have := am_flds_at E (fun _ => 0) fl 0 j _ q
      rw [List.getD_eq_getElem?_getD, this]
      rw [hkd, q] at hkb
      have hkb : am_isRef (parseFieldDescriptor ((am_cl c).2.1 j).2.2.1) = true := hkb
      rw [hty j hj] at hkb
      cases ht : ty0 j with
      | object C => rfl
      | array t => rfl
      | _ => rw [ht] at hkb; cases hkb
  rcases (show c = 0 ∨ c = 1 ∨ c = 2 ∨ c = 3 ∨ c = 4 ∨ c = 5 ∨ c = 6 by omega) with rfl | rfl | rfl | rfl | rfl | rfl | rfl
  · exact ⟨_, rfl, rfl, key _ rfl rfl (by decide)⟩
  · exact ⟨_, rfl, rfl, key _ rfl rfl (by decide)⟩
  · exact ⟨_, rfl, rfl, key _ rfl rfl (by decide)⟩
  · exact ⟨_, rfl, rfl, key _ rfl rfl (by decide)⟩
  · exact ⟨_, rfl, rfl, key _ rfl rfl (by decide)⟩
  · exact ⟨_, rfl, rfl, key _ rfl rfl (by decide)⟩
  · exact ⟨_, rfl, rfl, key _ rfl rfl (by decide)⟩
theorem am_sd_new (hat : am_at y pc = some (.new k, nx, x, a, b, ts)) (h9 : Nat.beq a 99 = false) (h : am_new (am_Sem l E X) y nx lo st σ u Q a) : am_Sem l E X y pc lo st σ u Q := by
  intro p e s m args below meth c H locs ls hC hl hW hS h1 h2
  obtain ⟨hd, rfl, ha⟩ := am_fx (L := 3) hat rfl
  obtain ⟨hx, hb, hr, hml, hown, hts, hlk, hex, hnm, hcf⟩ := id hC
  have ha : am_CC.any (fun e => Nat.beq e.1 (am_oy y) && (Nat.beq e.2.1 k && Nat.beq e.2.2.1 a)) = true := by
    have ha2 := ha
    unfold am_argB at ha2
    dsimp only at ha2
    split at ha2
    · exact absurd h9 (by decide)
    · exact ha2
  obtain ⟨⟨o', k', a', q1, q2, q3⟩, hm, he⟩ := List.any_eq_true.mp ha
  simp only [Bool.and_eq_true] at he
  obtain ⟨e1, e2, e3⟩ := he
  have e1 := Nat.eq_of_beq_eq_true e1
  have e2 := Nat.eq_of_beq_eq_true e2
  have e3 := Nat.eq_of_beq_eq_true e3
  subst e1; subst e2; subst e3
  have h8 := List.all_eq_true.mp am_CC_ok _ hm
  unfold am_CCB at h8
  simp only [Bool.and_eq_true, decide_eq_true_eq] at h8
  obtain ⟨c1, c2, c3, c4⟩ := h8
  obtain ⟨g1, g2, ⟨ty0, g3⟩, g4⟩ := am_cl_ok a' c4
  obtain ⟨fl, f1, f2, f3⟩ := am_blank_ok (E := E) a' c4
  unfold am_new at h
  rw [h9, f1] at h
  dsimp only at h
  split at h
  · rename_i fl' hfl h0
    cases hfl
    split at h
    · rename_i hbud
      simp only [Bool.and_eq_true] at hbud
      obtain ⟨⟨b1, b2⟩, b3⟩ := hbud
      have b1 := Nat.le_of_ble_eq_true b1
      have b2 := Nat.le_of_ble_eq_true b2
      have b3 := Nat.le_of_ble_eq_true b3
      have hn : σ.1.length < 1000 := by omega
      have hKn := hcf.1.1 a' _ g1
      have hsz := hW.2.2.1 h0
      have had : am_ad E σ.1.length = H.size := by rw [am_ad_lt hn, hsz]
      refine W.newcK hx hb hown (hts _ (am_tb c1 rfl)) (hts _ (am_tb c3 rfl)) (hts _ (am_tb c2 rfl)) rfl hd b1 (by rw [← f2]; exact b2) hKn.2.1 rfl fun H1 kC hkC w1 z1 o1 => ?_
      have kk := h p e s m args below meth c H1 locs ls hC hl (am_Wd_new hW h0 hn ?_ z1 o1) (am_S_new hS z1 o1) b1 b2
      · rw [← f2]
        have hst : (Value.ref σ.1.length :: st).map (am_cv E) = Value.ref H.size :: st.map (am_cv E) := by
          show Value.ref (am_ad E σ.1.length) :: _ = _
          rw [had]
        rw [hst] at kk
        exact kk
      · show ∃ r9, vwCl[a']? = some r9 ∧ _
        refine ⟨_, g1, ?_⟩
        show t_OB (am_ad E σ.1.length) _ _ _ _ (vp_V (am_flds E ((am_nw σ (.inl (a', fl))).2.1 σ.1.length) fl 0))
        rw [had, show (am_nw σ (.inl (a', fl))).2.1 σ.1.length = (fun _ => 0) from am_up_eq]
        exact (u_born ty0 hts g2 hKn hkC w1 g3).to (f3 ty0 g3)
    · exact h.elim
  · exact h.elim
theorem am_sd_newarray {t : ArrayType} (hat : am_at y pc = some (.newarray t, nx, x, a, b, ts)) (h : am_newa (am_Sem l E X) y nx lo st σ u Q a) : am_Sem l E X y pc lo st σ u Q := by
  intro p e s m args below meth c H locs ls hC hl hW hS h1 h2
  obtain ⟨hd, rfl, ha⟩ := am_fx (L := 2) hat rfl
  obtain ⟨hx, hb, hr, hml, hown, hts, hlk, hex, hnm, hcf⟩ := id hC
  obtain ⟨a1, a2⟩ := Bool.and_eq_true_iff.mp (show (decide (newarray.typeOf t = am_tyk a) && Nat.ble a 4) = true from ha)
  have a1 := of_decide_eq_true a1
  have a2 := Nat.le_of_ble_eq_true a2
  unfold am_newa at h
  split at h
  · rename_i n r
    split at h
    · rename_i h0
      split at h
      · rename_i hbud
        simp only [Bool.and_eq_true] at hbud
        obtain ⟨⟨⟨b1, b2⟩, b3⟩, b4⟩ := hbud
        have b1 := Nat.le_of_ble_eq_true b1
        have b2 := Nat.le_of_ble_eq_true b2
        have b3 := Nat.le_of_ble_eq_true b3
        have b4 := Nat.le_of_ble_eq_true b4
        obtain ⟨hneg, h⟩ := h
        have hn : σ.1.length < 1000 := by omega
        have hsz := hW.2.2.1 h0
        have had : am_ad E σ.1.length = H.size := by rw [am_ad_lt hn, hsz]
        have harr : (Cond.arrayClass (newarray.typeOf t)).before args s = true := by
          rw [a1]
          rcases (show a = 0 ∨ a = 1 ∨ a = 2 ∨ a = 3 ∨ a = 4 by omega) with rfl | rfl | rfl | rfl | rfl
          · exact hts _ (am_tb (i := 214) (by decide +kernel) rfl)
          · exact hts _ (am_tb (i := 602) (by decide +kernel) rfl)
          · exact hts _ (am_tb (i := 157) (by decide +kernel) rfl)
          · exact hts _ (am_tb (i := 423) (by decide +kernel) rfl)
          · exact hts _ (am_tb (i := 173) (by decide +kernel) rfl)
        have hcb : n.toNatClampNeg * componentBytes (newarray.typeOf t) ≤ 536870912 := by
          have : componentBytes (newarray.typeOf t) ≤ 8 := by cases t <;> decide
          exact Nat.le_trans (Nat.mul_le_mul b4 this) (Nat.le_of_ble_eq_true rfl)
        refine va_newaK hx hb harr rfl hd rfl hneg rfl hcb b1 b2 rfl fun H1 cA' w1 z1 o1 hAr hNm => ?_
        have kk := h p e s m args below meth c H1 locs ls hC hl (am_Wd_new hW h0 hn ?_ z1 o1) (am_S_new hS z1 o1) b1 b2
        · have hst : (Value.ref σ.1.length :: r).map (am_cv E) = Value.ref H.size :: r.map (am_cv E) := by
            show Value.ref (am_ad E σ.1.length) :: _ = _
            rw [had]
          rw [hst] at kk
          exact kk
        · rw [a1] at hNm w1
          show H1[am_ad E σ.1.length]? = some (vp_cell (E.2.1 a) (n.toNatClampNeg, am_row E (am_nw σ (.inr (a, n.toNatClampNeg))) σ.1.length a))
          rw [had, w1]
          have e1 : (am_nw σ (.inr (a, n.toNatClampNeg))).2.1 σ.1.length = (fun _ => 0) := am_up_eq
          have e2 : (am_nw σ (.inr (a, n.toNatClampNeg))).2.2.1 σ.1.length = (fun _ => 0) := am_up_eq
          have hcA : cA' = E.2.1 a := by
            rcases (show a = 0 ∨ a = 1 ∨ a = 2 ∨ a = 3 ∨ a = 4 by omega) with rfl | rfl | rfl | rfl | rfl
            · exact Option.some.inj (hNm.symm.trans (hcf.1.2 0 _ rfl).2)
            · exact Option.some.inj (hNm.symm.trans (hcf.1.2 1 _ rfl).2)
            · exact Option.some.inj (hNm.symm.trans (hcf.1.2 2 _ rfl).2)
            · exact Option.some.inj (hNm.symm.trans (hcf.1.2 3 _ rfl).2)
            · exact Option.some.inj (hNm.symm.trans (hcf.1.2 4 _ rfl).2)
          rw [hcA]
          unfold am_row
          rcases (show a = 0 ∨ a = 1 ∨ a = 2 ∨ a = 3 ∨ a = 4 by omega) with rfl | rfl | rfl | rfl | rfl
          · rw [e1]; rfl
          · rw [e1]; rfl
          · rw [e1]; rfl
          · rw [e1]; rfl
          · rw [e2]; rfl
      · exact h.elim
    · exact h.elim
  · exact h.elim
theorem am_sd_anewarray (hat : am_at y pc = some (.anewarray k, nx, x, a, b, ts)) (h : am_newa (am_Sem l E X) y nx lo st σ u Q a) : am_Sem l E X y pc lo st σ u Q := by
  intro p e s m args below meth c H locs ls hC hl hW hS h1 h2
  obtain ⟨hd, rfl, ha⟩ := am_fx (L := 3) hat rfl
  obtain ⟨hx, hb, hr, hml, hown, hts, hlk, hex, hnm, hcf⟩ := id hC
  obtain ⟨a1, a2⟩ := Bool.and_eq_true_iff.mp (show (Nat.beq a 5 && (am_CC.any (fun e => Nat.beq e.1 (am_oy y) && (Nat.beq e.2.1 k && Nat.beq e.2.2.1 3)))) = true from ha)
  cases Nat.eq_of_beq_eq_true a1
  obtain ⟨⟨o', k', a', q1, q2, q3⟩, hm, he⟩ := List.any_eq_true.mp a2
  simp only [Bool.and_eq_true] at he
  obtain ⟨e1, e2, e3⟩ := he
  have e1 := Nat.eq_of_beq_eq_true e1
  have e2 := Nat.eq_of_beq_eq_true e2
  have e3 := Nat.eq_of_beq_eq_true e3
  subst e1; subst e2; subst e3
  have h8 := List.all_eq_true.mp am_CC_ok _ hm
  unfold am_CCB at h8
  simp only [Bool.and_eq_true, decide_eq_true_eq] at h8
  obtain ⟨c1, c2, c3, c4⟩ := h8
  unfold am_newa at h
  split at h
  · rename_i n r
    split at h
    · rename_i h0
      split at h
      · rename_i hbud
        simp only [Bool.and_eq_true] at hbud
        obtain ⟨⟨⟨b1, b2⟩, b3⟩, b4⟩ := hbud
        have b1 := Nat.le_of_ble_eq_true b1
        have b2 := Nat.le_of_ble_eq_true b2
        have b3 := Nat.le_of_ble_eq_true b3
        have b4 := Nat.le_of_ble_eq_true b4
        obtain ⟨hneg, h⟩ := h
        have hn : σ.1.length < 1000 := by omega
        have hsz := hW.2.2.1 h0
        have had : am_ad E σ.1.length = H.size := by rw [am_ad_lt hn, hsz]
        refine W.anew (C := RX3) hx hb hown (hts _ (am_tb c1 rfl)) (va_AO.use hcf.2.2.2.2.2.2.2.2.1) rfl hd rfl hneg (Nat.le_trans (Nat.mul_le_mul b4 (Nat.le_refl 4)) (Nat.le_of_ble_eq_true rfl)) b1 b2 fun cA' kA comp w1 w2 w3 w4 => ?_
        generalize hH1 : H.push ({ cls := cA', slots := Array.replicate n.toNatClampNeg .null, vm := .none } : Cell) = H1
        have z1 : H1.size = H.size + 1 := by rw [← hH1, Array.size_push]
        have e1 : H1[H.size]? = some (arrV cA' n.toNatClampNeg (fun _ => .null)) := by rw [← hH1, Array.getElem?_push_size, ← arrV_new]
        have o1 : ∀ q : Nat, q < H.size → H1[q]? = H[q]? := fun q hq => by rw [← hH1, Array.getElem?_push, if_neg (Nat.ne_of_lt hq)]
        have kk := h p e s m args below meth c H1 locs ls hC hl (am_Wd_new hW h0 hn ?_ z1 o1) (am_S_new hS z1 o1) b1 b2
        · have hst : (Value.ref σ.1.length :: r).map (am_cv E) = Value.ref H.size :: r.map (am_cv E) := by
            show Value.ref (am_ad E σ.1.length) :: _ = _
            rw [had]
          rw [hst] at kk
          exact kk
        · show H1[am_ad E σ.1.length]? = some (vp_cell (E.2.1 5) (n.toNatClampNeg, .inr (.inr (.inr (.inr (fun i => ((am_nw σ (.inr (5, n.toNatClampNeg))).2.2.2.1 σ.1.length i).map (am_ad E)))))))
          rw [had, e1, show (am_nw σ (.inr (5, n.toNatClampNeg))).2.2.2.1 σ.1.length = (fun _ => none) from am_up_eq]
          obtain ⟨kA9, comp9, v1, v2, v3, v4⟩ := (hcf.1.2 5 _ rfl).2
          have hcA : cA' = E.2.1 5 := Option.some.inj (w1.symm.trans v4)
          rw [hcA]
          rfl
      · exact h.elim
    · exact h.elim
  · exact h.elim
end New
