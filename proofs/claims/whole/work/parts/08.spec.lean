/-! ===== so every row of the data is so ===== -/
noncomputable def am_ckL : List Nat := [0, 1] ++ ([2, 3] ++ ([4, 5] ++ ([6, 7, 8, 9] ++ ([10, 11, 12] ++ ([13, 14] ++ ([15, 16, 17, 18, 19] ++ ([20, 21, 22, 23, 24] ++ ([25, 26] ++ ([27, 28, 29, 30, 31, 32] ++ ([33, 34, 35, 36] ++ ([37, 38, 39, 40, 41] ++ ([42, 43, 44, 45, 46, 47, 48, 49, 50, 51, 52] ++ ([53, 54, 55] ++ ([56, 57, 58, 59] ++ ([60, 61] ++ ([62, 63, 64, 65] ++ ([66, 67, 68] ++ ([69, 70, 71, 72] ++ ([73, 74, 75] ++ ([76, 77, 78, 79, 80, 81] ++ ([82, 83] ++ ([84, 85, 86] ++ ([87, 88, 89, 90, 91, 92, 93] ++ ([94, 95] ++ ([96, 97, 98] ++ ([99, 100, 101, 102, 103, 104, 105, 106, 107, 108] ++ ([109, 110, 111] ++ ([112, 113, 114, 115, 116] ++ ([117, 118, 119] ++ ([120, 121] ++ ([122] ++ ([123, 124, 125, 126, 127, 128, 129, 130, 131, 132, 133, 134] ++ ([135, 136, 137, 138, 139, 140, 141, 142] ++ ([143, 144] ++ ([145] ++ ([146] ++ ([147, 148, 149] ++ ([150] ++ ([151] ++ ([152, 153, 154, 155, 156] ++ ([157, 158, 159, 160, 161] ++ ([162, 163, 164, 165, 166, 167, 168] ++ ([169, 170] ++ ([171, 172, 173] ++ ([174, 175] ++ ([176, 177, 178, 179] ++ ([180, 181, 182] ++ ([183, 184, 185] ++ ([186, 187] ++ ([188, 189, 190, 191, 192] ++ ([193, 194, 195, 196] ++ ([197] ++ ([198] ++ ([199, 200] ++ ([201, 202, 203, 204] ++ ([205, 206, 207, 208] ++ ([209, 210, 211, 212, 213] ++ ([214] ++ ([215] ++ ([216, 217, 218] ++ ([219, 220, 221] ++ ([222, 223, 224, 225, 226, 227, 228] ++ ([229, 231, 232, 233, 234, 235, 236, 237, 238])))))))))))))))))))))))))))))))))))))))))))))))))))))))))))))))
theorem am_ckL_all : am_ckL.all am_ck = true := by
  unfold am_ckL
  rw [List.all_append, am_ckg_0, Bool.true_and]
  rw [List.all_append, am_ckg_1, Bool.true_and]
  rw [List.all_append, am_ckg_2, Bool.true_and]
  rw [List.all_append, am_ckg_3, Bool.true_and]
  rw [List.all_append, am_ckg_4, Bool.true_and]
  rw [List.all_append, am_ckg_5, Bool.true_and]
  rw [List.all_append, am_ckg_6, Bool.true_and]
  rw [List.all_append, am_ckg_7, Bool.true_and]
  rw [List.all_append, am_ckg_8, Bool.true_and]
  rw [List.all_append, am_ckg_9, Bool.true_and]
  rw [List.all_append, am_ckg_10, Bool.true_and]
  rw [List.all_append, am_ckg_11, Bool.true_and]
  rw [List.all_append, am_ckg_12, Bool.true_and]
  rw [List.all_append, am_ckg_13, Bool.true_and]
  rw [List.all_append, am_ckg_14, Bool.true_and]
  rw [List.all_append, am_ckg_15, Bool.true_and]
  rw [List.all_append, am_ckg_16, Bool.true_and]
  rw [List.all_append, am_ckg_17, Bool.true_and]
  rw [List.all_append, am_ckg_18, Bool.true_and]
  rw [List.all_append, am_ckg_19, Bool.true_and]
  rw [List.all_append, am_ckg_20, Bool.true_and]
  rw [List.all_append, am_ckg_21, Bool.true_and]
  rw [List.all_append, am_ckg_22, Bool.true_and]
  rw [List.all_append, am_ckg_23, Bool.true_and]
  rw [List.all_append, am_ckg_24, Bool.true_and]
  rw [List.all_append, am_ckg_25, Bool.true_and]
  rw [List.all_append, am_ckg_26, Bool.true_and]
  rw [List.all_append, am_ckg_27, Bool.true_and]
  rw [List.all_append, am_ckg_28, Bool.true_and]
  rw [List.all_append, am_ckg_29, Bool.true_and]
  rw [List.all_append, am_ckg_30, Bool.true_and]
  rw [List.all_append, am_ckg_31, Bool.true_and]
  rw [List.all_append, am_ckg_32, Bool.true_and]
  rw [List.all_append, am_ckg_33, Bool.true_and]
  rw [List.all_append, am_ckg_34, Bool.true_and]
  rw [List.all_append, am_ckg_35, Bool.true_and]
  rw [List.all_append, am_ckg_36, Bool.true_and]
  rw [List.all_append, am_ckg_37, Bool.true_and]
  rw [List.all_append, am_ckg_38, Bool.true_and]
  rw [List.all_append, am_ckg_39, Bool.true_and]
  rw [List.all_append, am_ckg_40, Bool.true_and]
  rw [List.all_append, am_ckg_41, Bool.true_and]
  rw [List.all_append, am_ckg_42, Bool.true_and]
  rw [List.all_append, am_ckg_43, Bool.true_and]
  rw [List.all_append, am_ckg_44, Bool.true_and]
  rw [List.all_append, am_ckg_45, Bool.true_and]
  rw [List.all_append, am_ckg_46, Bool.true_and]
  rw [List.all_append, am_ckg_47, Bool.true_and]
  rw [List.all_append, am_ckg_48, Bool.true_and]
  rw [List.all_append, am_ckg_49, Bool.true_and]
  rw [List.all_append, am_ckg_50, Bool.true_and]
  rw [List.all_append, am_ckg_51, Bool.true_and]
  rw [List.all_append, am_ckg_52, Bool.true_and]
  rw [List.all_append, am_ckg_53, Bool.true_and]
  rw [List.all_append, am_ckg_54, Bool.true_and]
  rw [List.all_append, am_ckg_55, Bool.true_and]
  rw [List.all_append, am_ckg_56, Bool.true_and]
  rw [List.all_append, am_ckg_57, Bool.true_and]
  rw [List.all_append, am_ckg_58, Bool.true_and]
  rw [List.all_append, am_ckg_59, Bool.true_and]
  rw [List.all_append, am_ckg_60, Bool.true_and]
  rw [List.all_append, am_ckg_61, Bool.true_and]
  rw [List.all_append, am_ckg_62, Bool.true_and]
  exact am_ckg_63
theorem am_ckL_in : ∀ y ∈ List.range 239, y ≠ 230 → y ∈ am_ckL := by decide +kernel
theorem am_ckW_all : ([0, 1, 2, 3] ++ ([4, 5, 6, 7] ++ ([8, 9, 10, 11] ++ ([12, 13, 14, 15] ++ ([16, 17, 18, 19] ++ ([20, 21, 22, 23] ++ ([24, 25, 26, 27] ++ ([28, 29, 30, 31] ++ ([32, 33, 34, 35] ++ ([36, 37, 38, 39] ++ ([40, 41, 42, 43] ++ ([44, 45, 46, 47] ++ ([48, 49, 50, 51] ++ ([52, 53, 54]))))))))))))) : List Nat).all (am_ckc 230) = true := by
  rw [List.all_append, am_ckl_0, Bool.true_and]
  rw [List.all_append, am_ckl_4, Bool.true_and]
  rw [List.all_append, am_ckl_8, Bool.true_and]
  rw [List.all_append, am_ckl_12, Bool.true_and]
  rw [List.all_append, am_ckl_16, Bool.true_and]
  rw [List.all_append, am_ckl_20, Bool.true_and]
  rw [List.all_append, am_ckl_24, Bool.true_and]
  rw [List.all_append, am_ckl_28, Bool.true_and]
  rw [List.all_append, am_ckl_32, Bool.true_and]
  rw [List.all_append, am_ckl_36, Bool.true_and]
  rw [List.all_append, am_ckl_40, Bool.true_and]
  rw [List.all_append, am_ckl_44, Bool.true_and]
  rw [List.all_append, am_ckl_48, Bool.true_and]
  exact am_ckl_52
theorem am_ckW_in : ∀ j ∈ List.range 55, j ∈ ([0, 1, 2, 3] ++ ([4, 5, 6, 7] ++ ([8, 9, 10, 11] ++ ([12, 13, 14, 15] ++ ([16, 17, 18, 19] ++ ([20, 21, 22, 23] ++ ([24, 25, 26, 27] ++ ([28, 29, 30, 31] ++ ([32, 33, 34, 35] ++ ([36, 37, 38, 39] ++ ([40, 41, 42, 43] ++ ([44, 45, 46, 47] ++ ([48, 49, 50, 51] ++ ([52, 53, 54]))))))))))))) : List Nat) := by decide +kernel
theorem am_nth_none {α : Type} {l : List α} {n : Nat} (h : l.length ≤ n) : am_nth l n = none := by rw [am_nth_eq]; exact List.getElem?_eq_none h
theorem am_CT_len : am_CT.length = 15 := rfl
theorem am_CT_last : (match am_nth am_CT 14 with | some l => l.length | none => 0) = 15 := rfl
theorem am_law_len : (match am_nth am_CT (230 / 16) with | some l => (match am_nth l (230 % 16) with | some k => k.length | none => 0) | none => 0) = 55 := rfl
theorem am_ckc_of {y j : Nat} (h : am_ck y = true) : am_ckc y j = true := by
  unfold am_ck at h
  unfold am_ckc
  split
  · rename_i l hl
    rw [hl] at h
    dsimp only at h
    split
    · rename_i k hk
      rw [hk] at h
      dsimp only at h
      split
      · rename_i c hc
        exact List.all_eq_true.mp h c (by rw [am_nth_eq] at hc; exact List.mem_of_getElem? hc)
      · rfl
    · rfl
  · rfl
theorem am_ckc_all (y j : Nat) : am_ckc y j = true := by
  by_cases h1 : y < 239
  · by_cases h2 : y = 230
    · subst h2
      by_cases h3 : j < 55
      · exact List.all_eq_true.mp am_ckW_all j (am_ckW_in j (List.mem_range.mpr h3))
      · have e := am_law_len
        unfold am_ckc
        split
        · rename_i l hl
          rw [hl] at e
          dsimp only at e
          split
          · rename_i k hk
            rw [hk] at e
            dsimp only at e
            rw [am_nth_none (by rw [e]; omega)]
          · rfl
        · rfl
    · exact am_ckc_of (List.all_eq_true.mp am_ckL_all y (am_ckL_in y (List.mem_range.mpr h1) h2))
  · unfold am_ckc
    by_cases h2 : y < 240
    · have : y = 239 := by omega
      subst this
      have e := am_CT_last
      split
      · rename_i l hl
        rw [show 239 / 16 = 14 from rfl] at hl
        rw [hl] at e
        dsimp only at e
        rw [am_nth_none (by rw [e]; decide)]
      · rfl
    · rw [am_nth_none (l := am_CT) (by rw [am_CT_len]; omega)]
theorem am_at_chk {y pc : Nat} {e : am_E} (h : am_at y pc = some e) : am_chk y (pc, e) = true := by
  have hc := am_ckc_all y (pc / 32)
  unfold am_at at h
  unfold am_ckc at hc
  split at h
  · rename_i l hl
    rw [hl] at hc
    dsimp only at hc
    split at h
    · rename_i k hk
      rw [hk] at hc
      dsimp only at hc
      split at h
      · rename_i r hr
        rw [hr] at hc
        dsimp only at hc
        exact List.all_eq_true.mp hc (pc, e) (am_look_mem r pc e h)
      · cases h
    · cases h
  · cases h
theorem am_at_spec {y pc nx a b : Nat} {i : Instr} {x : Int32} {ts : List (Int32 × Nat)} (h : am_at y pc = some (i, nx, x, a, b, ts)) : decode (am_by y) pc = .ok (i, nx - pc) ∧ am_lenB i pc nx = true ∧ am_argB y pc (i, nx, x, a, b, ts) = true := by
  have hc := am_at_chk h
  unfold am_chk at hc
  simp only [Bool.and_eq_true] at hc
  exact ⟨of_decide_eq_true hc.1, hc.2.1, hc.2.2.2⟩
theorem am_fx {y pc nx a b L : Nat} {i : Instr} {x : Int32} {ts : List (Int32 × Nat)} (h : am_at y pc = some (i, nx, x, a, b, ts)) (hL : am_lenB i pc nx = Nat.beq nx (pc + L)) : decode (am_by y) pc = .ok (i, L) ∧ nx = pc + L ∧ am_argB y pc (i, nx, x, a, b, ts) = true := by
  obtain ⟨h1, h2, h3⟩ := am_at_spec h
  rw [hL] at h2
  have e := Nat.eq_of_beq_eq_true h2
  refine ⟨?_, e, h3⟩
  rw [h1, e, Nat.add_sub_cancel_left]
