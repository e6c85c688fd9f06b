/-! ===== every step ===== -/
/-- what is owed of the places that throw (closed in the part behind) -/
def am_thr (l : Launch) (E : am_Env) (X : Nat × (Nat → Int32)) : Prop := ∀ (y pc nx k b : Nat) (x : Int32) (ts : List (Int32 × Nat)) (lo : am_L) (σ : am_S) (u : Nat × Nat) (Q : am_Q), am_at y pc = some (.new k, nx, x, 99, b, ts) → σ.2.2.2.2 ≠ 0 → u.1 + 1 ≤ am_bc y ∧ u.2 + 6 ≤ am_bs y → Q none σ → am_Sem l E X y pc lo [] σ u Q
section Sound2
variable {l : Launch} {E : am_Env} {X : Nat × (Nat → Int32)} {y pc nx a b k z : Nat} {x : Int32} {ts : List (Int32 × Nat)} {lo : am_L} {st as r : List Value} {σ : am_S} {u : Nat × Nat} {Q Q' : am_Q}
theorem am_sd_inv {kind : Nat} {i : Instr} (hi : am_isI kind k i) (hat : am_at y pc = some (i, nx, x, a, b, ts)) (h : am_inv (am_Sem l E X) (am_Sem l E X) y nx lo st σ u Q a b kind ts) : am_Sem l E X y pc lo st σ u Q := by
  unfold am_inv at h
  split at h
  · exact am_sd_prim hi hat h
  · rename_i hz
    obtain ⟨-, -, -, hts⟩ := am_inv_fx hi hat
    rcases hts with rfl | ⟨rfl, hts⟩
    · exact am_sd_call hi hat hz h
    · rcases hi with ⟨-, rfl⟩ | ⟨e, -⟩ | ⟨e, -⟩
      · match ts, hat, h, hts with
        | [], hat, h, _ => exact am_sd_call (Or.inl ⟨rfl, rfl⟩) hat hz h
        | [_], hat, h, hts =>
          unfold am_tsB at hts
          split at hts
          · cases ‹_ :: _ = []›
          · rename_i heq; cases heq
          · cases hts
        | e1 :: e2 :: er, hat, h, _ => exact am_sd_callx hat hz h
      · cases e
      · cases e
theorem am_ret_i (hat : am_at y pc = some (.ireturn, nx, x, a, b, ts)) {v : Int32} (h : match am_rk y with | 3 => (v = 0 ∨ v = 1) ∧ Q (some (some (.int v))) σ | _ => Q (some (some (.int v))) σ) : am_Sem l E X y pc lo [.int v] σ u Q := by
  obtain ⟨-, -, ha⟩ := am_fx (L := 1) hat rfl
  have ha2 : ((Nat.beq (am_rk y) 1 && decide (am_re y = some .int)) || (Nat.beq (am_rk y) 3 && (decide (am_re y = some .boolean) || decide (am_re y = some .byte)))) = true := ha
  rcases Bool.or_eq_true_iff.mp ha2 with g | g
  · obtain ⟨g1, g2⟩ := Bool.and_eq_true_iff.mp g
    rw [Nat.eq_of_beq_eq_true g1] at h
    exact am_sd_iret hat ⟨.int, of_decide_eq_true g2, rfl⟩ h
  · obtain ⟨g1, g2⟩ := Bool.and_eq_true_iff.mp g
    rw [Nat.eq_of_beq_eq_true g1] at h
    obtain ⟨h1, h2⟩ := h
    rcases Bool.or_eq_true_iff.mp g2 with g3 | g3
    · exact am_sd_iret hat ⟨.boolean, of_decide_eq_true g3, by rcases h1 with rfl | rfl <;> rfl⟩ h2
    · exact am_sd_iret hat ⟨.byte, of_decide_eq_true g3, by rcases h1 with rfl | rfl <;> rfl⟩ h2
theorem am_sd_do_open (hth : am_thr l E X) : ∀ e : am_E, am_at y pc = some e → am_do X (am_Sem l E X) (am_Sem l E X) y lo st σ u Q e → am_Sem l E X y pc lo st σ u Q := by
  rintro ⟨i, nx, x, a, b, ts⟩ hat h
  cases i with
  | iconst n => exact am_sd_iconst hat h
  | bipush n => exact am_sd_bipush hat h
  | sipush n => exact am_sd_sipush hat h
  | lconst n => exact am_sd_lconst hat h
  | ldc n =>
    match a, hat, h with
    | 0, hat, h => exact am_sd_ldcI hat h
    | 1, hat, h => exact am_sd_ldcS hat h
    | _ + 2, _, h => exact False.elim h
  | ldc_w n =>
    match a, hat, h with
    | 0, hat, h => exact am_sd_ldcwI hat h
    | 1, hat, h => exact am_sd_ldcwS hat h
    | _ + 2, _, h => exact False.elim h
  | ldc2_w n => exact am_sd_ldc2 hat h
  | iload_n n => exact am_sd_iload_n hat h
  | iload n => exact am_sd_iload hat h
  | lload_n n => exact am_sd_lload_n hat h
  | lload n => exact am_sd_lload hat h
  | aload_n n => exact am_sd_aload_n hat h
  | aload n => exact am_sd_aload hat h
  | istore_n n =>
    dsimp only [am_do] at h
    split at h
    · exact am_sd_istore_n hat h
    · exact h.elim
  | istore n =>
    dsimp only [am_do] at h
    split at h
    · exact am_sd_istore hat h
    · exact h.elim
  | astore_n n =>
    dsimp only [am_do] at h
    split at h
    · exact am_sd_astore_n hat h
    · exact h.elim
  | astore n =>
    dsimp only [am_do] at h
    split at h
    · exact am_sd_astore hat h
    · exact h.elim
  | lstore n =>
    dsimp only [am_do] at h
    split at h
    · exact am_sd_lstore hat h
    · exact h.elim
  | iinc n q => exact am_sd_iinc hat h
  | iadd => exact am_sd_iadd hat h
  | isub => exact am_sd_isub hat h
  | imul => exact am_sd_imul hat h
  | iand => exact am_sd_iand hat h
  | ior => exact am_sd_ior hat h
  | ishl => exact am_sd_ishl hat h
  | ishr => exact am_sd_ishr hat h
  | iushr => exact am_sd_iushr hat h
  | idiv => exact am_sd_idiv hat h
  | irem => exact am_sd_irem hat h
  | i2l => exact am_sd_i2l hat h
  | i2b => exact am_sd_i2b hat h
  | i2s => exact am_sd_i2s hat h
  | i2c => exact am_sd_i2c hat h
  | lcmp =>
    dsimp only [am_do] at h
    split at h
    · exact am_sd_lcmp hat h
    · exact h.elim
  | dup =>
    dsimp only [am_do] at h
    split at h
    · exact am_sd_dup rfl hat h
    · exact am_sd_dup rfl hat h
    · exact h.elim
  | dup2 =>
    dsimp only [am_do] at h
    split at h
    · exact am_sd_dup2 rfl rfl hat h
    · exact h.elim
  | dup_x1 =>
    dsimp only [am_do] at h
    split at h
    · exact am_sd_dup_x1 rfl rfl hat h
    · exact h.elim
  | pop =>
    dsimp only [am_do] at h
    split at h
    · exact am_sd_pop rfl hat h
    · exact h.elim
  | if_icmp cd o =>
    dsimp only [am_do] at h
    split at h
    · exact am_sd_icmp hat h
    · exact h.elim
  | ifCond cd o =>
    dsimp only [am_do] at h
    split at h
    · exact am_sd_if hat h
    · exact h.elim
  | goto o => exact am_sd_goto hat h
  | tableswitch d l0 h0 offs =>
    dsimp only [am_do] at h
    split at h
    · exact am_sd_table hat h
    · exact h.elim
  | lookupswitch d ps =>
    dsimp only [am_do] at h
    split at h
    · exact am_sd_lookup hat h
    · exact h.elim
  | getfield n => exact am_sd_getfield hat h
  | putfield n => exact am_sd_putfield hat h
  | getstatic n =>
    cases a with
    | zero => exact am_sd_getstatic hat h
    | succ a' => exact am_sd_getstatic hat h
  | iaload => exact am_sd_iaload hat h
  | baload => exact am_sd_baload hat h
  | caload => exact am_sd_caload hat h
  | laload => exact am_sd_laload hat h
  | aaload => exact am_sd_aaload hat h
  | iastore => exact am_sd_iastore hat h
  | bastore => exact am_sd_bastore hat h
  | castore => exact am_sd_castore hat h
  | lastore => exact am_sd_lastore hat h
  | aastore => exact am_sd_aastore hat h
  | arraylength => exact am_sd_alen hat h
  | new n =>
    have h : am_new (am_Sem l E X) y nx lo st σ u Q a := h
    cases h9 : Nat.beq a 99 with
    | false => exact am_sd_new hat h9 h
    | true =>
      cases Nat.eq_of_beq_eq_true h9
      unfold am_new at h
      rw [h9] at h
      dsimp only at h
      split at h
      · rename_i hg _
        exact hth _ _ _ _ _ _ _ _ _ _ _ hat (by rw [hg]; exact Nat.succ_ne_zero _) h.1 h.2
      · exact h.elim
  | newarray t => exact am_sd_newarray hat h
  | anewarray n => exact am_sd_anewarray hat h
  | invokevirtual n => exact am_sd_inv (Or.inl ⟨rfl, rfl⟩) hat h
  | invokespecial n => exact am_sd_inv (Or.inr (Or.inl ⟨rfl, rfl⟩)) hat h
  | invokestatic n => exact am_sd_inv (Or.inr (Or.inr ⟨rfl, rfl⟩)) hat h
  | ireturn =>
    dsimp only [am_do] at h
    split at h
    · exact am_ret_i hat h
    · exact h.elim
  | lreturn =>
    dsimp only [am_do] at h
    split at h
    · exact am_sd_lret hat (of_decide_eq_true (am_fx (L := 1) hat rfl).2.2) h
    · exact h.elim
  | return_ =>
    dsimp only [am_do] at h
    split at h
    · exact am_sd_vret hat (of_decide_eq_true (am_fx (L := 1) hat rfl).2.2) h
    · exact h.elim
  | _ => exact False.elim h
/-- THE TIE: what the abstract machine says holds on the machine -/
theorem am_sound_open (hth : am_thr l E X) {y pc : Nat} {lo : am_L} {st : List Value} {σ : am_S} {u : Nat × Nat} {Q : am_Q} (h : am_T X y pc lo st σ u Q) : am_Sem l E X y pc lo st σ u Q := by
  refine h (am_Sem l E X) ?_
  intro y pc lo st σ u Q h
  rcases h with h | ⟨lo', hl, h⟩ | h
  · unfold am_step at h
    split at h
    · rename_i e he
      exact am_sd_do_open hth e he h
    · exact h.elim
  · intro p e s m args below meth c H locs ls hC hl' hW hS h1 h2
    exact h p e s m args below meth c H locs ls hC (am_H_less hl hl') hW hS h1 h2
  · intro p e s m args below meth c H locs ls hC hl' hW hS h1 h2
    exact h p e s m args below meth c H locs ls hC hl' (am_Wd_gb hW) hS h1 h2
end Sound2
