/-! ===== the abstract machine: more may be asked of less; a step folds; straight stretches in one go ===== -/
section Mono
variable {X : Nat × (Nat → Int32)} {P0 P0' P P' : am_P} {y nx a b n z kind kd kd2 c : Nat} {lo : am_L} {st as r : List Value} {σ : am_S} {u : Nat × Nat} {Q : am_Q} {ts : List (Int32 × Nat)}
theorem am_bin_mono {f : Int32 → Int32 → Int32} {k k' : List Value → Prop} (hk : ∀ s, k s → k' s) (h : am_bin st f k) : am_bin st f k' := by
  unfold am_bin at *; split at h
  · exact hk _ h
  · exact h.elim
theorem am_un_mono {f : Int32 → Value} {k k' : List Value → Prop} (hk : ∀ s, k s → k' s) (h : am_un st f k) : am_un st f k' := by
  unfold am_un at *; split at h
  · exact hk _ h
  · exact h.elim
theorem am_div_mono {f : Int32 → Int32 → Int32} {k k' : List Value → Prop} (hk : ∀ s, k s → k' s) (h : am_div st f k) : am_div st f k' := by
  unfold am_div at *; split at h
  · exact ⟨h.1, hk _ h.2⟩
  · exact h.elim
theorem am_icmp_mono {q : ClassFile.Cond} {p1 p2 : Int32} {t t' f f' : Prop} (ht : t → t') (hf : f → f') (h : am_icmp q p1 p2 t f) : am_icmp q p1 p2 t' f' := by
  cases q <;> exact ⟨fun e => ht (h.1 e), fun e => hf (h.2 e)⟩
theorem am_sw_mono {v : Int32} {k k' : Nat → Prop} {d : Nat} (hk : ∀ t, k t → k' t) : ∀ ts : List (Int32 × Nat), am_sw v k d ts → am_sw v k' d ts
  | [], h => hk _ h
  | _ :: r, h => ⟨fun e => hk _ (h.1 e), fun e => am_sw_mono hk r (h.2 e)⟩
theorem am_ldI_mono {i : Nat} {k k' : Int32 → Prop} (hk : ∀ s, k s → k' s) (h : am_ldI lo i k) : am_ldI lo i k' := by
  unfold am_ldI at *; split at h
  · exact hk _ h
  · exact h.elim
theorem am_ldJ_mono {i : Nat} {k k' : Int64 → Prop} (hk : ∀ s, k s → k' s) (h : am_ldJ lo i k) : am_ldJ lo i k' := by
  unfold am_ldJ at *; split at h
  · exact hk _ h
  · exact h.elim
theorem am_ldA_mono {i : Nat} {k k' : Nat → Prop} (hk : ∀ s, k s → k' s) (h : am_ldA lo i k) : am_ldA lo i k' := by
  unfold am_ldA at *; split at h
  · exact hk _ h
  · exact h.elim
theorem am_gfd_mono {k k' : List Value → Prop} (hk : ∀ s, k s → k' s) (h : am_gfd σ st a b k) : am_gfd σ st a b k' := by
  unfold am_gfd at *; split at h
  · split at h
    · exact hk _ h
    · exact hk _ h
    · exact h.elim
  · exact h.elim
theorem am_pfd_mono {k k' : List Value → am_S → Prop} (hk : ∀ s σ, k s σ → k' s σ) (h : am_pfd σ st a b k) : am_pfd σ st a b k' := by
  unfold am_pfd at *; split at h
  · split at h
    · split at h
      · exact hk _ _ h
      · exact h.elim
    · exact h.elim
  · split at h
    · split at h
      · exact hk _ _ h
      · exact h.elim
    · exact h.elim
  · exact h.elim
theorem am_ald_mono {k k' : List Value → Prop} (hk : ∀ s, k s → k' s) (h : am_ald X σ st kd kd2 k) : am_ald X σ st kd kd2 k' := by
  unfold am_ald at *; split at h
  · split at h
    · split at h
      · exact ⟨h.1, hk _ h.2⟩
      · exact h.elim
    · exact h.elim
  · exact h.elim
theorem am_ast_mono {k k' : List Value → am_S → Prop} (hk : ∀ s σ, k s σ → k' s σ) (h : am_ast σ st kd kd2 k) : am_ast σ st kd kd2 k' := by
  unfold am_ast at *; split at h
  · split at h
    · split at h
      · exact ⟨h.1, hk _ _ h.2⟩
      · exact h.elim
    · split at h
      · exact ⟨h.1, hk _ _ h.2⟩
      · exact h.elim
    · exact h.elim
  · exact h.elim
theorem am_lald_mono {k k' : List Value → Prop} (hk : ∀ s, k s → k' s) (h : am_lald σ st k) : am_lald σ st k' := by
  unfold am_lald at *; split at h
  · split at h
    · exact ⟨h.1, hk _ h.2⟩
    · exact h.elim
  · exact h.elim
theorem am_last_mono {k k' : List Value → am_S → Prop} (hk : ∀ s σ, k s σ → k' s σ) (h : am_last σ st k) : am_last σ st k' := by
  unfold am_last at *; split at h
  · split at h
    · exact ⟨h.1, hk _ _ h.2⟩
    · exact h.elim
  · exact h.elim
theorem am_aald_mono {k k' : List Value → Prop} (hk : ∀ s, k s → k' s) (h : am_aald σ st k) : am_aald σ st k' := by
  unfold am_aald at *; split at h
  · split at h
    · obtain ⟨h1, q, h2, h3⟩ := h
      exact ⟨h1, q, h2, hk _ h3⟩
    · exact h.elim
  · exact h.elim
theorem am_aast_mono {k k' : List Value → am_S → Prop} (hk : ∀ s σ, k s σ → k' s σ) (h : am_aast σ st k) : am_aast σ st k' := by
  unfold am_aast at *; split at h
  · split at h
    · exact ⟨h.1, h.2.1, hk _ _ h.2.2⟩
    · exact h.elim
  · exact h.elim
theorem am_alen_mono {k k' : List Value → Prop} (hk : ∀ s, k s → k' s) (h : am_alen X σ st k) : am_alen X σ st k' := by
  unfold am_alen at *; split at h
  · split at h
    · split at h
      · exact hk _ h
      · exact h.elim
    · exact h.elim
  · exact h.elim
variable (h0 : ∀ y pc lo st σ u Q, P0 y pc lo st σ u Q → P0' y pc lo st σ u Q) (hP : ∀ y pc lo st σ u Q, P y pc lo st σ u Q → P' y pc lo st σ u Q)
theorem am_new_mono (hP : ∀ y pc lo st σ u Q, P y pc lo st σ u Q → P' y pc lo st σ u Q) (h : am_new P y nx lo st σ u Q c) : am_new P' y nx lo st σ u Q c := by
  unfold am_new at *; split at h
  · split at h
    · exact h
    · exact h.elim
  · split at h
    · split at h
      · exact hP _ _ _ _ _ _ _ h
      · exact h.elim
    · exact h.elim
theorem am_newa_mono (hP : ∀ y pc lo st σ u Q, P y pc lo st σ u Q → P' y pc lo st σ u Q) (h : am_newa P y nx lo st σ u Q c) : am_newa P' y nx lo st σ u Q c := by
  unfold am_newa at *; split at h
  · split at h
    · split at h
      · exact ⟨h.1, hP _ _ _ _ _ _ _ h.2⟩
      · exact h.elim
    · exact h.elim
  · exact h.elim
theorem am_prim_mono (hP : ∀ y pc lo st σ u Q, P y pc lo st σ u Q → P' y pc lo st σ u Q) (h : am_prim P y nx lo st σ u Q z) : am_prim P' y nx lo st σ u Q z := by
  unfold am_prim at *; split at h
  · split at h
    · exact hP _ _ _ _ _ _ _ h
    · exact h.elim
  · split at h
    · exact hP _ _ _ _ _ _ _ h
    · exact h.elim
  · split at h
    · exact ⟨h.1, hP _ _ _ _ _ _ _ h.2⟩
    · exact h.elim
  · split at h
    · exact hP _ _ _ _ _ _ _ h
    · exact h.elim
  · exact h.elim
theorem am_cont_mono (h0 : ∀ y pc lo st σ u Q, P0 y pc lo st σ u Q → P0' y pc lo st σ u Q) (hP : ∀ y pc lo st σ u Q, P y pc lo st σ u Q → P' y pc lo st σ u Q) (h : am_cont P0 P y nx lo σ u Q z ts as r) : am_cont P0' P' y nx lo σ u Q z ts as r := by
  unfold am_cont at *; split at h
  · split at h
    · obtain ⟨K, h1, h2⟩ := h
      exact ⟨K, h0 _ _ _ _ _ _ _ h1, fun σ' e => hP _ _ _ _ _ _ _ (h2 σ' e)⟩
    · obtain ⟨K, h1, h2⟩ := h
      exact ⟨K, h0 _ _ _ _ _ _ _ h1, fun v σ' e => hP _ _ _ _ _ _ _ (h2 v σ' e)⟩
    · obtain ⟨K, h1, h2⟩ := h
      exact ⟨K, h0 _ _ _ _ _ _ _ h1, fun v σ' e => hP _ _ _ _ _ _ _ (h2 v σ' e)⟩
  · split at h
    · obtain ⟨K, Kx, h1, h2, h3⟩ := h
      exact ⟨K, Kx, h0 _ _ _ _ _ _ _ h1, fun v σ' e => hP _ _ _ _ _ _ _ (h2 v σ' e), fun σ' e => hP _ _ _ _ _ _ _ (h3 σ' e)⟩
    · obtain ⟨K, Kx, h1, h2, h3⟩ := h
      exact ⟨K, Kx, h0 _ _ _ _ _ _ _ h1, fun v σ' e => hP _ _ _ _ _ _ _ (h2 v σ' e), fun σ' e => hP _ _ _ _ _ _ _ (h3 σ' e)⟩
  · exact h.elim
theorem am_inv_mono (h0 : ∀ y pc lo st σ u Q, P0 y pc lo st σ u Q → P0' y pc lo st σ u Q) (hP : ∀ y pc lo st σ u Q, P y pc lo st σ u Q → P' y pc lo st σ u Q) (h : am_inv P0 P y nx lo st σ u Q z n kind ts) : am_inv P0' P' y nx lo st σ u Q z n kind ts := by
  unfold am_inv at *; split at h
  · exact am_prim_mono hP h
  · unfold am_call at *; split at h
    · split at h
      · exact am_cont_mono h0 hP h
      · exact h.elim
    · exact h.elim
theorem am_do_mono (h0 : ∀ y pc lo st σ u Q, P0 y pc lo st σ u Q → P0' y pc lo st σ u Q) (hP : ∀ y pc lo st σ u Q, P y pc lo st σ u Q → P' y pc lo st σ u Q) : ∀ e : am_E, am_do X P0 P y lo st σ u Q e → am_do X P0' P' y lo st σ u Q e := by
  rintro ⟨i, nx, x, a, b, ts⟩ h
  cases i <;> first
    | exact False.elim h
    | exact hP _ _ _ _ _ _ _ h
    | exact am_new_mono hP h
    | exact am_newa_mono hP h
    | exact am_inv_mono h0 hP h
    | (dsimp only [am_do] at h ⊢; first
      | (refine am_bin_mono ?_ h; intros; apply hP; assumption)
      | (refine am_div_mono ?_ h; intros; apply hP; assumption)
      | (refine am_un_mono ?_ h; intros; apply hP; assumption)
      | (refine am_ldI_mono ?_ h; intros; apply hP; assumption)
      | (refine am_ldJ_mono ?_ h; intros; apply hP; assumption)
      | (refine am_ldA_mono ?_ h; intros; apply hP; assumption)
      | (refine am_gfd_mono ?_ h; intros; apply hP; assumption)
      | (refine am_pfd_mono ?_ h; intros; apply hP; assumption)
      | (refine am_ald_mono ?_ h; intros; apply hP; assumption)
      | (refine am_ast_mono ?_ h; intros; apply hP; assumption)
      | (refine am_lald_mono ?_ h; intros; apply hP; assumption)
      | (refine am_last_mono ?_ h; intros; apply hP; assumption)
      | (refine am_aald_mono ?_ h; intros; apply hP; assumption)
      | (refine am_aast_mono ?_ h; intros; apply hP; assumption)
      | (refine am_alen_mono ?_ h; intros; apply hP; assumption)
      | (split at h <;> first | exact h.elim | exact hP _ _ _ _ _ _ _ h | exact am_icmp_mono (hP _ _ _ _ _ _ _) (hP _ _ _ _ _ _ _) h | (refine am_sw_mono ?_ _ h; intros; apply hP; assumption) | exact h))
theorem am_step_mono (h0 : ∀ y pc lo st σ u Q, P0 y pc lo st σ u Q → P0' y pc lo st σ u Q) (hP : ∀ y pc lo st σ u Q, P y pc lo st σ u Q → P' y pc lo st σ u Q) {pc : Nat} (h : am_step X P0 P y pc lo st σ u Q) : am_step X P0' P' y pc lo st σ u Q := by
  unfold am_step at *; split at h
  · exact am_do_mono h0 hP _ h
  · exact h.elim
end Mono
section Fold
variable {X : Nat × (Nat → Int32)}
theorem am_T_step {y pc : Nat} {lo : am_L} {st : List Value} {σ : am_S} {u : Nat × Nat} {Q : am_Q} (h : am_step X (am_T X) (am_T X) y pc lo st σ u Q) : am_T X y pc lo st σ u Q := by
  intro P hc
  exact hc _ _ _ _ _ _ _ (Or.inl (am_step_mono (fun _ _ _ _ _ _ _ h => h P hc) (fun _ _ _ _ _ _ _ h => h P hc) h))
/-- what is known of locals may be forgotten -/
theorem am_T_less {y pc : Nat} {lo : am_L} {st : List Value} {σ : am_S} {u : Nat × Nat} {Q : am_Q} (lo' : am_L) (hl : am_le lo' lo) (h : am_T X y pc lo' st σ u Q) : am_T X y pc lo st σ u Q := by
  intro P hc
  exact hc _ _ _ _ _ _ _ (Or.inr (Or.inl ⟨lo', hl, h P hc⟩))
/-- from here on the heap's end doesn't matter -/
theorem am_T_gb {y pc : Nat} {lo : am_L} {st : List Value} {σ : am_S} {u : Nat × Nat} {Q : am_Q} (h : am_T X y pc lo st (am_gb σ) u Q) : am_T X y pc lo st σ u Q := by
  intro P hc
  exact hc _ _ _ _ _ _ _ (Or.inr (Or.inr (h P hc)))
/-- locals that a stop keeps -/
noncomputable def am_msk (ms : List Bool) : am_L → am_L := List.rec (motive := fun _ => am_L → am_L) (fun lo => lo) (fun b _ ih lo => List.rec (motive := fun _ => am_L) [] (fun a r _ => Bool.rec (motive := fun _ => Option Value) none a b :: ih r) lo) ms
theorem am_msk_le : ∀ (ms : List Bool) (lo : am_L), am_le (am_msk ms lo) lo
  | [], lo => ⟨rfl, fun _ _ h => h⟩
  | b :: ms, [] => ⟨rfl, fun _ _ h => h⟩
  | b :: ms, a :: r => by
    obtain ⟨h1, h2⟩ := am_msk_le ms r
    refine ⟨congrArg Nat.succ h1, ?_⟩
    intro i v h
    cases i with
    | zero =>
      cases b with
      | false => exact absurd (show (none : Option Value) = some v from h) (by simp)
      | true => exact h
    | succ i => exact h2 i v h
/-- n steps at most, up to the stops -/
noncomputable def am_N (X : Nat × (Nat → Int32)) (stop : List (Nat × List Bool)) (n : Nat) : am_P := Nat.rec (motive := fun _ => am_P) (am_T X) (fun _ ih y pc lo st σ u Q => match am_look stop pc with
  | some ms => am_T X y pc (am_msk ms lo) st σ u Q
  | none => am_step X (am_T X) ih y pc lo st σ u Q) n
theorem am_T_N (stop : List (Nat × List Bool)) : ∀ (n : Nat) {y pc : Nat} {lo : am_L} {st : List Value} {σ : am_S} {u : Nat × Nat} {Q : am_Q}, am_N X stop n y pc lo st σ u Q → am_T X y pc lo st σ u Q
  | 0, _, _, _, _, _, _, _, h => h
  | n + 1, y, pc, lo, st, σ, u, Q, h => by
    change (match am_look stop pc with
      | some ms => am_T X y pc (am_msk ms lo) st σ u Q
      | none => am_step X (am_T X) (am_N X stop n) y pc lo st σ u Q) at h
    split at h
    · exact am_T_less _ (am_msk_le _ _) h
    · exact am_T_step (am_step_mono (fun _ _ _ _ _ _ _ h => h) (fun _ _ _ _ _ _ _ h => am_T_N stop n h) h)
/-- at the head: one step is done, though it may be a stop -/
theorem am_T_go (stop : List (Nat × List Bool)) (n : Nat) {y pc : Nat} {lo : am_L} {st : List Value} {σ : am_S} {u : Nat × Nat} {Q : am_Q} (h : am_step X (am_T X) (am_N X stop n) y pc lo st σ u Q) : am_T X y pc lo st σ u Q :=
  am_T_step (am_step_mono (fun _ _ _ _ _ _ _ h => h) (fun _ _ _ _ _ _ _ h => am_T_N stop n h) h)
end Fold
