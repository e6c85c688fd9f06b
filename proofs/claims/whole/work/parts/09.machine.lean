/-! ===== the abstract machine: places instead of addresses, ints and longs as functions of place and slot ===== -/
/-- a place's shape: an object (its class's number; of each field: none an int, some its reference), or an array (its kind, its length) -/
abbrev am_Sh : Type := (Nat × List (Option (Option Nat))) ⊕ (Nat × Nat)
/-- the memory: shapes, ints, longs, references in arrays; 0 while the places' addresses follow each other up to the heap's end -/
abbrev am_S : Type := List am_Sh × (Nat → Nat → Int32) × (Nat → Nat → Int64) × (Nat → Nat → Option Nat) × Nat
abbrev am_L : Type := List (Option Value)
/-- what is asked of an end: returned (some, with what) or thrown (none), and the memory -/
abbrev am_Q : Type := Option (Option Value) → am_S → Prop
abbrev am_P : Type := Nat → Nat → am_L → List Value → am_S → Nat × Nat → am_Q → Prop
-- memory
noncomputable def am_gi (σ : am_S) (p i : Nat) : Int32 := σ.2.1 p i
noncomputable def am_gl (σ : am_S) (p i : Nat) : Int64 := σ.2.2.1 p i
noncomputable def am_gr (σ : am_S) (p i : Nat) : Option Nat := σ.2.2.2.1 p i
noncomputable def am_si (σ : am_S) (p i : Nat) (v : Int32) : am_S := (σ.1, va_up σ.2.1 p (upd (σ.2.1 p) i v), σ.2.2)
noncomputable def am_sl (σ : am_S) (p i : Nat) (v : Int64) : am_S := (σ.1, σ.2.1, va_up σ.2.2.1 p (vp_updL (σ.2.2.1 p) i v), σ.2.2.2)
noncomputable def am_sr (σ : am_S) (p i : Nat) (v : Option Nat) : am_S := (σ.1, σ.2.1, σ.2.2.1, va_up σ.2.2.2.1 p (va_up (σ.2.2.2.1 p) i v), σ.2.2.2.2)
/-- a row of ints copied into another -/
noncomputable def am_cp (σ : am_S) (p sp q dp n : Nat) : am_S := (σ.1, va_up σ.2.1 q (va_cpy (σ.2.1 p) (σ.2.1 q) sp dp n), σ.2.2)
/-- a reference into a field -/
noncomputable def am_sf (σ : am_S) (p c : Nat) (fl : List (Option (Option Nat))) (k q : Nat) : am_S := (am_put (Sum.inl (c, am_put (some (some q)) fl k)) σ.1 p, σ.2)
/-- a new cell -/
noncomputable def am_nw (σ : am_S) (s : am_Sh) : am_S := (σ.1 ++ [s], va_up σ.2.1 σ.1.length (fun _ => 0), va_up σ.2.2.1 σ.1.length (fun _ => 0), va_up σ.2.2.2.1 σ.1.length (fun _ => none), σ.2.2.2.2)
/-- the heap's end is nobody's business any more -/
noncomputable def am_gb (σ : am_S) : am_S := (σ.1, σ.2.1, σ.2.2.1, σ.2.2.2.1, 1)
-- locals
noncomputable def am_get (lo : am_L) (i : Nat) : Option Value := match am_nth lo i with
  | some v => v
  | none => none
noncomputable def am_kill (lo : am_L) (i : Nat) : am_L := match i with
  | 0 => lo
  | k + 1 => match am_get lo k with
    | some v => Bool.rec (motive := fun _ => am_L) lo (am_put none lo k) (Nat.beq v.category 2)
    | none => lo
noncomputable def am_st1 (lo : am_L) (i : Nat) (v : Value) : am_L := am_put (some v) (am_kill lo i) i
noncomputable def am_st2 (lo : am_L) (i : Nat) (v : Value) : am_L := am_put (some v) (am_put none (am_kill lo i) (i + 1)) i
noncomputable def am_flat (vs : List Value) : am_L := List.rec (motive := fun _ => am_L) [] (fun v _ ih => Bool.rec (motive := fun _ => am_L) (some v :: ih) (some v :: none :: ih) (Nat.beq v.category 2)) vs
noncomputable def am_pad (lo : am_L) (n : Nat) : am_L := lo ++ List.replicate (n - lo.length) none
noncomputable def am_ent (vs : List Value) (n : Nat) : am_L := am_pad (am_flat vs) n
noncomputable def am_pop (n : Nat) : List Value → List Value → Option (List Value × List Value) := Nat.rec (motive := fun _ => List Value → List Value → Option (List Value × List Value)) (fun st acc => some (acc, st)) (fun _ ih st acc => List.rec (motive := fun _ => Option (List Value × List Value)) none (fun v r _ => ih r (v :: acc)) st) n
noncomputable def am_cat (st : List Value) : Nat := List.rec (motive := fun _ => Nat) 0 (fun v _ ih => v.category + ih) st
-- ends
def am_qi (K : Int32 → am_S → Prop) : am_Q := fun r σ => ∃ v, r = some (some (.int v)) ∧ K v σ
def am_ql (K : Int64 → am_S → Prop) : am_Q := fun r σ => ∃ v, r = some (some (.long v)) ∧ K v σ
def am_qv (K : am_S → Prop) : am_Q := fun r σ => r = some none ∧ K σ
/-- an int, or thrown -/
def am_qx (K : Int32 → am_S → Prop) (Kx : am_S → Prop) : am_Q := fun r σ => (∃ v, r = some (some (.int v)) ∧ K v σ) ∨ (r = none ∧ Kx σ)
def am_qy (K : Int64 → am_S → Prop) (Kx : am_S → Prop) : am_Q := fun r σ => (∃ v, r = some (some (.long v)) ∧ K v σ) ∨ (r = none ∧ Kx σ)
-- pieces of a step
def am_bin (st : List Value) (f : Int32 → Int32 → Int32) (k : List Value → Prop) : Prop := match st with
  | .int b :: .int a :: r => k (.int (f a b) :: r)
  | _ => False
def am_un (st : List Value) (f : Int32 → Value) (k : List Value → Prop) : Prop := match st with
  | .int a :: r => k (f a :: r)
  | _ => False
def am_div (st : List Value) (f : Int32 → Int32 → Int32) (k : List Value → Prop) : Prop := match st with
  | .int b :: .int a :: r => ¬ b = 0 ∧ k (.int (f a b) :: r)
  | _ => False
def am_br (c : Prop) (a b : Prop) : Prop := (c → a) ∧ (¬ c → b)
def am_icmp (c : ClassFile.Cond) (a b : Int32) (t f : Prop) : Prop := match c with
  | .eq => (a = b → t) ∧ (¬ a = b → f)
  | .ne => (¬ a = b → t) ∧ (a = b → f)
  | .lt => (a < b → t) ∧ (¬ a < b → f)
  | .ge => (b ≤ a → t) ∧ (¬ b ≤ a → f)
  | .gt => (b < a → t) ∧ (¬ b < a → f)
  | .le => (a ≤ b → t) ∧ (¬ a ≤ b → f)
noncomputable def am_sw (v : Int32) (k : Nat → Prop) (d : Nat) (ts : List (Int32 × Nat)) : Prop := List.rec (motive := fun _ => Prop) (k d) (fun e _ ih => (v = e.1 → k e.2) ∧ (¬ v = e.1 → ih)) ts
/-- the kind and length of a place's array, and its ints -/
noncomputable def am_arr (X : Nat × (Nat → Int32)) (σ : am_S) (p : Nat) : Option (Nat × Nat × (Nat → Int32)) := match Nat.ble 1000 p with
  | false => (match am_nth σ.1 p with
    | some (.inr (kd, n)) => some (kd, n, σ.2.1 p)
    | _ => none)
  | true => (match Nat.beq p 1000 with
    | true => some (0, X.1, X.2)
    | false => (match am_look am_KA p with
      | some (kd, l) => some (kd, l.length, fun i => l.getD i 0)
      | none => none))
/-- an array that may be written -/
noncomputable def am_arw (σ : am_S) (p : Nat) : Option (Nat × Nat) := match am_nth σ.1 p with
  | some (.inr (kd, n)) => some (kd, n)
  | _ => none
/-- a field: none no such field, some none an int, some (some q) a reference -/
noncomputable def am_fld (σ : am_S) (p c k : Nat) : Option (Option Nat) := match Nat.ble 1000 p with
  | false => (match am_nth σ.1 p with
    | some (.inl (c', fl)) => (match Nat.beq c' c with
      | true => (match am_nth fl k with
        | some none => some none
        | some (some (some q)) => some (some q)
        | _ => none)
      | false => none)
    | _ => none)
  | true => (match (Nat.beq c 8).and ((Nat.ble 1010 p).and (Nat.ble p 1013)) with
    | true => (match Nat.beq k 0 with
      | true => some (some (p + 10))
      | false => some none)
    | false => none)
noncomputable def am_fi (σ : am_S) (p k : Nat) : Int32 := match Nat.ble 1000 p with
  | false => σ.2.1 p k
  | true => 0
noncomputable def am_cls (σ : am_S) (p : Nat) : Nat := match Nat.ble 1000 p with
  | false => (match am_nth σ.1 p with
    | some (.inl (c, _)) => c
    | _ => 1000)
  | true => (match (Nat.ble 1010 p).and (Nat.ble p 1013) with
    | true => 8
    | false => 1000)
noncomputable def am_okb (y z : Nat) (u : Nat × Nat) : Bool := match am_bc z + am_bs z with
  | 0 => true
  | _ + 1 => (Nat.ble (u.1 + am_bc z) (am_bc y)).and (Nat.ble (u.2 + am_bs z) (am_bs y))
noncomputable def am_ub (z : Nat) (u : Nat × Nat) : Nat × Nat := match am_bc z + am_bs z with
  | 0 => u
  | _ + 1 => (u.1 + am_bc z, u.2 + am_bs z)
/-- who receives a call: 0 an object of the callee's class, 1 a new one, 2 nobody -/
noncomputable def am_rcv (σ : am_S) (z kind : Nat) (as : List Value) : Bool := match kind with
  | 0 => (match as with
    | .ref p :: _ => Nat.beq (am_cls σ p) (am_mi z).1
    | _ => false)
  | 1 => (match as with
    | .ref _ :: _ => true
    | _ => false)
  | _ => true
noncomputable def am_cont (P0 P : am_P) (y nx : Nat) (lo : am_L) (σ : am_S) (u : Nat × Nat) (Q : am_Q) (z : Nat) (ts : List (Int32 × Nat)) (as r : List Value) : Prop := match ts with
  | [] => (match am_rk z with
    | 0 => ∃ K : am_S → Prop, P0 z 0 (am_ent as (am_maxl z)) [] σ (0, 0) (am_qv K) ∧ ∀ σ', K σ' → P y nx lo r σ' (am_ub z u) Q
    | 2 => ∃ K : Int64 → am_S → Prop, P0 z 0 (am_ent as (am_maxl z)) [] σ (0, 0) (am_ql K) ∧ ∀ v σ', K v σ' → P y nx lo (.long v :: r) σ' (am_ub z u) Q
    | _ => ∃ K : Int32 → am_S → Prop, P0 z 0 (am_ent as (am_maxl z)) [] σ (0, 0) (am_qi K) ∧ ∀ v σ', K v σ' → P y nx lo (.int v :: r) σ' (am_ub z u) Q)
  | (_, h) :: (_, k) :: _ => (match am_rk z with
    | 2 => ∃ (K : Int64 → am_S → Prop) (Kx : am_S → Prop), P0 z 0 (am_ent as (am_maxl z)) [] σ (0, 0) (am_qy K Kx) ∧ (∀ v σ', K v σ' → P y nx lo (.long v :: r) σ' (am_ub z u) Q) ∧ ∀ σ', Kx σ' → P y h (am_put none (am_kill lo k) k) [] σ' (am_ub z u) Q
    | _ => ∃ (K : Int32 → am_S → Prop) (Kx : am_S → Prop), P0 z 0 (am_ent as (am_maxl z)) [] σ (0, 0) (am_qx K Kx) ∧ (∀ v σ', K v σ' → P y nx lo (.int v :: r) σ' (am_ub z u) Q) ∧ ∀ σ', Kx σ' → P y h (am_put none (am_kill lo k) k) [] σ' (am_ub z u) Q)
  | _ => False
noncomputable def am_call (P0 P : am_P) (y nx : Nat) (lo : am_L) (st : List Value) (σ : am_S) (u : Nat × Nat) (Q : am_Q) (z n kind : Nat) (ts : List (Int32 × Nat)) : Prop := match am_pop n st [] with
  | some (as, r) => (match ((Nat.ble (am_cat r) 8).and (am_okb y z u)).and ((am_rcv σ z kind as).and (Nat.ble (am_cat as) (am_maxl z))) with
    | true => am_cont P0 P y nx lo σ u Q z ts as r
    | false => False)
  | none => False
/-- methods that are the machine's own: Math.max, Math.min, System.arraycopy, Object.<init> -/
noncomputable def am_prim (P : am_P) (y nx : Nat) (lo : am_L) (st : List Value) (σ : am_S) (u : Nat × Nat) (Q : am_Q) (z : Nat) : Prop := match z, st with
  | 300, .int b :: .int a :: r => (match Nat.ble (am_cat r) 8 with
    | true => P y nx lo (.int (if a < b then b else a) :: r) σ u Q
    | false => False)
  | 301, .int b :: .int a :: r => (match Nat.ble (am_cat r) 8 with
    | true => P y nx lo (.int (if b < a then b else a) :: r) σ u Q
    | false => False)
  | 302, .int n :: .int dp :: .ref q :: .int sp :: .ref p :: r => (match (Nat.ble (am_cat r) 8).and (Nat.ble 1 σ.2.2.2.2), am_arw σ p, am_arw σ q with
    | true, some (0, n0), some (0, n1) => (¬ sp < 0 ∧ ¬ dp < 0 ∧ ¬ n < 0 ∧ sp.toNatClampNeg + n.toNatClampNeg ≤ n0 ∧ dp.toNatClampNeg + n.toNatClampNeg ≤ n1) ∧ P y nx lo r (am_cp σ p sp.toNatClampNeg q dp.toNatClampNeg n.toNatClampNeg) u Q
    | _, _, _ => False)
  | 303, .ref _ :: r => (match Nat.ble (am_cat r) 8 with
    | true => P y nx lo r σ u Q
    | false => False)
  | _, _ => False
noncomputable def am_inv (P0 P : am_P) (y nx : Nat) (lo : am_L) (st : List Value) (σ : am_S) (u : Nat × Nat) (Q : am_Q) (z n kind : Nat) (ts : List (Int32 × Nat)) : Prop := match Nat.ble 300 z with
  | true => am_prim P y nx lo st σ u Q z
  | false => am_call P0 P y nx lo st σ u Q z n kind ts
noncomputable def am_ldI (lo : am_L) (i : Nat) (k : Int32 → Prop) : Prop := match am_get lo i with
  | some (.int v) => k v
  | _ => False
noncomputable def am_ldJ (lo : am_L) (i : Nat) (k : Int64 → Prop) : Prop := match am_get lo i with
  | some (.long v) => k v
  | _ => False
noncomputable def am_ldA (lo : am_L) (i : Nat) (k : Nat → Prop) : Prop := match am_get lo i with
  | some (.ref v) => k v
  | _ => False
noncomputable def am_gfd (σ : am_S) (st : List Value) (a b : Nat) (k : List Value → Prop) : Prop := match st with
  | .ref p :: r => (match am_fld σ p a b with
    | some none => k (.int (am_fi σ p b) :: r)
    | some (some q) => k (.ref q :: r)
    | none => False)
  | _ => False
noncomputable def am_pfd (σ : am_S) (st : List Value) (a b : Nat) (k : List Value → am_S → Prop) : Prop := match st with
  | .int v :: .ref p :: r => (match am_nth σ.1 p with
    | some (.inl (c, fl)) => (match Nat.beq c a, am_nth fl b, am_kind a b with
      | true, some none, 0 => k r (am_si σ p b v)
      | _, _, _ => False)
    | _ => False)
  | .ref q :: .ref p :: r => (match am_nth σ.1 p with
    | some (.inl (c, fl)) => (match Nat.beq c a, am_nth fl b, am_kind a b with
      | true, some (some _), 1 => k r (am_sf σ p c fl b q)
      | _, _, _ => False)
    | _ => False)
  | _ => False
/-- an array of kind kd (or kd2) is read -/
noncomputable def am_ald (X : Nat × (Nat → Int32)) (σ : am_S) (st : List Value) (kd kd2 : Nat) (k : List Value → Prop) : Prop := match st with
  | .int j :: .ref p :: r => (match am_arr X σ p with
    | some (c, n, f) => (match (Nat.beq c kd).or (Nat.beq c kd2) with
      | true => vp_in j n ∧ k (.int (f j.toNatClampNeg) :: r)
      | false => False)
    | none => False)
  | _ => False
noncomputable def am_ast (σ : am_S) (st : List Value) (kd kd2 : Nat) (k : List Value → am_S → Prop) : Prop := match st with
  | .int v :: .int j :: .ref p :: r => (match am_arw σ p with
    | some (0, n) => (match Nat.beq 0 kd with
      | true => vp_in j n ∧ k r (am_si σ p j.toNatClampNeg v)
      | false => False)
    | some (c + 1, n) => (match (Nat.beq (c + 1) kd).or (Nat.beq (c + 1) kd2), σ.2.2.2.2 with
      | true, _ + 1 => vp_in j n ∧ k r (am_si σ p j.toNatClampNeg (vp_nar (am_tyk (c + 1)) v))
      | _, _ => False)
    | none => False)
  | _ => False
noncomputable def am_lald (σ : am_S) (st : List Value) (k : List Value → Prop) : Prop := match st with
  | .int j :: .ref p :: r => (match am_arw σ p with
    | some (4, n) => vp_in j n ∧ k (.long (am_gl σ p j.toNatClampNeg) :: r)
    | _ => False)
  | _ => False
noncomputable def am_last (σ : am_S) (st : List Value) (k : List Value → am_S → Prop) : Prop := match st with
  | .long v :: .int j :: .ref p :: r => (match am_arw σ p, σ.2.2.2.2 with
    | some (4, n), _ + 1 => vp_in j n ∧ k r (am_sl σ p j.toNatClampNeg v)
    | _, _ => False)
  | _ => False
noncomputable def am_aald (σ : am_S) (st : List Value) (k : List Value → Prop) : Prop := match st with
  | .int j :: .ref p :: r => (match am_arw σ p with
    | some (5, n) => vp_in j n ∧ ∃ q, am_gr σ p j.toNatClampNeg = some q ∧ k (.ref q :: r)
    | _ => False)
  | _ => False
noncomputable def am_aast (σ : am_S) (st : List Value) (k : List Value → am_S → Prop) : Prop := match st with
  | .ref q :: .int j :: .ref p :: r => (match am_arw σ p with
    | some (5, n) => vp_in j n ∧ am_cls σ q = 3 ∧ k r (am_sr σ p j.toNatClampNeg (some q))
    | _ => False)
  | _ => False
noncomputable def am_alen (X : Nat × (Nat → Int32)) (σ : am_S) (st : List Value) (k : List Value → Prop) : Prop := match st with
  | .ref p :: r => (match am_arr X σ p with
    | some (kd, n, _) => (match Nat.ble kd 5 with
      | true => k (.int (Int32.ofNat n) :: r)
      | false => False)
    | none => False)
  | _ => False
/-- a new object; an array; what is thrown -/
noncomputable def am_new (P : am_P) (y nx : Nat) (lo : am_L) (st : List Value) (σ : am_S) (u : Nat × Nat) (Q : am_Q) (c : Nat) : Prop := match Nat.beq c 99 with
  | true => (match σ.2.2.2.2, st with
    | _ + 1, [] => (u.1 + 1 ≤ am_bc y ∧ u.2 + 6 ≤ am_bs y) ∧ Q none σ
    | _, _ => False)
  | false => (match am_blank c, σ.2.2.2.2 with
    | some fl, 0 => (match ((Nat.ble (u.1 + 1) (am_bc y)).and (Nat.ble (u.2 + fl.length) (am_bs y))).and (Nat.ble σ.1.length 999) with
      | true => P y nx lo (.ref σ.1.length :: st) (am_nw σ (.inl (c, fl))) (u.1 + 1, u.2 + fl.length) Q
      | false => False)
    | _, _ => False)
noncomputable def am_newa (P : am_P) (y nx : Nat) (lo : am_L) (st : List Value) (σ : am_S) (u : Nat × Nat) (Q : am_Q) (kd : Nat) : Prop := match st with
  | .int n :: r => (match σ.2.2.2.2 with
    | 0 => (match (((Nat.ble (u.1 + 1) (am_bc y)).and (Nat.ble (u.2 + n.toNatClampNeg) (am_bs y))).and (Nat.ble σ.1.length 999)).and (Nat.ble n.toNatClampNeg 100000) with
      | true => ¬ n < 0 ∧ P y nx lo (.ref σ.1.length :: r) (am_nw σ (.inr (kd, n.toNatClampNeg))) (u.1 + 1, u.2 + n.toNatClampNeg) Q
      | false => False)
    | _ => False)
  | _ => False
noncomputable def am_do (X : Nat × (Nat → Int32)) (P0 P : am_P) (y : Nat) (lo : am_L) (st : List Value) (σ : am_S) (u : Nat × Nat) (Q : am_Q) : am_E → Prop
  | (i, nx, x, a, b, ts) => match i with
    | .iconst _ => P y nx lo (.int x :: st) σ u Q
    | .bipush _ => P y nx lo (.int x :: st) σ u Q
    | .sipush _ => P y nx lo (.int x :: st) σ u Q
    | .lconst _ => P y nx lo (.long x.toInt64 :: st) σ u Q
    | .ldc _ => (match a with | 0 => P y nx lo (.int x :: st) σ u Q | 1 => P y nx lo (.ref b :: st) σ u Q | _ => False)
    | .ldc_w _ => (match a with | 0 => P y nx lo (.int x :: st) σ u Q | 1 => P y nx lo (.ref b :: st) σ u Q | _ => False)
    | .ldc2_w _ => P y nx lo (.long x.toInt64 :: st) σ u Q
    | .iload_n k => am_ldI lo k.val (fun v => P y nx lo (.int v :: st) σ u Q)
    | .iload k => am_ldI lo k (fun v => P y nx lo (.int v :: st) σ u Q)
    | .lload_n k => am_ldJ lo k.val (fun v => P y nx lo (.long v :: st) σ u Q)
    | .lload k => am_ldJ lo k (fun v => P y nx lo (.long v :: st) σ u Q)
    | .aload_n k => am_ldA lo k.val (fun v => P y nx lo (.ref v :: st) σ u Q)
    | .aload k => am_ldA lo k (fun v => P y nx lo (.ref v :: st) σ u Q)
    | .istore_n k => (match st with | .int v :: r => P y nx (am_st1 lo k.val (.int v)) r σ u Q | _ => False)
    | .istore k => (match st with | .int v :: r => P y nx (am_st1 lo k (.int v)) r σ u Q | _ => False)
    | .astore_n k => (match st with | .ref v :: r => P y nx (am_st1 lo k.val (.ref v)) r σ u Q | _ => False)
    | .astore k => (match st with | .ref v :: r => P y nx (am_st1 lo k (.ref v)) r σ u Q | _ => False)
    | .lstore k => (match st with | .long v :: r => P y nx (am_st2 lo k (.long v)) r σ u Q | _ => False)
    | .iinc k _ => am_ldI lo k (fun v => P y nx (am_st1 lo k (.int (v + x))) st σ u Q)
    | .iadd => am_bin st (fun p q => p + q) (fun s => P y nx lo s σ u Q)
    | .isub => am_bin st (fun p q => p - q) (fun s => P y nx lo s σ u Q)
    | .imul => am_bin st (fun p q => p * q) (fun s => P y nx lo s σ u Q)
    | .iand => am_bin st (fun p q => p &&& q) (fun s => P y nx lo s σ u Q)
    | .ior => am_bin st (fun p q => p ||| q) (fun s => P y nx lo s σ u Q)
    | .ishl => am_bin st (fun p q => p <<< (q &&& 31)) (fun s => P y nx lo s σ u Q)
    | .ishr => am_bin st (fun p q => p >>> (q &&& 31)) (fun s => P y nx lo s σ u Q)
    | .iushr => am_bin st (fun p q => (p.toUInt32 >>> (q.toUInt32 &&& Int32.toUInt32 31)).toInt32) (fun s => P y nx lo s σ u Q)
    | .idiv => am_div st (fun p q => p / q) (fun s => P y nx lo s σ u Q)
    | .irem => am_div st (fun p q => p - p / q * q) (fun s => P y nx lo s σ u Q)
    | .i2l => am_un st (fun p => .long p.toInt64) (fun s => P y nx lo s σ u Q)
    | .i2b => am_un st (fun p => .int p.toInt8.toInt32) (fun s => P y nx lo s σ u Q)
    | .i2s => am_un st (fun p => .int p.toInt16.toInt32) (fun s => P y nx lo s σ u Q)
    | .i2c => am_un st (fun p => .int (p.toUInt32 % 65536).toInt32) (fun s => P y nx lo s σ u Q)
    | .lcmp => (match st with | .long q :: .long p :: r => P y nx lo (.int (lg_cmp p q) :: r) σ u Q | _ => False)
    | .dup => (match st with | .int v :: r => P y nx lo (.int v :: .int v :: r) σ u Q | .ref v :: r => P y nx lo (.ref v :: .ref v :: r) σ u Q | _ => False)
    | .dup2 => (match st with | .int v :: .ref w :: r => P y nx lo (.int v :: .ref w :: .int v :: .ref w :: r) σ u Q | _ => False)
    | .dup_x1 => (match st with | .int v :: .ref w :: r => P y nx lo (.int v :: .ref w :: .int v :: r) σ u Q | _ => False)
    | .pop => (match st with | .int _ :: r => P y nx lo r σ u Q | _ => False)
    | .if_icmp c _ => (match st with | .int q :: .int p :: r => am_icmp c p q (P y a lo r σ u Q) (P y nx lo r σ u Q) | _ => False)
    | .ifCond c _ => (match st with | .int p :: r => am_icmp c p 0 (P y a lo r σ u Q) (P y nx lo r σ u Q) | _ => False)
    | .goto _ => P y a lo st σ u Q
    | .tableswitch _ _ _ _ => (match st with | .int v :: r => am_sw v (fun t => P y t lo r σ u Q) a ts | _ => False)
    | .lookupswitch _ _ => (match st with | .int v :: r => am_sw v (fun t => P y t lo r σ u Q) a ts | _ => False)
    | .getfield _ => am_gfd σ st a b (fun s => P y nx lo s σ u Q)
    | .putfield _ => am_pfd σ st a b (fun s σ' => P y nx lo s σ' u Q)
    | .getstatic _ => (match a with | 0 => P y nx lo (.int x :: st) σ u Q | _ => P y nx lo (.ref b :: st) σ u Q)
    | .iaload => am_ald X σ st 0 0 (fun s => P y nx lo s σ u Q)
    | .baload => am_ald X σ st 1 3 (fun s => P y nx lo s σ u Q)
    | .caload => am_ald X σ st 2 2 (fun s => P y nx lo s σ u Q)
    | .laload => am_lald σ st (fun s => P y nx lo s σ u Q)
    | .aaload => am_aald σ st (fun s => P y nx lo s σ u Q)
    | .iastore => am_ast σ st 0 0 (fun s σ' => P y nx lo s σ' u Q)
    | .bastore => am_ast σ st 1 3 (fun s σ' => P y nx lo s σ' u Q)
    | .castore => am_ast σ st 2 2 (fun s σ' => P y nx lo s σ' u Q)
    | .lastore => am_last σ st (fun s σ' => P y nx lo s σ' u Q)
    | .aastore => am_aast σ st (fun s σ' => P y nx lo s σ' u Q)
    | .arraylength => am_alen X σ st (fun s => P y nx lo s σ u Q)
    | .new _ => am_new P y nx lo st σ u Q a
    | .newarray _ => am_newa P y nx lo st σ u Q a
    | .anewarray _ => am_newa P y nx lo st σ u Q a
    | .invokevirtual _ => am_inv P0 P y nx lo st σ u Q a b 0 ts
    | .invokespecial _ => am_inv P0 P y nx lo st σ u Q a b 1 ts
    | .invokestatic _ => am_inv P0 P y nx lo st σ u Q a b 2 ts
    | .ireturn => (match st with
      | [.int v] => (match am_rk y with | 3 => (v = 0 ∨ v = 1) ∧ Q (some (some (.int v))) σ | _ => Q (some (some (.int v))) σ)
      | _ => False)
    | .lreturn => (match st with | [.long v] => Q (some (some (.long v))) σ | _ => False)
    | .return_ => (match st with | [] => Q (some none) σ | _ => False)
    | _ => False
noncomputable def am_step (X : Nat × (Nat → Int32)) (P0 P : am_P) : am_P := fun y pc lo st σ u Q => match am_at y pc with
  | some e => am_do X P0 P y lo st σ u Q e
  | none => False
/-- fewer locals are known -/
def am_le (lo' lo : am_L) : Prop := lo'.length = lo.length ∧ ∀ i v, am_get lo' i = some v → am_get lo i = some v
def am_F (X : Nat × (Nat → Int32)) (P : am_P) : am_P := fun y pc lo st σ u Q => am_step X P P y pc lo st σ u Q ∨ (∃ lo', am_le lo' lo ∧ P y pc lo' st σ u Q) ∨ P y pc lo st (am_gb σ) u Q
/-- from here the abstract machine comes to an end with Q -/
def am_T (X : Nat × (Nat → Int32)) : am_P := fun y pc lo st σ u Q => ∀ P : am_P, (∀ y pc lo st σ u Q, am_F X P y pc lo st σ u Q → P y pc lo st σ u Q) → P y pc lo st σ u Q
