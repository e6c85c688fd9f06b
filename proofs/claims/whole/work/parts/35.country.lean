/-! ===== which country ===== -/
section Cty
variable {X : Nat × (Nat → Int32)} {M : Nat → Nat → Int32} {L : Nat → Nat → Int64} {G : Nat → Nat → Option Nat} {Q : am_Q}
theorem ct_isCountry_y {c : Nat} (hc : c < 5) (hQ : Q (some (some (.int 1))) (jm_s M L G)) : am_T X 103 0 [some (.int (nI c))] [] (jm_s M L G) (0, 0) Q :=
  rg_X5_isCountry_0 ⟨fun h => absurd h (nI_pos (by omega)), fun _ => ⟨fun h => absurd h (nI_ge hc (by decide)), fun _ => ⟨Or.inr rfl, hQ⟩⟩⟩
theorem ct_isCountry_n {x : Int32} (hx : x < 0 ∨ 5 ≤ x) (hQ : Q (some (some (.int 0))) (jm_s M L G)) : am_T X 103 0 [some (.int x)] [] (jm_s M L G) (0, 0) Q :=
  rg_X5_isCountry_0 ⟨fun _ => ⟨Or.inl rfl, hQ⟩, fun h => ⟨fun _ => ⟨Or.inl rfl, hQ⟩, fun h2 => absurd hx (fun h3 => h3.elim h h2)⟩⟩
theorem ct_isMonth_y {m : Nat} (hm : m < 360) (hQ : Q (some (some (.int 1))) (jm_s M L G)) : am_T X 101 0 [some (.int (nI m))] [] (jm_s M L G) (0, 0) Q :=
  rg_X5_isMonth_0 ⟨fun h => absurd h (nI_pos (by omega)), fun _ => ⟨fun h => absurd h (nI_ge hm (by decide)), fun _ => ⟨Or.inr rfl, hQ⟩⟩⟩
theorem ct_isMonth_n {x : Int32} (hx : x < 0 ∨ 360 ≤ x) (hQ : Q (some (some (.int 0))) (jm_s M L G)) : am_T X 101 0 [some (.int x)] [] (jm_s M L G) (0, 0) Q :=
  rg_X5_isMonth_0 ⟨fun _ => ⟨Or.inl rfl, hQ⟩, fun h => ⟨fun _ => ⟨Or.inl rfl, hQ⟩, fun h2 => absurd hx (fun h3 => h3.elim h h2)⟩⟩
end Cty
