/-! ===== the memory once the constructors are through (written by wip/gen/gen_reg.py) ===== -/
noncomputable def am_SH : List am_Sh := [.inl (5, [some (some 1), some (some 3), some (some 5), some (some 10), some (some 15), some (some 31), some (some 47), none, some (some 88), some (some 99), some (some 100)]),
  .inl (4, [some (some 2), none, none, none]),
  .inr (2, 80),
  .inl (2, [some (some 4), none]),
  .inr (4, 120),
  .inl (3, [none, some (some 9), some (some 6), some (some 7), some (some 8), none, none]),
  .inr (0, 20),
  .inr (0, 4),
  .inr (0, 30),
  .inr (0, 100),
  .inl (3, [none, some (some 14), some (some 11), some (some 12), some (some 13), none, none]),
  .inr (0, 20),
  .inr (0, 4),
  .inr (0, 30),
  .inr (0, 220),
  .inl (0, [some (some 16), some (some 24), some (some 25), some (some 26), some (some 27), some (some 28), some (some 29), some (some 30), none, none, none, none, none]),
  .inl (1, [some (some 17), some (some 18), some (some 19), some (some 20), some (some 21), some (some 22), some (some 23), none]),
  .inr (0, 360),
  .inr (0, 360),
  .inr (0, 360),
  .inr (0, 360),
  .inr (0, 360),
  .inr (0, 44),
  .inr (0, 44),
  .inr (0, 5),
  .inr (0, 5),
  .inr (0, 5),
  .inr (0, 5),
  .inr (0, 5),
  .inr (0, 5),
  .inr (0, 5),
  .inl (0, [some (some 32), some (some 40), some (some 41), some (some 42), some (some 43), some (some 44), some (some 45), some (some 46), none, none, none, none, none]),
  .inl (1, [some (some 33), some (some 34), some (some 35), some (some 36), some (some 37), some (some 38), some (some 39), none]),
  .inr (0, 360),
  .inr (0, 360),
  .inr (0, 360),
  .inr (0, 360),
  .inr (0, 360),
  .inr (0, 44),
  .inr (0, 44),
  .inr (0, 5),
  .inr (0, 5),
  .inr (0, 5),
  .inr (0, 5),
  .inr (0, 5),
  .inr (0, 5),
  .inr (0, 5),
  .inr (5, 8),
  .inl (3, [none, some (some 52), some (some 49), some (some 50), some (some 51), none, none]),
  .inr (0, 20),
  .inr (0, 4),
  .inr (0, 30),
  .inr (0, 100),
  .inl (3, [none, some (some 57), some (some 54), some (some 55), some (some 56), none, none]),
  .inr (0, 20),
  .inr (0, 4),
  .inr (0, 30),
  .inr (0, 100),
  .inl (3, [none, some (some 62), some (some 59), some (some 60), some (some 61), none, none]),
  .inr (0, 20),
  .inr (0, 4),
  .inr (0, 30),
  .inr (0, 100),
  .inl (3, [none, some (some 67), some (some 64), some (some 65), some (some 66), none, none]),
  .inr (0, 20),
  .inr (0, 4),
  .inr (0, 30),
  .inr (0, 100),
  .inl (3, [none, some (some 72), some (some 69), some (some 70), some (some 71), none, none]),
  .inr (0, 20),
  .inr (0, 4),
  .inr (0, 30),
  .inr (0, 100),
  .inl (3, [none, some (some 77), some (some 74), some (some 75), some (some 76), none, none]),
  .inr (0, 20),
  .inr (0, 4),
  .inr (0, 30),
  .inr (0, 100),
  .inl (3, [none, some (some 82), some (some 79), some (some 80), some (some 81), none, none]),
  .inr (0, 20),
  .inr (0, 4),
  .inr (0, 30),
  .inr (0, 100),
  .inl (3, [none, some (some 87), some (some 84), some (some 85), some (some 86), none, none]),
  .inr (0, 20),
  .inr (0, 4),
  .inr (0, 30),
  .inr (0, 100),
  .inr (5, 2),
  .inl (3, [none, some (some 93), some (some 90), some (some 91), some (some 92), none, none]),
  .inr (0, 20),
  .inr (0, 4),
  .inr (0, 30),
  .inr (0, 100),
  .inl (3, [none, some (some 98), some (some 95), some (some 96), some (some 97), none, none]),
  .inr (0, 20),
  .inr (0, 4),
  .inr (0, 30),
  .inr (0, 100),
  .inr (3, 2),
  .inr (0, 20),
  .inl (6, [some (some 102), some (some 103), none, some (some 104), none, none, none, none, none, some (some 105), some (some 106), some (some 107), some (some 108), some (some 109), some (some 110), none, some (some 111), some (some 112), some (some 113), some (some 114), some (some 115), some (some 116), none, some (some 117), some (some 118), some (some 119), some (some 120), none, none, some (some 121), some (some 122)]),
  .inr (0, 277),
  .inr (1, 80),
  .inr (4, 160),
  .inr (0, 640),
  .inr (0, 360),
  .inr (0, 360),
  .inr (0, 360),
  .inr (0, 360),
  .inr (0, 360),
  .inr (0, 360),
  .inr (0, 360),
  .inr (0, 277),
  .inr (0, 360),
  .inr (0, 360),
  .inr (0, 360),
  .inr (0, 20),
  .inr (0, 4),
  .inr (0, 2216),
  .inr (0, 277),
  .inr (0, 554),
  .inr (3, 2),
  .inr (4, 1)]
noncomputable abbrev jm_s (M : Nat → Nat → Int32) (L : Nat → Nat → Int64) (G : Nat → Nat → Option Nat) : am_S := (am_SH, M, L, G, 1)
/-- ints, longs, references written; a row of ints copied -/
def wi_m (M : Nat → Nat → Int32) (p i : Nat) (v : Int32) : Nat → Nat → Int32 := va_up M p (upd (M p) i v)
def wl_m (L : Nat → Nat → Int64) (p i : Nat) (v : Int64) : Nat → Nat → Int64 := va_up L p (vp_updL (L p) i v)
def wr_m (G : Nat → Nat → Option Nat) (p i : Nat) (v : Option Nat) : Nat → Nat → Option Nat := va_up G p (va_up (G p) i v)
def wc_m (M : Nat → Nat → Int32) (s sp d dp n : Nat) : Nat → Nat → Int32 := va_up M d (va_cpy (M s) (M d) sp dp n)
noncomputable def am_ka (p i : Nat) : Int32 := match am_look am_KA p with
  | some (_, l) => l.getD i 0
  | none => 0
def am_ushr (p q : Int32) : Int32 := (p.toUInt32 >>> (q.toUInt32 &&& Int32.toUInt32 31)).toInt32
def am_rem (p q : Int32) : Int32 := p - p / q * q
def am_i2c (p : Int32) : Int32 := (p.toUInt32 % 65536).toInt32
theorem wi_m_eq (M : Nat → Nat → Int32) (p i : Nat) (v : Int32) (q j : Nat) : wi_m M p i v q j = if q = p then (if j = i then v else M q j) else M q j := by
  unfold wi_m va_up upd
  by_cases h : q = p
  · subst h; simp
  · simp [h]
theorem wl_m_eq (L : Nat → Nat → Int64) (p i : Nat) (v : Int64) (q j : Nat) : wl_m L p i v q j = if q = p then (if j = i then v else L q j) else L q j := by
  unfold wl_m va_up vp_updL
  by_cases h : q = p
  · subst h; simp
  · simp [h]
theorem wr_m_eq (G : Nat → Nat → Option Nat) (p i : Nat) (v : Option Nat) (q j : Nat) : wr_m G p i v q j = if q = p then (if j = i then v else G q j) else G q j := by
  unfold wr_m va_up
  by_cases h : q = p
  · subst h; simp
  · simp [h]
theorem wc_m_eq (M : Nat → Nat → Int32) (s sp d dp n q j : Nat) : wc_m M s sp d dp n q j = if q = d then (if dp ≤ j ∧ j < dp + n then M s (sp + (j - dp)) else M q j) else M q j := by
  unfold wc_m va_up va_cpy
  by_cases h : q = d
  · subst h; simp
  · simp [h]
