/-! THE FIRST STATE: what both constructors leave -/
/-- a book's ints at first, by the cell's place in it -/
def bkI (o : Nat) : Nat → Int32 := if o = 8 then flN (fun _ => 0) (-4) 32 else if o = 13 then flN (fun _ => 0) (-1) 16 else if o = 0 then fun k => if k = 7 then nI 1 else 0 else fun _ => 0
def S00i (a : Nat) : Nat → Int32 :=
  if a = 0 then fun _ => 0
  else if a < 17 then bkI (a - 1)
  else if a < 19 then fun _ => 0
  else if a < 115 then bkI ((a - 19) % 16)
  else if a < 131 then bkI (a - 115)
  else if a < 133 then fun _ => 0
  else if a < 229 then bkI ((a - 133) % 16)
  else if a < 237 then fun _ => 0
  else if a < 245 then fun k => if k = 1 then -1 else 0
  else if a = 245 then fun k => if k = 13 then -1 else 0
  else if a = 246 then upd (fun _ => 0) 3 (nI 1)
  else if a = 255 then (upd (upd (upd (upd (fun _ => 0) 0 (-1)) 1 (-1)) 2 (-1)) 3 (-1))
  else fun _ => 0
def S00 : zS := (S00i, fun _ _ => 0)
abbrev w8 : List va_E := zN [.inr (8, [.null, .null, .null, .null, .int 0, .null, .null, .null, .null])] 0 (obX8_init 1) (LxX8_init 1)
set_option maxRecDepth 100000 in
theorem book_1 : (List.range' 1 16).map (zcell S00) = bk 1 := rfl
theorem w8_len : w8.length = 245 := by
  show (zN _ 0 (obX8_init 1) (SL 1 4)).length = 245
  rw [zN_len, SL_len]
  rfl
/-- an array's references, told by a list or by a rule -/
theorem ids_pf (n : Nat) : (fun j => [n + 1, n + 17, n + 33, n + 49, n + 65, n + 81][j]?) = pf n 6 := funext fun j => by
  by_cases h : j < 6
  · rcases (by omega : j = 0 ∨ j = 1 ∨ j = 2 ∨ j = 3 ∨ j = 4 ∨ j = 5) with rfl | rfl | rfl | rfl | rfl | rfl <;> rfl
  · unfold pf
    rw [if_neg h]
    exact List.getElem?_eq_none (by show 6 ≤ j; omega)
theorem ids_sf (n : Nat) : (fun j => [n + 236, n + 238, n + 240, n + 242][j]?) = sf n 4 := funext fun j => by
  by_cases h : j < 4
  · rcases (by omega : j = 0 ∨ j = 1 ∨ j = 2 ∨ j = 3) with rfl | rfl | rfl | rfl <;> rfl
  · unfold sf
    rw [if_neg h]
    exact List.getElem?_eq_none (by show 4 ≤ j; omega)
theorem MW00 : MW (S00.1 246) D00 := by
  refine ⟨⟨⟨rfl, rfl, rfl, rfl⟩, fun m w hm hw => ?_, fun k hk => absurd hk (Nat.not_lt_zero k), fun i hi => absurd hi (Nat.not_lt_zero i)⟩, ?_⟩
  · show upd (fun _ => 0) 3 (nI 1) (4 + 6 * m + w) = nI (D00 (mfld w) m)
    rw [pk_un (by omega), D00_f (by have := mfld_lt (w := w); omega)]
    rfl
  · refine ⟨Nat.zero_le _, Nat.zero_le _, Nat.zero_le _, fun m hm => ?_, fun k hk => absurd hk (Nat.not_lt_zero k), fun i hi => absurd hi (Nat.not_lt_zero i)⟩
    rw [D00_f (f := 0) (by decide), D00_f (f := 1) (by decide), D00_f (f := 2) (by decide)]
    exact ⟨(by decide : (0 : Nat) < 32), (by decide : (0 : Nat) < 3), (by decide : (0 : Nat) < 2)⟩
theorem MG00 : MG S00 G00 := ⟨MW00, ⟨rfl, Nat.zero_le _, fun j hj => absurd hj (Nat.not_lt_zero j)⟩, ⟨fun _ => rfl, fun q => absurd (show false = true from q) (by decide)⟩, ⟨rfl, Nat.zero_le _, fun i hi => absurd hi (Nat.not_lt_zero i)⟩, fun t ht => ⟨by rcases (by omega : t = 0 ∨ t = 1 ∨ t = 2 ∨ t = 3) with rfl | rfl | rfl | rfl <;> rfl, Nat.zero_le _, fun q => absurd rfl q⟩⟩
theorem CR00 : CR S00 D00 := by
  refine ⟨⟨fun m hm => rfl, fun v h1 h2 => ?_, ?_⟩, ⟨rfl, fun k hk => absurd hk (Nat.not_lt_zero k)⟩, fun v h1 h2 => ?_, ⟨rfl, fun i hi => absurd hi (Nat.not_lt_zero i)⟩, ⟨rfl, rfl, rfl⟩, ⟨rfl, rfl⟩, fun m hm => ?_, fun m hm h => absurd rfl h, fun m hm h => absurd rfl h⟩
  · rw [D00_f (by decide), sm_none]; rfl
  · intro m hm; exact (by decide : (0 : Nat) < 32)
  · show flN (fun _ => 0) (-4) 32 v = kof (D00 0) D00 v
    rw [kof, D00_f (by decide), if_pos (sm_none v)]
    exact if_pos h2
  · show flN (fun _ => 0) (-1) 16 m = caI (D00 4 m)
    exact if_pos hm
theorem CG00 : CG S00 G00 := ⟨CR00, ⟨rfl, Nat.zero_le _, 0, by decide, rfl, fun j hj => absurd hj (Nat.not_lt_zero j)⟩, ⟨rfl, fun q => absurd (show false = true from q) (by decide)⟩, ⟨rfl, Nat.zero_le _, fun i hi => absurd hi (Nat.not_lt_zero i)⟩, fun t ht => by
  rcases (by omega : t = 0 ∨ t = 1 ∨ t = 2 ∨ t = 3) with rfl | rfl | rfl | rfl <;> exact ⟨rfl, rfl, Nat.zero_le _, Nat.zero_le _, fun k hk => absurd hk (Nat.not_lt_zero k)⟩⟩
