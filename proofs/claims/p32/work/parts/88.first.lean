/-! THE FIRST STATE: what the constructor leaves, and its cells -/
/-- a book's ints at first, by the cell's place in it -/
def bkI (o : Nat) : Nat → Int32 := if o = 8 then flN (fun _ => 0) (-4) 32 else if o = 13 then flN (fun _ => 0) (-1) 16 else if o = 0 then fun k => if k = 7 then nI 1 else 0 else fun _ => 0
def S00i (a : Nat) : Nat → Int32 :=
  if a = 0 then fun _ => 0
  else if a < 17 then bkI (a - 1)
  else if a < 19 then fun _ => 0
  else if a < 115 then bkI ((a - 19) % 16)
  else if a < 131 then bkI (a - 115)
  else if a < 133 then fun _ => 0
  else if a < 229 then bkI ((a - 133) % 16)
  else if a < 237 then fun _ => 0
  else if a < 245 then fun k => if k = 1 then -1 else 0
  else fun _ => 0
def S00 : zS := (S00i, fun _ _ => 0)
abbrev w8 : List va_E := zN [.inr (8, [.null, .null, .null, .null, .int 0, .null, .null, .null, .null])] 0 (obX8_init 1) (LxX8_init 1)
set_option maxRecDepth 100000 in
theorem book_1 : (List.range' 1 16).map (zcell S00) = bk 1 := rfl
theorem w8_len : w8.length = 245 := by
  show (zN _ 0 (obX8_init 1) (SL 1 4)).length = 245
  rw [zN_len, SL_len]
  rfl
/-- an array's references, told by a list or by a rule -/
theorem ids_pf (n : Nat) : (fun j => [n + 1, n + 17, n + 33, n + 49, n + 65, n + 81][j]?) = pf n 6 := funext fun j => by
  by_cases h : j < 6
  · rcases (by omega : j = 0 ∨ j = 1 ∨ j = 2 ∨ j = 3 ∨ j = 4 ∨ j = 5) with rfl | rfl | rfl | rfl | rfl | rfl <;> rfl
  · unfold pf
    rw [if_neg h]
    exact List.getElem?_eq_none (by show 6 ≤ j; omega)
theorem ids_sf (n : Nat) : (fun j => [n + 236, n + 238, n + 240, n + 242][j]?) = sf n 4 := funext fun j => by
  by_cases h : j < 4
  · rcases (by omega : j = 0 ∨ j = 1 ∨ j = 2 ∨ j = 3) with rfl | rfl | rfl | rfl <;> rfl
  · unfold sf
    rw [if_neg h]
    exact List.getElem?_eq_none (by show 4 ≤ j; omega)
theorem CR00 : CR S00 D00 := by
  refine ⟨⟨fun m hm => rfl, fun v h1 h2 => ?_, ?_⟩, ⟨rfl, fun k hk => absurd hk (Nat.not_lt_zero k)⟩, fun v h1 h2 => ?_, ⟨rfl, fun i hi => absurd hi (Nat.not_lt_zero i)⟩, ⟨rfl, rfl, rfl⟩, ⟨rfl, rfl⟩, fun m hm => ?_, fun m hm h => absurd rfl h, fun m hm h => absurd rfl h⟩
  · rw [D00_f (by decide), sm_none]; rfl
  · intro m hm; exact (by decide : (0 : Nat) < 32)
  · show flN (fun _ => 0) (-4) 32 v = kof (D00 0) D00 v
    rw [kof, D00_f (by decide), if_pos (sm_none v)]
    exact if_pos h2
  · show flN (fun _ => 0) (-1) 16 m = caI (D00 4 m)
    exact if_pos hm
theorem CG00 : CG S00 G00 := ⟨CR00, ⟨rfl, Nat.zero_le _, 0, by decide, rfl, fun j hj => absurd hj (Nat.not_lt_zero j)⟩, ⟨rfl, fun q => absurd (show false = true from q) (by decide)⟩, ⟨rfl, Nat.zero_le _, fun i hi => absurd hi (Nat.not_lt_zero i)⟩, fun t ht => by
  rcases (by omega : t = 0 ∨ t = 1 ∨ t = 2 ∨ t = 3) with rfl | rfl | rfl | rfl <;> exact ⟨rfl, rfl, Nat.zero_le _, Nat.zero_le _, fun k hk => absurd hk (Nat.not_lt_zero k)⟩⟩

def shOK (n : Nat) : zTm → Bool
  | .inl (_, fl) => fl.all (fun o => match o with | some r => decide (r < n) | none => true)
  | .inr (.inl _) => true
  | .inr (.inr (_, ids)) => ids.all (fun r => decide (r < n))
theorem zeb_cell {S : zS} {a n : Nat} (h : shOK n (zsh a) = true) : zeb n (zcell S a) := by
  unfold zcell
  generalize zsh a = x at h ⊢
  rcases x with ⟨ci, fl⟩ | ⟨t, m⟩ | ⟨t, ids⟩
  · refine zeb_o (fun v hv => ?_)
    obtain ⟨i, hi, rfl⟩ := List.mem_mapIdx.mp hv
    have h2 := List.all_eq_true.mp (show fl.all _ = true from h) _ (List.getElem_mem hi)
    generalize fl[i] = o at h2 ⊢
    cases o with
    | none => trivial
    | some r => exact (show r < n from of_decide_eq_true (p := r < n) h2)
  · show zeb n (if t = 1 then .inl (1, m, .inr (.inl (S.2 a))) else .inl (t, m, .inl (S.1 a)))
    split
    · exact zeb_l
    · exact zeb_i
  · refine zeb_q (fun j x hj hx => ?_)
    exact of_decide_eq_true (List.all_eq_true.mp (show ids.all _ = true from h) x (List.mem_of_getElem? hx))
theorem zBd_cells {S : zS} {n k : Nat} (h : (List.range k).all (fun a => shOK n (zsh a)) = true) : zBd n ((List.range k).map (zcell S)) := fun e he => by
  obtain ⟨a, ha, rfl⟩ := List.mem_map.mp he
  exact zeb_cell (List.all_eq_true.mp h a ha)
theorem shOK245 : (List.range 245).all (fun a => shOK 245 (zsh a)) = true := by decide +kernel
/-- the first cells of KeyTrees, up to the row of sheets -/
def KA (n : Nat) : List va_E := (((((([] : List va_E) ++ (obX0_init (n + (0 + 1)) :: LxX0_init (n + (0 + 1)))) ++ (obX3_init (n + (16 + 1)) :: LxX3_init (n + (16 + 1)))) ++ (obX0_init (n + (114 + 1)) :: LxX0_init (n + (114 + 1)))) ++ (obX3_init (n + (130 + 1)) :: LxX3_init (n + (130 + 1)))) ++ (obX7_init (n + (228 + 1)) :: LxX7_init (n + (228 + 1))))
def KB (n : Nat) : List va_E := (obX5_init (n + (231 + 1)) :: LxX5_init (n + (231 + 1))) ++ (obX4_init (n + (234 + 1)) :: LxX4_init (n + (234 + 1)))
theorem KL_eq (n : Nat) : KL n = KA n ++ ([zqa 5 4 (fun _ => none)] ++ KB n) := by
  unfold KL KB
  rw [← List.append_assoc, ← List.append_assoc]
  rfl
theorem set_mid {α : Type} {A B : List α} {x y : α} {i : Nat} (h : A.length = i) : (A ++ (y :: B)).set i x = A ++ (x :: B) := by
  subst h
  rw [List.set_append_right _ _ (Nat.le_refl _), Nat.sub_self]
  rfl
theorem KA_len (n : Nat) : (KA n).length = 230 := by
  have h := KL_len n
  rw [KL_eq, List.length_append, List.length_append] at h
  have h2 : (KB n).length = 5 := rfl
  rw [h2] at h
  have h3 : [zqa 5 4 (fun _ => none)].length = 1 := rfl
  rw [h3] at h
  omega
theorem SL_eq (n : Nat) : SL n 4 = KA n ++ (zqa 5 4 (sf n 4) :: (KB n ++ shs n 4)) := by
  unfold SL
  rw [KL_eq, List.append_assoc, List.append_assoc]
  exact set_mid (KA_len n)
set_option maxRecDepth 100000 in
theorem cs1 : (List.range' 1 16).map (zcell S00) = obX0_init 2 :: LxX0_init 2 := rfl
set_option maxRecDepth 100000 in
theorem cs17 : zcell S00 17 = obX3_init 18 := rfl
theorem cs18 : zcell S00 18 = zqa 4 6 (pf 18 6) := congrArg (zqa 4 6) (ids_pf 18)
set_option maxRecDepth 100000 in
theorem cs19 : (List.range' 19 96).map (zcell S00) = bks 19 6 := rfl
set_option maxRecDepth 100000 in
theorem cs115 : (List.range' 115 16).map (zcell S00) = obX0_init 116 :: LxX0_init 116 := rfl
set_option maxRecDepth 100000 in
theorem cs131 : zcell S00 131 = obX3_init 132 := rfl
theorem cs132 : zcell S00 132 = zqa 4 6 (pf 132 6) := congrArg (zqa 4 6) (ids_pf 132)
set_option maxRecDepth 100000 in
theorem cs133 : (List.range' 133 96).map (zcell S00) = bks 133 6 := rfl
set_option maxRecDepth 100000 in
theorem cs229 : (List.range' 229 2).map (zcell S00) = obX7_init 230 :: LxX7_init 230 := rfl
theorem cs231 : zcell S00 231 = zqa 5 4 (sf 1 4) := congrArg (zqa 5 4) (ids_sf 1)
set_option maxRecDepth 100000 in
theorem cs232 : (List.range' 232 13).map (zcell S00) = KB 1 ++ shs 1 4 := rfl
theorem r245 : List.range 245 = [0] ++ (((((List.range' 1 16 ++ (17 :: 18 :: List.range' 19 96)) ++ List.range' 115 16) ++ (131 :: 132 :: List.range' 133 96)) ++ List.range' 229 2) ++ (231 :: List.range' 232 13)) := by decide +kernel
theorem KA1 : KA 1 = (((((obX0_init 2 :: LxX0_init 2) ++ (obX3_init 18 :: zqa 4 6 (pf 18 6) :: bks 19 6)) ++ (obX0_init 116 :: LxX0_init 116)) ++ (obX3_init 132 :: zqa 4 6 (pf 132 6) :: bks 133 6)) ++ (obX7_init 230 :: LxX7_init 230)) := by
  unfold KA
  rw [List.nil_append]
theorem w8_cells : w8 = (List.range 245).map (zcell S00) := by
  show obX8_init 1 :: SL 1 4 = _
  rw [r245, SL_eq, KA1]
  simp only [List.map_append, List.map_cons, List.map_nil, cs1, cs17, cs18, cs19, cs115, cs131, cs132, cs133, cs229, cs231, cs232]
  rfl
theorem w8_bd : zBd 245 w8 := by
  rw [w8_cells]
  exact zBd_cells shOK245
theorem zBd245 (S : zS) : zBd 245 (zcells S) := zBd_cells shOK245
theorem WS00 : WS D00 := by
  have e0 : D00 0 = fun _ => 0 := D00_f (by decide)
  refine ⟨INV00, ⟨fun k q m hm _ => ?_, fun i hi => ?_, fun m hm q => ?_, fun m hm q => ?_⟩, fun m hm => ?_, fun m hm => ?_⟩
  · exact absurd q.1 (Nat.not_lt_zero _)
  · exact absurd hi (Nat.not_lt_zero _)
  · exact absurd (congrFun e0 m) q.1
  · exact absurd (congrFun e0 m) q
  · rw [D00_f (by decide)]
  · rw [D00_f (by decide)]
theorem lvI00 (c : Nat) : lvI c 0 D00 := by
  have e0 : D00 0 = fun _ => 0 := D00_f (by decide)
  refine ⟨WS00, by rw [e0]; exact LV.none, rfl, Nat.le_refl _, Nat.le_refl _, fun h => absurd h (Nat.not_lt_zero _), ?_, fun j hj q => absurd (congrFun e0 j) q⟩
  rw [e0, sm_none]
  decide
