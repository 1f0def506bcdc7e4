/-! THE FIRST STATE'S CELLS are what both constructors made, in the order of coming -/
def shOK (n : Nat) : zTm → Bool
  | .inl (_, fl) => fl.all (fun o => match o with | some r => decide (r < n) | none => true)
  | .inr (.inl _) => true
  | .inr (.inr (_, ids)) => ids.all (fun r => decide (r < n))
theorem zeb_cell {S : zS} {a n : Nat} (h : shOK n (zsh a) = true) : zeb n (zcell S a) := by
  unfold zcell
  generalize zsh a = x at h ⊢
  rcases x with ⟨ci, fl⟩ | ⟨t, m⟩ | ⟨t, ids⟩
  · refine zeb_o (fun v hv => ?_)
    obtain ⟨i, hi, rfl⟩ := List.mem_mapIdx.mp hv
    have h2 := List.all_eq_true.mp (show fl.all _ = true from h) _ (List.getElem_mem hi)
    generalize fl[i] = o at h2 ⊢
    cases o with
    | none => trivial
    | some r => exact (show r < n from of_decide_eq_true (p := r < n) h2)
  · show zeb n (if t = 1 then .inl (1, m, .inr (.inl (S.2 a))) else .inl (t, m, .inl (S.1 a)))
    split
    · exact zeb_l
    · exact zeb_i
  · refine zeb_q (fun j x hj hx => ?_)
    exact of_decide_eq_true (List.all_eq_true.mp (show ids.all _ = true from h) x (List.mem_of_getElem? hx))
theorem zBd_cells {S : zS} {n k : Nat} (h : (List.range k).all (fun a => shOK n (zsh a)) = true) : zBd n ((List.range k).map (zcell S)) := fun e he => by
  obtain ⟨a, ha, rfl⟩ := List.mem_map.mp he
  exact zeb_cell (List.all_eq_true.mp h a ha)
theorem shOK245 : (List.range 245).all (fun a => shOK 245 (zsh a)) = true := by decide +kernel
theorem shOK260 : (List.range 260).all (fun a => shOK 260 (zsh a)) = true := by decide +kernel
/-- the first cells of KeyTrees, up to the row of sheets -/
def KA (n : Nat) : List va_E := (((((([] : List va_E) ++ (obX0_init (n + (0 + 1)) :: LxX0_init (n + (0 + 1)))) ++ (obX3_init (n + (16 + 1)) :: LxX3_init (n + (16 + 1)))) ++ (obX0_init (n + (114 + 1)) :: LxX0_init (n + (114 + 1)))) ++ (obX3_init (n + (130 + 1)) :: LxX3_init (n + (130 + 1)))) ++ (obX7_init (n + (228 + 1)) :: LxX7_init (n + (228 + 1))))
def KB (n : Nat) : List va_E := (obX5_init (n + (231 + 1)) :: LxX5_init (n + (231 + 1))) ++ (obX4_init (n + (234 + 1)) :: LxX4_init (n + (234 + 1)))
theorem KL_eq (n : Nat) : KL n = KA n ++ ([zqa 5 4 (fun _ => none)] ++ KB n) := by
  unfold KL KB
  rw [← List.append_assoc, ← List.append_assoc]
  rfl
theorem set_mid {α : Type} {A B : List α} {x y : α} {i : Nat} (h : A.length = i) : (A ++ (y :: B)).set i x = A ++ (x :: B) := by
  subst h
  rw [List.set_append_right _ _ (Nat.le_refl _), Nat.sub_self]
  rfl
theorem KA_len (n : Nat) : (KA n).length = 230 := by
  have h := KL_len n
  rw [KL_eq, List.length_append, List.length_append] at h
  have h2 : (KB n).length = 5 := rfl
  rw [h2] at h
  have h3 : [zqa 5 4 (fun _ => none)].length = 1 := rfl
  rw [h3] at h
  omega
theorem SL_eq (n : Nat) : SL n 4 = KA n ++ (zqa 5 4 (sf n 4) :: (KB n ++ shs n 4)) := by
  unfold SL
  rw [KL_eq, List.append_assoc, List.append_assoc]
  exact set_mid (KA_len n)
set_option maxRecDepth 100000 in
theorem cs1 : (List.range' 1 16).map (zcell S00) = obX0_init 2 :: LxX0_init 2 := rfl
set_option maxRecDepth 100000 in
theorem cs17 : zcell S00 17 = obX3_init 18 := rfl
theorem cs18 : zcell S00 18 = zqa 4 6 (pf 18 6) := congrArg (zqa 4 6) (ids_pf 18)
set_option maxRecDepth 100000 in
theorem cs19 : (List.range' 19 96).map (zcell S00) = bks 19 6 := rfl
set_option maxRecDepth 100000 in
theorem cs115 : (List.range' 115 16).map (zcell S00) = obX0_init 116 :: LxX0_init 116 := rfl
set_option maxRecDepth 100000 in
theorem cs131 : zcell S00 131 = obX3_init 132 := rfl
theorem cs132 : zcell S00 132 = zqa 4 6 (pf 132 6) := congrArg (zqa 4 6) (ids_pf 132)
set_option maxRecDepth 100000 in
theorem cs133 : (List.range' 133 96).map (zcell S00) = bks 133 6 := rfl
set_option maxRecDepth 100000 in
theorem cs229 : (List.range' 229 2).map (zcell S00) = obX7_init 230 :: LxX7_init 230 := rfl
theorem cs231 : zcell S00 231 = zqa 5 4 (sf 1 4) := congrArg (zqa 5 4) (ids_sf 1)
set_option maxRecDepth 100000 in
theorem cs232 : (List.range' 232 13).map (zcell S00) = KB 1 ++ shs 1 4 := rfl
set_option maxRecDepth 100000 in
theorem cs245 : (List.range' 245 15).map (zcell S00) = obX9_init 246 :: LxX9_init 246 := rfl
theorem r245 : List.range 245 = [0] ++ (((((List.range' 1 16 ++ (17 :: 18 :: List.range' 19 96)) ++ List.range' 115 16) ++ (131 :: 132 :: List.range' 133 96)) ++ List.range' 229 2) ++ (231 :: List.range' 232 13)) := by decide +kernel
theorem r260 : List.range 260 = List.range 245 ++ List.range' 245 15 := by decide +kernel
theorem KA1 : KA 1 = (((((obX0_init 2 :: LxX0_init 2) ++ (obX3_init 18 :: zqa 4 6 (pf 18 6) :: bks 19 6)) ++ (obX0_init 116 :: LxX0_init 116)) ++ (obX3_init 132 :: zqa 4 6 (pf 132 6) :: bks 133 6)) ++ (obX7_init 230 :: LxX7_init 230)) := by
  unfold KA
  rw [List.nil_append]
theorem w8_cells : w8 = (List.range 245).map (zcell S00) := by
  show obX8_init 1 :: SL 1 4 = _
  rw [r245, SL_eq, KA1]
  simp only [List.map_append, List.map_cons, List.map_nil, cs1, cs17, cs18, cs19, cs115, cs131, cs132, cs133, cs229, cs231, cs232]
  rfl
theorem w8_bd : zBd 245 w8 := by
  rw [w8_cells]
  exact zBd_cells shOK245
abbrev fs9 : List Value := [.null, .null, .null, .null, .null, .null, .int 0, .int 0, .int 0, .null, .int 0, .null, .null, .int 0, .null, .null, .null, .null, .null]
theorem w9_cells : zN ((List.range 245).map (zcell S00) ++ [.inr (9, fs9)]) 245 (obX9_init 246) (LxX9_init 246) = zcells S00 := by
  unfold zN zcells
  rw [set_mid (by rw [List.length_map, List.length_range]), r260, List.map_append, cs245, List.append_assoc]
  rfl
theorem zBd260 (S : zS) : zBd 260 (zcells S) := zBd_cells shOK260
