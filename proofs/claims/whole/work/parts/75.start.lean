/-! THE LAW FROM ITS ENTRY: what is known of the classes, both constructors, the loop -/
theorem cls_known {args : Array Value} {s : State} (hT : ∀ w ∈ zT, w.before args s = true) : ∃ (dC : Nat → ClassId) (dI : Nat → Nat → Nat), ∀ (k : Nat) (q : vw_C), vwCl[k]? = some q → u_Kn s q.1 q.2.1 q.2.2 (dC k) (dI k) := by
  have h0 := u_known (C := RX0) (T := TX0) (N := 11) (n := 11) hT iX0 (hT _ (zT_d (by decide +kernel) (by decide +kernel)))
  have h1 := u_known (C := RX1) (T := TX1) (N := 5) (n := 5) hT iX1 (hT _ (zT_d (by decide +kernel) (by decide +kernel)))
  have h2 := u_known (C := RX2) (T := TX2) (N := 4) (n := 4) hT iX2 (hT _ (zT_d (by decide +kernel) (by decide +kernel)))
  have h3 := u_known (C := RX3) (T := TX3) (N := 3) (n := 3) hT iX3 (hT _ (zT_d (by decide +kernel) (by decide +kernel)))
  have h4 := u_known (C := RX4) (T := TX4) (N := 2) (n := 2) hT iX4 (hT _ (zT_d (by decide +kernel) (by decide +kernel)))
  have h5 := u_known (C := RX5) (T := TX5) (N := 2) (n := 2) hT iX5 (hT _ (zT_d (by decide +kernel) (by decide +kernel)))
  have h6 := u_known (C := RX6) (T := TX6) (N := 3) (n := 3) hT iX6 (hT _ (zT_d (by decide +kernel) (by decide +kernel)))
  have h7 := u_known (C := RX7) (T := TX7) (N := 2) (n := 2) hT iX7 (hT _ (zT_d (by decide +kernel) (by decide +kernel)))
  have h8 := u_known (C := RX8) (T := TX8) (N := 9) (n := 9) hT iX8 (hT _ (zT_d (by decide +kernel) (by decide +kernel)))
  have h9 := u_known (C := RX9) (T := TX9) (N := 19) (n := 19) hT iX9 (hT _ (zT_d (by decide +kernel) (by decide +kernel)))
  have h : ∀ k : Nat, ∃ (cC : ClassId) (iS : Nat → Nat), ∀ q : vw_C, vwCl[k]? = some q → u_Kn s q.1 q.2.1 q.2.2 cC iS := by
    intro k
    match k with
    | 0 => obtain ⟨a, i, h⟩ := h0; exact ⟨a, i, fun q hq => by cases hq; exact h⟩
    | 1 => obtain ⟨a, i, h⟩ := h1; exact ⟨a, i, fun q hq => by cases hq; exact h⟩
    | 2 => obtain ⟨a, i, h⟩ := h2; exact ⟨a, i, fun q hq => by cases hq; exact h⟩
    | 3 => obtain ⟨a, i, h⟩ := h3; exact ⟨a, i, fun q hq => by cases hq; exact h⟩
    | 4 => obtain ⟨a, i, h⟩ := h4; exact ⟨a, i, fun q hq => by cases hq; exact h⟩
    | 5 => obtain ⟨a, i, h⟩ := h5; exact ⟨a, i, fun q hq => by cases hq; exact h⟩
    | 6 => obtain ⟨a, i, h⟩ := h6; exact ⟨a, i, fun q hq => by cases hq; exact h⟩
    | 7 => obtain ⟨a, i, h⟩ := h7; exact ⟨a, i, fun q hq => by cases hq; exact h⟩
    | 8 => obtain ⟨a, i, h⟩ := h8; exact ⟨a, i, fun q hq => by cases hq; exact h⟩
    | 9 => obtain ⟨a, i, h⟩ := h9; exact ⟨a, i, fun q hq => by cases hq; exact h⟩
    | k + 10 => obtain ⟨a, i, -⟩ := h0; exact ⟨a, i, fun q hq => absurd (List.getElem?_eq_some_iff.mp hq).1 (by show ¬ k + 10 < 10; omega)⟩
  exact ⟨fun k => (h k).choose, fun k => (h k).choose_spec.choose, fun k q hq => (h k).choose_spec.choose_spec q hq⟩
theorem ty_prim {args : Array Value} {s : State} {ty : FieldType} (h : (Cond.arrayClass ty).before args s = true) : ∃ c, ArrOfT s c ty ∧ s.vm.findClass ("[" ++ ty.toString) = some c := by
  obtain ⟨cA, kA, comp, h1, h2, h3⟩ := Cond.arrayClass_spec h
  exact ⟨cA, fun n z => ⟨fun k h => (by cases h), kA, h2, comp, h3⟩, h1⟩
theorem ty_obj {s : State} {Cn : String} (h : va_AO Cn s) : ∃ c, ArrOfT s c (.object Cn) ∧ va_RA s c (.object Cn) := by
  obtain ⟨comp, c, k, h1, -, h3, h4, h5⟩ := Cond.arrayOver_spec h
  exact ⟨c, fun n z => ⟨fun k h => (by cases h), k, h3, comp, h4⟩, k, comp, h3, h4, h1, h5⟩
theorem ty_known {args : Array Value} {s : State} (hT : ∀ w ∈ zT, w.before args s = true) (hO : zAO s) : ∃ τ : Nat → ClassId, ∀ (k : Nat) (q : ClassId × FieldType), (ztys τ)[k]? = some q → ArrOfT s q.1 q.2 ∧ va_RA s q.1 q.2 := by
  obtain ⟨c0, a0, b0⟩ := ty_prim (hT _ aw_int)
  obtain ⟨c1, a1, b1⟩ := ty_prim (hT _ aw_long)
  obtain ⟨c2, a2, b2⟩ := ty_prim (hT _ aw_bool)
  obtain ⟨c3, a3, b3⟩ := ty_prim (hT _ aw_char)
  obtain ⟨c4, a4, b4⟩ := ty_obj hO.1
  obtain ⟨c5, a5, b5⟩ := ty_obj hO.2
  refine ⟨fun k => match k with | 0 => c0 | 1 => c1 | 2 => c2 | 3 => c3 | 4 => c4 | _ => c5, fun k q hq => ?_⟩
  match k with
  | 0 => cases hq; exact ⟨a0, b0⟩
  | 1 => cases hq; exact ⟨a1, b1⟩
  | 2 => cases hq; exact ⟨a2, b2⟩
  | 3 => cases hq; exact ⟨a3, b3⟩
  | 4 => cases hq; exact ⟨a4, b4⟩
  | 5 => cases hq; exact ⟨a5, b5⟩
  | k + 6 => exact absurd (List.getElem?_eq_some_iff.mp hq).1 (by show ¬ k + 6 < 6; omega)
theorem zNw_of {args : Array Value} {s : State} (hts : ∀ w ∈ lw_tbl, w.before args s = true) : zNw s := by
  intro w hw
  have h1 := hts w (zNest_lw w hw)
  simp only [zNest, List.mem_cons, List.mem_nil_iff, or_false] at hw
  rcases hw with rfl | rfl | rfl | rfl | rfl | rfl | rfl | rfl | rfl | rfl <;> exact va_Nw.of rfl h1
abbrev fs8 : List Value := [.null, .null, .null, .null, .int 0, .null, .null, .null, .null]
theorem nw_L_7 : zNw1 RL 7 8 9 fs8 := ⟨RX8, TX8, tyX8, rfl, iX8, tyX8_ok, fun j hj => (by rcases (by omega : j = 0 ∨ j = 1 ∨ j = 2 ∨ j = 3 ∨ j = 4 ∨ j = 5 ∨ j = 6 ∨ j = 7 ∨ j = 8) with rfl | rfl | rfl | rfl | rfl | rfl | rfl | rfl | rfl <;> rfl), zT_d (by decide +kernel) (by decide +kernel), zT_d (by decide +kernel) (by decide +kernel), zT_d (by decide +kernel) (by decide +kernel)⟩
theorem nw_L_10 : zNw1 RL 10 9 19 fs9 := ⟨RX9, TX9, tyX9, rfl, iX9, tyX9_ok, fun j hj => (by rcases (by omega : j = 0 ∨ j = 1 ∨ j = 2 ∨ j = 3 ∨ j = 4 ∨ j = 5 ∨ j = 6 ∨ j = 7 ∨ j = 8 ∨ j = 9 ∨ j = 10 ∨ j = 11 ∨ j = 12 ∨ j = 13 ∨ j = 14 ∨ j = 15 ∨ j = 16 ∨ j = 17 ∨ j = 18) with rfl | rfl | rfl | rfl | rfl | rfl | rfl | rfl | rfl | rfl | rfl | rfl | rfl | rfl | rfl | rfl | rfl | rfl | rfl <;> rfl), zT_d (by decide +kernel) (by decide +kernel), zT_d (by decide +kernel) (by decide +kernel), zT_d (by decide +kernel) (by decide +kernel)⟩
theorem zl_new {p : Program} {l : Launch} {e : Env} {s : State} {m : MethodId} {args : Array Value} {below : List Frame} {meth : Method} {c : Code} {D : va_G} {A : Nat → Prop} {H0 : Heap} {Q : State → Prop} {H : Heap} {locs : List Loc} {ls : Array Slot} {rest : List Value} {τ : Nat → ClassId} {ι : Nat → Nat} {kc ks pc : Nat} {w : List va_E}
    (hC : zOK (p, l, e, room_1, s, m, args, below, meth, c, D, A, H0, Q) τ room_1 RL cL_law 4) {index ci N : Nat} {fs : List Value} (hdg : decode cL_law pc = .ok (.new index, 3)) (hN : zNw1 RL index ci N fs) (hno : ∀ v ∈ fs, ∀ a, v ≠ .ref a) (hkc : kc + 1 ≤ 600000) (hks : ks + N ≤ 7302250) (hw : zBd w.length w) (hP : va_P D vwCl (zW ι τ w) H) (hD : va_D A (zW ι τ w)) (hS : va_S A H0 H locs)
    (kk : ∀ ι', (∀ k, k < w.length → ι' k = ι k) → ∀ H1, va_P D vwCl (zW ι' τ (w ++ [.inr (ci, fs)])) H1 → va_D A (zW ι' τ (w ++ [.inr (ci, fs)])) → va_S A H0 H1 locs → W p l e room_1 s m args below meth c H1 locs (kc + 1) (ks + N) Q (F0 m (pc + 3) ls (.ref (ι' w.length) :: rest))) : W p l e room_1 s m args below meth c H locs kc ks Q (F0 m pc ls rest) := by
  obtain ⟨Cn, T, ty, hc, hin, hty, hdef, hcl, hinst, hini⟩ := hN
  obtain ⟨hx, hb, hml, hown, hts, hK, hNw, hR, hlk, hA⟩ := hC
  refine va_new (ci := ci) (fs := fs) hx hb hts hin ty hty hown (hts _ hcl) (hts _ hinst) (hts _ hini) hK hP hD hS hA hc hdef (by exact hkc) (by exact hks) hdg (fun q H1 hP1 hD1 hS1 => ?_)
  have hag : ∀ k, k < w.length → zext ι w.length q k = ι k := zext_ag
  have e1 : zW (zext ι w.length q) τ (w ++ [.inr (ci, fs)]) = zW ι τ w ++ [(q, .inr (ci, fs))] := by
    rw [zW_push hag hw, zext_at, zca_o, znoref hno]
  have k1 := kk (zext ι w.length q) hag H1 (by rw [e1]; exact hP1) (by rw [e1]; exact hD1) hS1
  rw [zext_at] at k1
  exact k1
set_option maxHeartbeats 2000000 in
theorem whole_start {p : Program} {e : Env} {s : State} {m : MethodId} {below : List Frame} {meth : Method} {c : Code} (l : Launch) (hflags : l.flags = flags0) {b L : Nat} {xs : Nat → Int32} (hL : L ≤ 3072) (C0 : lw_At p s m meth c b L xs) : W p l e room_1 s m #[Value.ref b] below meth c s.heap [] 0 0 (lw_Z below #[Value.ref b] s) (entryFrame m ([Value.ref b] : List Value).toArray 4) := by
  obtain ⟨hx, hb, hr, hml, hown, hts, hX, hbl, hlocks, hgv⟩ := id C0
  have hT := zT_lw hts
  have hO := zAO_lw hts
  obtain ⟨dC, dI, hKc⟩ := cls_known hT
  obtain ⟨τ, hty⟩ := ty_known hT hO
  have hK : va_K (dC, dI) vwCl (ztys τ) s := ⟨hKc, hty⟩
  have hC : zOK (p, l, e, room_1, s, m, #[Value.ref b], below, meth, c, (dC, dI), (fun q => s.heap.size ≤ q), s.heap, lw_Z below #[Value.ref b] s) τ room_1 RL cL_law 4 := ⟨hx, hb, hml, hown, hT, hK, zNw_of hts, rfl, hlocks, fun _ h => h⟩
  have hE : zLw (p, l, e, room_1, s, m, #[Value.ref b], below, meth, c, (dC, dI), (fun q => s.heap.size ≤ q), s.heap, lw_Z below #[Value.ref b] s) := ⟨b, rfl, rfl, hr, rfl, rfl, rfl⟩
  have hl := lv_entry ([.ref b]) (n := 4) (Nat.le_of_ble_eq_true rfl)
  rw [lg_entry_eq]
  generalize (lg_sl ([.ref b]) ++ List.replicate (4 - (lg_sl ([.ref b])).length) Slot.unset).toArray = ls at hl ⊢
  have hl : lv_has ls 4 [(0, .ref b)] := hl
  have hP : va_P (dC, dI) vwCl (zW (fun _ => 0) τ []) s.heap := fun k q h => by simp [zW] at h
  have hD : va_D (fun q => s.heap.size ≤ q) (zW (fun _ => 0) τ []) := ⟨fun i j p q h => by simp [zW] at h, fun k q h => by simp [zW] at h⟩
  have hS : va_S (fun q => s.heap.size ≤ q) s.heap s.heap [] := va_S.rf
  refine zl_new hC dL_law_0 nw_L_7 (by simp) (by decide) (by decide) (fun e he => absurd he List.not_mem_nil) hP hD hS (fun ι1 hag1 H hP hD hS => ?_)
  refine lv_dup hx hb dL_law_3 rfl ?_
  obtain ⟨W8, hW8⟩ : ∃ W, W = (List.range 245).map (zcell S00) := ⟨_, rfl⟩
  have hW8l : W8.length = 245 := by rw [hW8, List.length_map, List.length_range]
  have hbd1 : zBd ([.inr (8, fs8)] : List va_E).length [.inr (8, fs8)] := fun x hx => by
    rw [List.mem_singleton.mp hx]
    exact zeb_o (fun v hv => by
      simp only [fs8, List.mem_cons, List.mem_nil_iff, or_false] at hv
      rcases hv with rfl | rfl | rfl | rfl | rfl | rfl | rfl | rfl | rfl <;> trivial)
  refine zl_callI (b := 0) (fun w' => w' = W8) hC hO hP hD hS hl.1 dL_law_4 ml_L_9 mtX8_init tX8_init (by decide) (by decide) (by decide) (Nat.le_of_ble_eq_true rfl) ⟨0, rfl, rfl, hbd1, ?_⟩ (fun w' hw ι2 hag2 H locs hP hD hS => ?_)
  · rw [hW8, ← w8_cells]
    rfl
  subst hw
  refine lv_astore_n (lv' := [(1, .ref (ι1 0)), (0, .ref b)]) hx hb dL_law_7 rfl hl (by decide) rfl (fun ls hl => ?_)
  have hbd8 : zBd w'.length w' := by rw [hW8l, hW8]; exact zBd_cells shOK245
  refine zl_new hC dL_law_8 nw_L_10 (by simp) (by decide) (by decide) hbd8 hP hD hS (fun ι3 hag3 H hP hD hS => ?_)
  refine lv_dup hx hb dL_law_11 rfl ?_
  have h246 : (w' ++ ([.inr (9, fs9)] : List va_E)).length = 246 := by rw [List.length_append, hW8l]; rfl
  have hbd9 : zBd (w' ++ ([.inr (9, fs9)] : List va_E)).length (w' ++ ([.inr (9, fs9)] : List va_E)) := by
    refine (hbd8.up (by rw [List.length_append]; omega)).push (zeb_o (fun v hv => ?_))
    simp only [fs9, List.mem_cons, List.mem_nil_iff, or_false] at hv
    rcases hv with rfl | rfl | rfl | rfl | rfl | rfl | rfl | rfl | rfl | rfl | rfl | rfl | rfl | rfl | rfl | rfl | rfl | rfl | rfl <;> trivial
  rw [hW8l]
  refine zl_callI (b := 245) (fun w'' => w'' = zcells S00) hC hO hP hD hS hl.1 dL_law_12 ml_L_12 mtX9_init tX9_init (by decide) (by decide) (by decide) (Nat.le_of_ble_eq_true rfl) ⟨245, rfl, ?_, hbd9, ?_⟩ (fun w'' hw ι4 hag4 H locs hP hD hS => ?_)
  · rw [List.getElem?_append_right (by rw [hW8l]; exact Nat.le_refl _), hW8l]
    rfl
  · rw [h246, hW8]
    exact w9_cells
  subst hw
  rw [h246] at hag4
  refine lv_astore_n (lv' := [(2, .ref (ι3 245)), (1, .ref (ι1 0)), (0, .ref b)]) hx hb dL_law_15 rfl hl (by decide) rfl (fun ls hl => ?_)
  refine lv_iconst (v := 0) hx hb dL_law_16 (by decide) ?_
  refine lv_istore_n (lv' := [(3, .int 0), (2, .ref (ι3 245)), (1, .ref (ι1 0)), (0, .ref b)]) hx hb dL_law_17 rfl hl (by decide) rfl (fun ls hl => ?_)
  have hz : (zcells S00).length = 260 := by unfold zcells; rw [List.length_map, List.length_range]
  have eW : zW (zext ι4 260 b) τ (zcells S00) = zW ι4 τ (zcells S00) := zW_ag (by rw [hz]; exact zext_ag) (by rw [hz]; exact zBd260 S00)
  have hX5 : zSc (p, l, e, room_1, s, m, #[Value.ref b], below, meth, c, (dC, dI), (fun q => s.heap.size ≤ q), s.heap, lw_Z below #[Value.ref b] s) (zext ι4 260 b) L xs := by
    unfold zSc
    simp only [zext_at]
    exact ⟨hX, hbl, Nat.not_le.mpr hbl⟩
  have e0 : zext ι4 260 b 0 = ι1 0 := by
    rw [zext_ag 0 (by decide), hag4 0 (by decide), hag3 0 (by rw [hW8l]; decide)]
    exact hag2 0 (Nat.zero_lt_one)
  have e245 : zext ι4 260 b 245 = ι3 245 := by
    rw [zext_ag 245 (by decide), hag4 245 (by decide)]
  refine law_loop hC hE hX5 (by decide) (by decide) hL L 0 (by omega) (Nat.zero_le _) S00 G00 CG00 MG00 GI00 H locs ls (by rw [eW]; exact hP) (by rw [eW]; exact hD) hS ?_
  have e5 : zlv (zext ι4 260 b) [(0, .ref 260), (1, .ref 0), (2, .ref 245), (3, .int (nI 0))] = [(0, .ref (zext ι4 260 b 260)), (1, .ref (zext ι4 260 b 0)), (2, .ref (zext ι4 260 b 245)), (3, .int (nI 0))] := rfl
  rw [e5, zext_at, e0, e245]
  exact lv_sub hl [3, 2, 1, 0] rfl
