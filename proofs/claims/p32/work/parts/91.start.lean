/-! THE LAW FROM ITS ENTRY: the constructor, then its body -/
set_option maxHeartbeats 1000000 in
theorem whole_start {p : Program} {e : Env} {s : State} {m : MethodId} {below : List Frame} {meth : Method} {c : Code} (l : Launch) (hflags : l.flags = flags0) {b L : Nat} {xs : Nat → Int32} (hL : L ≤ 260) (C0 : lw_At p s m meth c b L xs) : W p l e room_1 s m #[Value.ref b] below meth c s.heap [] 0 0 (lw_Z below #[Value.ref b] s) (entryFrame m ([Value.ref b] : List Value).toArray 6) := by
  obtain ⟨hx, hb, hr, hml, hown, hts, hX, hbl, hlocks, hgv⟩ := id C0
  have hT := zT_lw hts
  have hO := zAO_lw hts
  obtain ⟨dC, dI, hKc⟩ := cls_known hT
  obtain ⟨τ, hty⟩ := ty_known hT hO
  have hK : va_K (dC, dI) vwCl (ztys τ) s := ⟨hKc, hty⟩
  have hC : zOK (p, l, e, room_1, s, m, #[Value.ref b], below, meth, c, (dC, dI), (fun q => s.heap.size ≤ q), s.heap, lw_Z below #[Value.ref b] s) τ room_1 RL cL_law 6 := ⟨hx, hb, hml, hown, hT, hK, zNw_of hts, rfl, hlocks, fun _ h => h⟩
  have hE : zLw (p, l, e, room_1, s, m, #[Value.ref b], below, meth, c, (dC, dI), (fun q => s.heap.size ≤ q), s.heap, lw_Z below #[Value.ref b] s) := ⟨b, rfl, rfl, hr, rfl, rfl, rfl⟩
  have hl := lv_entry ([.ref b]) (n := 6) (Nat.le_of_ble_eq_true rfl)
  rw [lg_entry_eq]
  generalize (lg_sl ([.ref b]) ++ List.replicate (6 - (lg_sl ([.ref b])).length) Slot.unset).toArray = ls at hl ⊢
  have hl : lv_has ls 6 [(0, .ref b)] := hl
  have hP : va_P (dC, dI) vwCl (zW (fun _ => 0) τ []) s.heap := fun k q h => by simp [zW] at h
  have hD : va_D (fun q => s.heap.size ≤ q) (zW (fun _ => 0) τ []) := ⟨fun i j p q h => by simp [zW] at h, fun k q h => by simp [zW] at h⟩
  have hS : va_S (fun q => s.heap.size ≤ q) s.heap s.heap [] := va_S.rf
  refine zl_new hC dL_law_0 nw_L_9 (by simp) (by decide) (by decide) (fun e he => absurd he List.not_mem_nil) hP hD hS (fun ι1 hag1 H hP hD hS => ?_)
  refine lv_dup hx hb dL_law_3 rfl ?_
  have hbd1 : zBd ([.inr (8, fs8)] : List va_E).length [.inr (8, fs8)] := fun x hx => by
    rw [List.mem_singleton.mp hx]
    exact zeb_o (fun v hv => by
      simp only [fs8, List.mem_cons, List.mem_nil_iff, or_false] at hv
      rcases hv with rfl | rfl | rfl | rfl | rfl | rfl | rfl | rfl | rfl <;> trivial)
  refine zl_callI (b := 0) (fun w' => w' = zcells S00) hC hO hP hD hS hl.1 dL_law_4 ml_L_11 mtX8_init tX8_init (by decide) (by decide) (by decide) (Nat.le_of_ble_eq_true rfl) ⟨0, rfl, rfl, hbd1, ?_⟩ (fun w' hw ι2 hag2 H locs hP hD hS => ?_)
  · show _ = zcells S00
    unfold zcells
    rw [← w8_cells]
    rfl
  subst hw
  refine lv_astore_n (lv' := [(1, .ref (ι1 0)), (0, .ref b)]) hx hb dL_law_7 rfl hl (by decide) rfl (fun ls hl => ?_)
  have hz : (zcells S00).length = 245 := by unfold zcells; rw [List.length_map, List.length_range]
  have eW : zW (zext ι2 245 b) τ (zcells S00) = zW ι2 τ (zcells S00) := zW_ag (by rw [hz]; exact zext_ag) (by rw [hz]; exact zBd245 S00)
  have hX5 : zSc (p, l, e, room_1, s, m, #[Value.ref b], below, meth, c, (dC, dI), (fun q => s.heap.size ≤ q), s.heap, lw_Z below #[Value.ref b] s) (zext ι2 245 b) L xs := by
    unfold zSc
    simp only [zext_at]
    exact ⟨hX, hbl, Nat.not_le.mpr hbl⟩
  have e0 : zext ι2 245 b 0 = ι1 0 := by
    rw [zext_ag 0 (by decide)]
    exact hag2 0 (Nat.zero_lt_one)
  refine law_body hC hE hX5 (by decide) (by decide) hL CG00 GI00 lvI00 H locs ls (by rw [eW]; exact hP) (by rw [eW]; exact hD) hS ?_
  have e5 : zlv (zext ι2 245 b) [(0, .ref 245), (1, .ref 0)] = [(0, .ref (zext ι2 245 b 245)), (1, .ref (zext ι2 245 b 0))] := rfl
  rw [e5, zext_at, e0]
  exact lv_sub hl [1, 0] rfl
