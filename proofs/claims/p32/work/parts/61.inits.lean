/-! THE CONSTRUCTORS of seats, letters, ring, tape, sheet -/
theorem zl1 {n k b : Nat} (h : b < n) : ∀ q ∈ ([(0, .ref b)] : List (Nat × Value)), zvb (n + k) q.2 := fun q hq => by
  obtain rfl := List.mem_singleton.mp hq
  exact Nat.lt_of_lt_of_le h (Nat.le_add_right _ _)
theorem zs1 {n k b : Nat} (h : b < n) : ∀ v ∈ ([.ref b] : List Value), zvb (n + k) v := fun q hq => by
  obtain rfl := List.mem_singleton.mp hq
  exact Nat.lt_of_lt_of_le h (Nat.le_add_right _ _)
abbrev obX5_init (n : Nat) : va_E := .inr (5, [.ref n, .ref (n + 1)])
abbrev LxX5_init (n : Nat) : List va_E := [zai 16, zai 32]
set_option maxHeartbeats 1000000 in
theorem tX5_init : zMetN yX5_init cX5_init 1 1 2 48 (zIni 5 [.null, .null] obX5_init LxX5_init) := by
  refine zMetN.of (by decide) (by decide +kernel) (by decide) (fun av w Qr h => by obtain ⟨b, rfl, -⟩ := h; exact Nat.le_of_ble_eq_true rfl) (fun C τ ι av w Qr h hC hE => ?_)
  obtain ⟨b, rfl, hb, hw, hQ⟩ := h
  have hB := zNB.start hb hw
  have hag : ∀ k, k < w.length → ι k = ι k := fun _ _ => rfl
  show zR C τ ι _ 0 0 0 [(0, .ref b)] [] w
  rw [← zN_0 hb]
  refine zr_aload_n hC dX5_init_0 rfl ?_
  refine zr_objI hC (by decide) dX5_init_1 ml_X5_3 oI_i oI_c ?_
  refine zr_aload_n hC dX5_init_4 rfl ?_
  refine zk_bipush hC dX5_init_5 (v := nI 16) (by decide +kernel) ?_
  refine zo_newa hC dX5_init_7 (t := 0) (N := 16) (a0 := (16, .inl (fun _ => 0))) (by decide) rfl aw_int (fun _ => rfl) (fun _ => rfl) (by decide) (by decide +kernel) (by decide) (by decide) (by decide) hB zeb_i hag (zl1 hB.1) (zs1 hB.1) (fun ι hag hB => ?_)
  refine zo_put hC hE dX5_init_9 fl_X5_9 fp_X5_0 (Or.inr ⟨_, rfl⟩) ⟨_, _, rfl⟩ (Nat.le_of_ble_eq_true rfl) (by simp) hB (fun hB => ?_)
  refine zr_aload_n hC dX5_init_12 rfl ?_
  refine zk_bipush hC dX5_init_13 (v := nI 32) (by decide +kernel) ?_
  refine zo_newa hC dX5_init_15 (t := 0) (N := 32) (a0 := (32, .inl (fun _ => 0))) (by decide) rfl aw_int (fun _ => rfl) (fun _ => rfl) (by decide) (by decide +kernel) (by decide) (by decide) (by decide) hB zeb_i hag (zl1 hB.1) (zs1 hB.1) (fun ι hag hB => ?_)
  refine zo_put hC hE dX5_init_17 fl_X5_15 fp_X5_1 (Or.inr ⟨_, rfl⟩) ⟨_, _, rfl⟩ (Nat.le_of_ble_eq_true rfl) (by simp) hB (fun hB => ?_)
  exact zr_vretN hC hE hag (by decide) (by decide) dX5_init_20 hQ
abbrev obX2_init (n : Nat) : va_E := .inr (2, [.int 0, .ref n, .ref (n + 1), .ref (n + 2)])
abbrev LxX2_init (n : Nat) : List va_E := [zai 192, zai 192, zai 192]
set_option maxHeartbeats 1000000 in
theorem tX2_init : zMetN yX2_init cX2_init 1 1 3 576 (zIni 2 [.int 0, .null, .null, .null] obX2_init LxX2_init) := by
  refine zMetN.of (by decide) (by decide +kernel) (by decide) (fun av w Qr h => by obtain ⟨b, rfl, -⟩ := h; exact Nat.le_of_ble_eq_true rfl) (fun C τ ι av w Qr h hC hE => ?_)
  obtain ⟨b, rfl, hb, hw, hQ⟩ := h
  have hB := zNB.start hb hw
  have hag : ∀ k, k < w.length → ι k = ι k := fun _ _ => rfl
  show zR C τ ι _ 0 0 0 [(0, .ref b)] [] w
  rw [← zN_0 hb]
  refine zr_aload_n hC dX2_init_0 rfl ?_
  refine zr_objI hC (by decide) dX2_init_1 ml_X2_3 oI_i oI_c ?_
  refine zr_aload_n hC dX2_init_4 rfl ?_
  refine zk_sipush hC dX2_init_5 (v := nI 192) (by decide +kernel) ?_
  refine zo_newa hC dX2_init_8 (t := 0) (N := 192) (a0 := (192, .inl (fun _ => 0))) (by decide) rfl aw_int (fun _ => rfl) (fun _ => rfl) (by decide) (by decide +kernel) (by decide) (by decide) (by decide) hB zeb_i hag (zl1 hB.1) (zs1 hB.1) (fun ι hag hB => ?_)
  refine zo_put hC hE dX2_init_10 fl_X2_9 fp_X2_1 (Or.inr ⟨_, rfl⟩) ⟨_, _, rfl⟩ (Nat.le_of_ble_eq_true rfl) (by simp) hB (fun hB => ?_)
  refine zr_aload_n hC dX2_init_13 rfl ?_
  refine zk_sipush hC dX2_init_14 (v := nI 192) (by decide +kernel) ?_
  refine zo_newa hC dX2_init_17 (t := 0) (N := 192) (a0 := (192, .inl (fun _ => 0))) (by decide) rfl aw_int (fun _ => rfl) (fun _ => rfl) (by decide) (by decide +kernel) (by decide) (by decide) (by decide) hB zeb_i hag (zl1 hB.1) (zs1 hB.1) (fun ι hag hB => ?_)
  refine zo_put hC hE dX2_init_19 fl_X2_15 fp_X2_2 (Or.inr ⟨_, rfl⟩) ⟨_, _, rfl⟩ (Nat.le_of_ble_eq_true rfl) (by simp) hB (fun hB => ?_)
  refine zr_aload_n hC dX2_init_22 rfl ?_
  refine zk_sipush hC dX2_init_23 (v := nI 192) (by decide +kernel) ?_
  refine zo_newa hC dX2_init_26 (t := 0) (N := 192) (a0 := (192, .inl (fun _ => 0))) (by decide) rfl aw_int (fun _ => rfl) (fun _ => rfl) (by decide) (by decide +kernel) (by decide) (by decide) (by decide) hB zeb_i hag (zl1 hB.1) (zs1 hB.1) (fun ι hag hB => ?_)
  refine zo_put hC hE dX2_init_28 fl_X2_18 fp_X2_3 (Or.inr ⟨_, rfl⟩) ⟨_, _, rfl⟩ (Nat.le_of_ble_eq_true rfl) (by simp) hB (fun hB => ?_)
  exact zr_vretN hC hE hag (by decide) (by decide) dX2_init_31 hQ
abbrev obX4_init (n : Nat) : va_E := .inr (4, [.ref n, .int 0])
abbrev LxX4_init (n : Nat) : List va_E := [zab 232]
set_option maxHeartbeats 1000000 in
theorem tX4_init : zMetN yX4_init cX4_init 1 1 1 232 (zIni 4 [.null, .int 0] obX4_init LxX4_init) := by
  refine zMetN.of (by decide) (by decide +kernel) (by decide) (fun av w Qr h => by obtain ⟨b, rfl, -⟩ := h; exact Nat.le_of_ble_eq_true rfl) (fun C τ ι av w Qr h hC hE => ?_)
  obtain ⟨b, rfl, hb, hw, hQ⟩ := h
  have hB := zNB.start hb hw
  have hag : ∀ k, k < w.length → ι k = ι k := fun _ _ => rfl
  show zR C τ ι _ 0 0 0 [(0, .ref b)] [] w
  rw [← zN_0 hb]
  refine zr_aload_n hC dX4_init_0 rfl ?_
  refine zr_objI hC (by decide) dX4_init_1 ml_X4_3 oI_i oI_c ?_
  refine zr_aload_n hC dX4_init_4 rfl ?_
  refine zk_sipush hC dX4_init_5 (v := nI 232) (by decide +kernel) ?_
  refine zo_newa hC dX4_init_8 (t := 2) (N := 232) (a0 := (232, .inl (fun _ => 0))) (by decide) rfl aw_bool (fun _ => rfl) (fun _ => rfl) (by decide) (by decide +kernel) (by decide) (by decide) (by decide) hB zeb_i hag (zl1 hB.1) (zs1 hB.1) (fun ι hag hB => ?_)
  refine zo_put hC hE dX4_init_10 fl_X4_9 fp_X4_0 (Or.inr ⟨_, rfl⟩) ⟨_, _, rfl⟩ (Nat.le_of_ble_eq_true rfl) (by simp) hB (fun hB => ?_)
  exact zr_vretN hC hE hag (by decide) (by decide) dX4_init_13 hQ
abbrev obX7_init (n : Nat) : va_E := .inr (7, [.ref n, .int 0])
abbrev LxX7_init (n : Nat) : List va_E := [zac 90]
set_option maxHeartbeats 1000000 in
theorem tX7_init : zMetN yX7_init cX7_init 1 1 1 90 (zIni 7 [.null, .int 0] obX7_init LxX7_init) := by
  refine zMetN.of (by decide) (by decide +kernel) (by decide) (fun av w Qr h => by obtain ⟨b, rfl, -⟩ := h; exact Nat.le_of_ble_eq_true rfl) (fun C τ ι av w Qr h hC hE => ?_)
  obtain ⟨b, rfl, hb, hw, hQ⟩ := h
  have hB := zNB.start hb hw
  have hag : ∀ k, k < w.length → ι k = ι k := fun _ _ => rfl
  show zR C τ ι _ 0 0 0 [(0, .ref b)] [] w
  rw [← zN_0 hb]
  refine zr_aload_n hC dX7_init_0 rfl ?_
  refine zr_objI hC (by decide) dX7_init_1 ml_X7_3 oI_i oI_c ?_
  refine zr_aload_n hC dX7_init_4 rfl ?_
  refine zk_bipush hC dX7_init_5 (v := nI 90) (by decide +kernel) ?_
  refine zo_newa hC dX7_init_7 (t := 3) (N := 90) (a0 := (90, .inl (fun _ => 0))) (by decide) rfl aw_char (fun _ => rfl) (fun _ => rfl) (by decide) (by decide +kernel) (by decide) (by decide) (by decide) hB zeb_i hag (zl1 hB.1) (zs1 hB.1) (fun ι hag hB => ?_)
  refine zo_put hC hE dX7_init_9 fl_X7_9 fp_X7_0 (Or.inr ⟨_, rfl⟩) ⟨_, _, rfl⟩ (Nat.le_of_ble_eq_true rfl) (by simp) hB (fun hB => ?_)
  exact zr_vretN hC hE hag (by decide) (by decide) dX7_init_12 hQ
abbrev obX6_init (n : Nat) : va_E := .inr (6, [.ref n, .int (-1), .int 0])
abbrev LxX6_init (n : Nat) : List va_E := [zal 24]
set_option maxHeartbeats 1000000 in
theorem tX6_init : zMetN yX6_init cX6_init 1 1 1 24 (zIni 6 [.null, .int 0, .int 0] obX6_init LxX6_init) := by
  refine zMetN.of (by decide) (by decide +kernel) (by decide) (fun av w Qr h => by obtain ⟨b, rfl, -⟩ := h; exact Nat.le_of_ble_eq_true rfl) (fun C τ ι av w Qr h hC hE => ?_)
  obtain ⟨b, rfl, hb, hw, hQ⟩ := h
  have hB := zNB.start hb hw
  have hag : ∀ k, k < w.length → ι k = ι k := fun _ _ => rfl
  show zR C τ ι _ 0 0 0 [(0, .ref b)] [] w
  rw [← zN_0 hb]
  refine zr_aload_n hC dX6_init_0 rfl ?_
  refine zr_objI hC (by decide) dX6_init_1 ml_X6_3 oI_i oI_c ?_
  refine zr_aload_n hC dX6_init_4 rfl ?_
  refine zk_bipush hC dX6_init_5 (v := nI 24) (by decide +kernel) ?_
  refine zo_newa hC dX6_init_7 (t := 1) (N := 24) (a0 := (24, .inr (.inl (fun _ => 0)))) (by decide) rfl aw_long (fun _ => rfl) (fun _ => rfl) (by decide) (by decide +kernel) (by decide) (by decide) (by decide) hB zeb_l hag (zl1 hB.1) (zs1 hB.1) (fun ι hag hB => ?_)
  refine zo_put hC hE dX6_init_9 fl_X6_9 fp_X6_0 (Or.inr ⟨_, rfl⟩) ⟨_, _, rfl⟩ (Nat.le_of_ble_eq_true rfl) (by simp) hB (fun hB => ?_)
  refine zr_aload_n hC dX6_init_12 rfl ?_
  refine zk_iconst hC dX6_init_13 (v := (-1)) (by decide +kernel) ?_
  refine zr_puti hC dX6_init_14 fl_X6_15 fp_X6_1 (zN_at hB.1) (Nat.le_of_ble_eq_true rfl) ?_
  rw [zN_set hB.1]
  exact zr_vretN hC hE hag (by decide) (by decide) dX6_init_17 hQ
