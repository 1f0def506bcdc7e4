/-! THE CONSTRUCTORS of keys and book -/
theorem zs2 {n k j b : Nat} (h : b < n) (hj : j < k := by simp) : ∀ v ∈ ([.ref (n + j), .ref b] : List Value), zvb (n + k) v := fun q hq => by
  rcases List.mem_cons.mp hq with rfl | hq
  · exact Nat.add_lt_add_left hj n
  · obtain rfl := List.mem_singleton.mp hq
    exact Nat.lt_of_lt_of_le h (Nat.le_add_right _ _)
theorem zNB.ownI {w : List va_E} {b ci k : Nat} {x : Int32} {fs : List Value} {L : List va_E} (h : zNB w b (.inr (ci, fs)) L) : zNB w b (.inr (ci, fs.set k (.int x))) L := ⟨h.1, h.2.1, zeb_o (fun v hv => by
  rcases List.mem_or_eq_of_mem_set hv with q | q
  · exact h.2.2.1.2 ci fs rfl v q
  · rw [q]; exact True.intro), h.2.2.2⟩
theorem gX5_init : zGood obX5_init LxX5_init := fun N => ⟨zeb_o (fun v hv => by simp only [List.mem_cons, List.mem_nil_iff, or_false] at hv; rcases hv with rfl | rfl <;> simp [zvb]), fun x hx => by
  simp only [List.mem_cons, List.mem_nil_iff, or_false] at hx
  rcases hx with rfl | rfl
  · exact zeb_i
  · exact zeb_i⟩
theorem gX2_init : zGood obX2_init LxX2_init := fun N => ⟨zeb_o (fun v hv => by simp only [List.mem_cons, List.mem_nil_iff, or_false] at hv; rcases hv with rfl | rfl | rfl | rfl <;> simp [zvb]), fun x hx => by
  simp only [List.mem_cons, List.mem_nil_iff, or_false] at hx
  rcases hx with rfl | rfl | rfl
  · exact zeb_i
  · exact zeb_i
  · exact zeb_i⟩
theorem gX4_init : zGood obX4_init LxX4_init := fun N => ⟨zeb_o (fun v hv => by simp only [List.mem_cons, List.mem_nil_iff, or_false] at hv; rcases hv with rfl | rfl <;> simp [zvb]), fun x hx => by
  simp only [List.mem_cons, List.mem_nil_iff, or_false] at hx
  rcases hx with rfl
  · exact zeb_i⟩
theorem gX7_init : zGood obX7_init LxX7_init := fun N => ⟨zeb_o (fun v hv => by simp only [List.mem_cons, List.mem_nil_iff, or_false] at hv; rcases hv with rfl | rfl <;> simp [zvb]), fun x hx => by
  simp only [List.mem_cons, List.mem_nil_iff, or_false] at hx
  rcases hx with rfl
  · exact zeb_i⟩
theorem gX6_init : zGood obX6_init LxX6_init := fun N => ⟨zeb_o (fun v hv => by simp only [List.mem_cons, List.mem_nil_iff, or_false] at hv; rcases hv with rfl | rfl | rfl <;> simp [zvb]), fun x hx => by
  simp only [List.mem_cons, List.mem_nil_iff, or_false] at hx
  rcases hx with rfl
  · exact zeb_l⟩
abbrev obX1_init (n : Nat) : va_E := .inr (1, [.int 0, .ref n, .ref (n + 1), .ref (n + 2), .ref (n + 3)])
abbrev LxX1_init (n : Nat) : List va_E := [zai 232, zai 232, zai 232, zaI 32 (flN (fun _ => 0) (-4) 32)]
set_option maxHeartbeats 2000000 in
theorem tX1_init : zMetN yX1_init cX1_init 1 1 4 728 (zIni 1 [.int 0, .null, .null, .null, .null] obX1_init LxX1_init) := by
  refine zMetN.of (by decide) (by decide +kernel) (by decide) (fun av w Qr h => by obtain ⟨b, rfl, -⟩ := h; exact Nat.le_of_ble_eq_true rfl) (fun C τ ι av w Qr h hC hE => ?_)
  obtain ⟨b, rfl, hb, hw, hQ⟩ := h
  have hB := zNB.start hb hw
  have hag : ∀ k, k < w.length → ι k = ι k := fun _ _ => rfl
  show zR C τ ι _ 0 0 0 [(0, .ref b)] [] w
  rw [← zN_0 hb]
  refine zr_aload_n hC dX1_init_0 rfl ?_
  refine zr_objI hC (by decide) dX1_init_1 ml_X1_3 oI_i oI_c ?_
  refine zr_aload_n hC dX1_init_4 rfl ?_
  refine zk_sipush hC dX1_init_5 (v := nI 232) (by decide +kernel) ?_
  refine zo_newa hC dX1_init_8 (t := 0) (N := 232) (a0 := (232, .inl (fun _ => 0))) (by decide) rfl aw_int (fun _ => rfl) (fun _ => rfl) (by decide) (by decide +kernel) (by decide) (by decide) (by decide) hB zeb_i hag (zl1 hB.1) (zs1 hB.1) (fun ι hag hB => ?_)
  refine zo_put hC hE dX1_init_10 fl_X1_9 fp_X1_1 (Or.inr ⟨_, rfl⟩) ⟨_, _, rfl⟩ (Nat.le_of_ble_eq_true rfl) (by simp) hB (fun hB => ?_)
  refine zr_aload_n hC dX1_init_13 rfl ?_
  refine zk_sipush hC dX1_init_14 (v := nI 232) (by decide +kernel) ?_
  refine zo_newa hC dX1_init_17 (t := 0) (N := 232) (a0 := (232, .inl (fun _ => 0))) (by decide) rfl aw_int (fun _ => rfl) (fun _ => rfl) (by decide) (by decide +kernel) (by decide) (by decide) (by decide) hB zeb_i hag (zl1 hB.1) (zs1 hB.1) (fun ι hag hB => ?_)
  refine zo_put hC hE dX1_init_19 fl_X1_15 fp_X1_2 (Or.inr ⟨_, rfl⟩) ⟨_, _, rfl⟩ (Nat.le_of_ble_eq_true rfl) (by simp) hB (fun hB => ?_)
  refine zr_aload_n hC dX1_init_22 rfl ?_
  refine zk_sipush hC dX1_init_23 (v := nI 232) (by decide +kernel) ?_
  refine zo_newa hC dX1_init_26 (t := 0) (N := 232) (a0 := (232, .inl (fun _ => 0))) (by decide) rfl aw_int (fun _ => rfl) (fun _ => rfl) (by decide) (by decide +kernel) (by decide) (by decide) (by decide) hB zeb_i hag (zl1 hB.1) (zs1 hB.1) (fun ι hag hB => ?_)
  refine zo_put hC hE dX1_init_28 fl_X1_18 fp_X1_3 (Or.inr ⟨_, rfl⟩) ⟨_, _, rfl⟩ (Nat.le_of_ble_eq_true rfl) (by simp) hB (fun hB => ?_)
  refine zr_aload_n hC dX1_init_31 rfl ?_
  refine zk_bipush hC dX1_init_32 (v := nI 32) (by decide +kernel) ?_
  refine zo_newa hC dX1_init_34 (t := 0) (N := 32) (a0 := (32, .inl (fun _ => 0))) (by decide) rfl aw_int (fun _ => rfl) (fun _ => rfl) (by decide) (by decide +kernel) (by decide) (by decide) (by decide) hB zeb_i hag (zl1 hB.1) (zs1 hB.1) (fun ι hag hB => ?_)
  refine zo_put hC hE dX1_init_36 fl_X1_21 fp_X1_4 (Or.inr ⟨_, rfl⟩) ⟨_, _, rfl⟩ (Nat.le_of_ble_eq_true rfl) (by simp) hB (fun hB => ?_)
  refine zr_aload_n hC dX1_init_39 rfl ?_
  refine zr_getf hC dX1_init_40 fl_X1_21 (zN_at hB.1) rfl ?_
  refine zk_bipush hC dX1_init_43 (v := (-4)) (by decide +kernel) ?_
  refine zo_fill hC dX1_init_45 ml_X1_24 (by decide) (by decide) (by decide) (by simp) hB rfl (by decide) (fun hB => ?_)
  exact zr_vretN hC hE hag (by decide) (by decide) dX1_init_48 hQ
theorem gX1_init : zGood obX1_init LxX1_init := fun N => ⟨zeb_o (fun v hv => by simp only [List.mem_cons, List.mem_nil_iff, or_false] at hv; rcases hv with rfl | rfl | rfl | rfl | rfl <;> simp [zvb]), fun x hx => by
  simp only [List.mem_cons, List.mem_nil_iff, or_false] at hx
  rcases hx with rfl | rfl | rfl | rfl
  · exact zeb_i
  · exact zeb_i
  · exact zeb_i
  · exact zeb_i⟩
abbrev obX0_init (n : Nat) : va_E := .inr (0, [.ref n, .ref (n + 3), .ref (n + 8), .int 0, .int 0, .int 0, .int 0, .int (nI 1), .ref (n + 12), .ref (n + 13), .ref (n + 14)])
abbrev LxX0_init (n : Nat) : List va_E := [obX5_init (n + 1), zai 16, zai 32, obX1_init (n + 4), zai 232, zai 232, zai 232, zaI 32 (flN (fun _ => 0) (-4) 32), obX2_init (n + 9), zai 192, zai 192, zai 192, zaI 16 (flN (fun _ => 0) (-1) 16), zai 16, zai 16]
set_option maxHeartbeats 2000000 in
theorem tX0_init : zMetN yX0_init cX0_init 1 2 15 1411 (zIni 0 [.null, .null, .null, .int 0, .int 0, .int 0, .int 0, .int 0, .null, .null, .null] obX0_init LxX0_init) := by
  refine zMetN.of (by decide) (by decide +kernel) (by decide) (fun av w Qr h => by obtain ⟨b, rfl, -⟩ := h; exact Nat.le_of_ble_eq_true rfl) (fun C τ ι av w Qr h hC hE => ?_)
  obtain ⟨b, rfl, hb, hw, hQ⟩ := h
  have hB := zNB.start hb hw
  have hag : ∀ k, k < w.length → ι k = ι k := fun _ _ => rfl
  show zR C τ ι _ 0 0 0 [(0, .ref b)] [] w
  rw [← zN_0 hb]
  refine zr_aload_n hC dX0_init_0 rfl ?_
  refine zr_objI hC (by decide) dX0_init_1 ml_X0_3 oI_i oI_c ?_
  refine zr_aload_n hC dX0_init_4 rfl ?_
  refine zo_new hC dX0_init_5 nw_X0_9 (by simp) (by decide) (by decide) hB hag (zl1 hB.1) (zs1 hB.1) (fun ι hag hB => ?_)
  refine zr_dup hC dX0_init_8 rfl ?_
  refine zo_iniN hC hE dX0_init_9 mn_X0_11 mtX5_init tX5_init gX5_init (by decide) (by decide) (by decide) (by simp [Value.category]) hB rfl hag (zl1 hB.1) (zs2 hB.1) (fun ι hag hB => ?_)
  refine zo_put hC hE dX0_init_12 fl_X0_12 fp_X0_0 (Or.inl ⟨_, rfl⟩) ⟨_, _, rfl⟩ (Nat.le_of_ble_eq_true rfl) (by simp) hB (fun hB => ?_)
  refine zr_aload_n hC dX0_init_15 rfl ?_
  refine zo_new hC dX0_init_16 nw_X0_18 (by simp) (by decide) (by decide) hB hag (zl1 hB.1) (zs1 hB.1) (fun ι hag hB => ?_)
  refine zr_dup hC dX0_init_19 rfl ?_
  refine zo_ini hC hE dX0_init_20 ml_X0_20 mtX1_init tX1_init gX1_init (by decide) (by decide) (by decide) (by simp [Value.category]) hB rfl hag (zl1 hB.1) (zs2 hB.1) (fun ι hag hB => ?_)
  refine zo_put hC hE dX0_init_23 fl_X0_21 fp_X0_1 (Or.inl ⟨_, rfl⟩) ⟨_, _, rfl⟩ (Nat.le_of_ble_eq_true rfl) (by simp) hB (fun hB => ?_)
  refine zr_aload_n hC dX0_init_26 rfl ?_
  refine zo_new hC dX0_init_27 nw_X0_25 (by simp) (by decide) (by decide) hB hag (zl1 hB.1) (zs1 hB.1) (fun ι hag hB => ?_)
  refine zr_dup hC dX0_init_30 rfl ?_
  refine zo_iniN hC hE dX0_init_31 mn_X0_27 mtX2_init tX2_init gX2_init (by decide) (by decide) (by decide) (by simp [Value.category]) hB rfl hag (zl1 hB.1) (zs2 hB.1) (fun ι hag hB => ?_)
  refine zo_put hC hE dX0_init_34 fl_X0_28 fp_X0_2 (Or.inl ⟨_, rfl⟩) ⟨_, _, rfl⟩ (Nat.le_of_ble_eq_true rfl) (by simp) hB (fun hB => ?_)
  refine zr_aload_n hC dX0_init_37 rfl ?_
  refine zk_iconst hC dX0_init_38 (v := nI 1) (by decide +kernel) ?_
  refine zr_puti hC dX0_init_39 fl_X0_32 fp_X0_7 (zN_at hB.1) (Nat.le_of_ble_eq_true rfl) ?_
  rw [zN_set hB.1]
  have hB := hB.ownI (k := 7) (x := nI 1)
  refine zr_aload_n hC dX0_init_42 rfl ?_
  refine zk_bipush hC dX0_init_43 (v := nI 16) (by decide +kernel) ?_
  refine zo_newa hC dX0_init_45 (t := 0) (N := 16) (a0 := (16, .inl (fun _ => 0))) (by decide) rfl aw_int (fun _ => rfl) (fun _ => rfl) (by decide) (by decide +kernel) (by decide) (by decide) (by decide) hB zeb_i hag (zl1 hB.1) (zs1 hB.1) (fun ι hag hB => ?_)
  refine zo_put hC hE dX0_init_47 fl_X0_36 fp_X0_8 (Or.inr ⟨_, rfl⟩) ⟨_, _, rfl⟩ (Nat.le_of_ble_eq_true rfl) (by simp) hB (fun hB => ?_)
  refine zr_aload_n hC dX0_init_50 rfl ?_
  refine zk_bipush hC dX0_init_51 (v := nI 16) (by decide +kernel) ?_
  refine zo_newa hC dX0_init_53 (t := 0) (N := 16) (a0 := (16, .inl (fun _ => 0))) (by decide) rfl aw_int (fun _ => rfl) (fun _ => rfl) (by decide) (by decide +kernel) (by decide) (by decide) (by decide) hB zeb_i hag (zl1 hB.1) (zs1 hB.1) (fun ι hag hB => ?_)
  refine zo_put hC hE dX0_init_55 fl_X0_40 fp_X0_9 (Or.inr ⟨_, rfl⟩) ⟨_, _, rfl⟩ (Nat.le_of_ble_eq_true rfl) (by simp) hB (fun hB => ?_)
  refine zr_aload_n hC dX0_init_58 rfl ?_
  refine zk_bipush hC dX0_init_59 (v := nI 16) (by decide +kernel) ?_
  refine zo_newa hC dX0_init_61 (t := 0) (N := 16) (a0 := (16, .inl (fun _ => 0))) (by decide) rfl aw_int (fun _ => rfl) (fun _ => rfl) (by decide) (by decide +kernel) (by decide) (by decide) (by decide) hB zeb_i hag (zl1 hB.1) (zs1 hB.1) (fun ι hag hB => ?_)
  refine zo_put hC hE dX0_init_63 fl_X0_43 fp_X0_10 (Or.inr ⟨_, rfl⟩) ⟨_, _, rfl⟩ (Nat.le_of_ble_eq_true rfl) (by simp) hB (fun hB => ?_)
  refine zr_aload_n hC dX0_init_66 rfl ?_
  refine zr_getf hC dX0_init_67 fl_X0_36 (zN_at hB.1) rfl ?_
  refine zk_iconst hC dX0_init_70 (v := (-1)) (by decide +kernel) ?_
  refine zo_fill hC dX0_init_71 ml_X0_46 (by decide) (by decide) (by decide) (by simp) hB rfl (by decide) (fun hB => ?_)
  exact zr_vretN hC hE hag (by decide) (by decide) dX0_init_74 hQ
theorem gX0_init : zGood obX0_init LxX0_init := fun N => ⟨zeb_o (fun v hv => by simp only [List.mem_cons, List.mem_nil_iff, or_false] at hv; rcases hv with rfl | rfl | rfl | rfl | rfl | rfl | rfl | rfl | rfl | rfl | rfl <;> simp [zvb]), fun x hx => by
  simp only [List.mem_cons, List.mem_nil_iff, or_false] at hx
  rcases hx with rfl | rfl | rfl | rfl | rfl | rfl | rfl | rfl | rfl | rfl | rfl | rfl | rfl | rfl | rfl
  · exact zeb_o (fun v hv => by simp only [List.mem_cons, List.mem_nil_iff, or_false] at hv; rcases hv with rfl | rfl <;> simp [zvb])
  · exact zeb_i
  · exact zeb_i
  · exact zeb_o (fun v hv => by simp only [List.mem_cons, List.mem_nil_iff, or_false] at hv; rcases hv with rfl | rfl | rfl | rfl | rfl <;> simp [zvb])
  · exact zeb_i
  · exact zeb_i
  · exact zeb_i
  · exact zeb_i
  · exact zeb_o (fun v hv => by simp only [List.mem_cons, List.mem_nil_iff, or_false] at hv; rcases hv with rfl | rfl | rfl | rfl <;> simp [zvb])
  · exact zeb_i
  · exact zeb_i
  · exact zeb_i
  · exact zeb_i
  · exact zeb_i
  · exact zeb_i⟩
