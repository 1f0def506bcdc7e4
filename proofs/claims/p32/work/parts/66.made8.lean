/-! THE CONSTRUCTOR of KeyTrees -/
abbrev obX8_init (n : Nat) : va_E := .inr (8, [.ref (n + 0), .ref (n + 16), .ref (n + 114), .ref (n + 130), .int 0, .ref (n + 228), .ref (n + 230), .ref (n + 231), .ref (n + 234)])
/-- the cells that have come, but for the four sheets -/
def KL (n : Nat) : List va_E := ((((((((([] : List va_E) ++ (obX0_init (n + (0 + 1)) :: LxX0_init (n + (0 + 1)))) ++ (obX3_init (n + (16 + 1)) :: LxX3_init (n + (16 + 1)))) ++ (obX0_init (n + (114 + 1)) :: LxX0_init (n + (114 + 1)))) ++ (obX3_init (n + (130 + 1)) :: LxX3_init (n + (130 + 1)))) ++ (obX7_init (n + (228 + 1)) :: LxX7_init (n + (228 + 1)))) ++ [zqa 5 4 (fun _ => none)]) ++ (obX5_init (n + (231 + 1)) :: LxX5_init (n + (231 + 1)))) ++ (obX4_init (n + (234 + 1)) :: LxX4_init (n + (234 + 1))))
set_option maxHeartbeats 2000000 in
theorem l8_init {C : zCx} {τ : Nat → ClassId} {ι0 : Nat → Nat} (hC : zOK C τ (zrm 4 244 20414) yX8_init.cls cX8_init 2) {w : List va_E} {b : Nat} {Qr : List va_E → Prop} (hE : zRetN C τ ι0 w.length 244 20414 Qr) (ι : Nat → Nat) (hag : ∀ k, k < w.length → ι k = ι0 k) (hB : zNB w b (.inr (8, [.null, .null, .null, .null, .int 0, .null, .null, .null, .null])) []) (k : ∀ ι, (∀ k, k < w.length → ι k = ι0 k) → ∀ L, L = KL w.length → zNB w b (obX8_init w.length) L → zR C τ ι 2 236 20306 91 [(0, .ref b), (1, .int (nI 0))] [] (zN w b (obX8_init w.length) L)) : zR C τ ι 2 0 0 0 [(0, .ref b)] [] (zN w b (.inr (8, [.null, .null, .null, .null, .int 0, .null, .null, .null, .null])) []) := by
  refine zr_aload_n hC dX8_init_0 rfl ?_
  refine zr_objI hC (by decide) dX8_init_1 ml_X8_3 oI_i oI_c ?_
  generalize hL0 : ([] : List va_E) = L0 at hB ⊢
  have hn0 : L0.length = 0 := by rw [← hL0]; rfl
  refine zr_aload_n hC dX8_init_4 rfl ?_
  refine zo_new hC dX8_init_5 nw_X8_9 (by simp) (by decide) (by decide) hB hag (zl1 hB.1) (zs1 hB.1) (fun ι hag hB => ?_)
  refine zr_dup hC dX8_init_8 rfl ?_
  refine zo_ini hC hE dX8_init_9 ml_X8_11 mtX0_init tX0_init gX0_init (by decide) (by decide) (by decide) (by simp [Value.category]) hB zlast hag (zl1 hB.1) (zs2 hB.1 zlt) (fun ι hag hB => ?_)
  rw [zcan, List.length_append, List.length_singleton, hn0] at hB ⊢
  generalize hL1 : L0 ++ (obX0_init (w.length + (0 + 1)) :: LxX0_init (w.length + (0 + 1))) = L1 at hB ⊢
  have hn1 : L1.length = 16 := by rw [← hL1, List.length_append, hn0]; rfl
  refine zo_put hC hE dX8_init_12 fl_X8_12 fp_X8_0 (Or.inl ⟨_, rfl⟩) ⟨_, _, rfl⟩ (Nat.le_of_ble_eq_true rfl) (by rw [hn1]; omega) hB (fun hB => ?_)
  refine zr_aload_n hC dX8_init_15 rfl ?_
  refine zo_new hC dX8_init_16 nw_X8_16 (by simp) (by decide) (by decide) hB hag (zl1 hB.1) (zs1 hB.1) (fun ι hag hB => ?_)
  refine zr_dup hC dX8_init_19 rfl ?_
  refine zo_ini hC hE dX8_init_20 ml_X8_18 mtX3_init tX3_init gX3_init (by decide) (by decide) (by decide) (by simp [Value.category]) hB zlast hag (zl1 hB.1) (zs2 hB.1 zlt) (fun ι hag hB => ?_)
  rw [zcan, List.length_append, List.length_singleton, hn1] at hB ⊢
  generalize hL2 : L1 ++ (obX3_init (w.length + (16 + 1)) :: LxX3_init (w.length + (16 + 1))) = L2 at hB ⊢
  have hn2 : L2.length = 114 := by rw [← hL2, List.length_append, hn1, List.length_cons, LxX3_len]
  refine zo_put hC hE dX8_init_23 fl_X8_19 fp_X8_1 (Or.inl ⟨_, rfl⟩) ⟨_, _, rfl⟩ (Nat.le_of_ble_eq_true rfl) (by rw [hn2]; omega) hB (fun hB => ?_)
  refine zr_aload_n hC dX8_init_26 rfl ?_
  refine zo_new hC dX8_init_27 nw_X8_9 (by simp) (by decide) (by decide) hB hag (zl1 hB.1) (zs1 hB.1) (fun ι hag hB => ?_)
  refine zr_dup hC dX8_init_30 rfl ?_
  refine zo_ini hC hE dX8_init_31 ml_X8_11 mtX0_init tX0_init gX0_init (by decide) (by decide) (by decide) (by simp [Value.category]) hB zlast hag (zl1 hB.1) (zs2 hB.1 zlt) (fun ι hag hB => ?_)
  rw [zcan, List.length_append, List.length_singleton, hn2] at hB ⊢
  generalize hL3 : L2 ++ (obX0_init (w.length + (114 + 1)) :: LxX0_init (w.length + (114 + 1))) = L3 at hB ⊢
  have hn3 : L3.length = 130 := by rw [← hL3, List.length_append, hn2]; rfl
  refine zo_put hC hE dX8_init_34 fl_X8_23 fp_X8_2 (Or.inl ⟨_, rfl⟩) ⟨_, _, rfl⟩ (Nat.le_of_ble_eq_true rfl) (by rw [hn3]; omega) hB (fun hB => ?_)
  refine zr_aload_n hC dX8_init_37 rfl ?_
  refine zo_new hC dX8_init_38 nw_X8_16 (by simp) (by decide) (by decide) hB hag (zl1 hB.1) (zs1 hB.1) (fun ι hag hB => ?_)
  refine zr_dup hC dX8_init_41 rfl ?_
  refine zo_ini hC hE dX8_init_42 ml_X8_18 mtX3_init tX3_init gX3_init (by decide) (by decide) (by decide) (by simp [Value.category]) hB zlast hag (zl1 hB.1) (zs2 hB.1 zlt) (fun ι hag hB => ?_)
  rw [zcan, List.length_append, List.length_singleton, hn3] at hB ⊢
  generalize hL4 : L3 ++ (obX3_init (w.length + (130 + 1)) :: LxX3_init (w.length + (130 + 1))) = L4 at hB ⊢
  have hn4 : L4.length = 228 := by rw [← hL4, List.length_append, hn3, List.length_cons, LxX3_len]
  refine zo_put hC hE dX8_init_45 fl_X8_26 fp_X8_3 (Or.inl ⟨_, rfl⟩) ⟨_, _, rfl⟩ (Nat.le_of_ble_eq_true rfl) (by rw [hn4]; omega) hB (fun hB => ?_)
  refine zr_aload_n hC dX8_init_48 rfl ?_
  refine zo_new hC dX8_init_49 nw_X8_29 (by simp) (by decide) (by decide) hB hag (zl1 hB.1) (zs1 hB.1) (fun ι hag hB => ?_)
  refine zr_dup hC dX8_init_52 rfl ?_
  refine zo_iniN hC hE dX8_init_53 mn_X8_31 mtX7_init tX7_init gX7_init (by decide) (by decide) (by decide) (by simp [Value.category]) hB zlast hag (zl1 hB.1) (zs2 hB.1 zlt) (fun ι hag hB => ?_)
  rw [zcan, List.length_append, List.length_singleton, hn4] at hB ⊢
  generalize hL5 : L4 ++ (obX7_init (w.length + (228 + 1)) :: LxX7_init (w.length + (228 + 1))) = L5 at hB ⊢
  have hn5 : L5.length = 230 := by rw [← hL5, List.length_append, hn4]; rfl
  refine zo_put hC hE dX8_init_56 fl_X8_32 fp_X8_5 (Or.inl ⟨_, rfl⟩) ⟨_, _, rfl⟩ (Nat.le_of_ble_eq_true rfl) (by rw [hn5]; omega) hB (fun hB => ?_)
  refine zr_aload_n hC dX8_init_59 rfl ?_
  refine zk_iconst hC dX8_init_60 (v := nI 4) (by decide +kernel) ?_
  refine zo_anewa hC hE dX8_init_61 (N := 4) (Or.inr ⟨rfl, rfl⟩) cl_X8_36 (by decide) (by decide +kernel) (by decide) (by decide) (by decide) hB hag (zl1 hB.1) (zs1 hB.1) (fun ι hag hB => ?_)
  rw [hn5]
  generalize hL6 : L5 ++ [zqa 5 4 (fun _ => none)] = L6 at hB ⊢
  have hn6 : L6.length = 231 := by rw [← hL6, List.length_append, hn5]; rfl
  refine zo_put hC hE dX8_init_64 fl_X8_38 fp_X8_6 (Or.inr ⟨_, rfl⟩) ⟨_, _, rfl⟩ (Nat.le_of_ble_eq_true rfl) (by rw [hn6]; omega) hB (fun hB => ?_)
  refine zr_aload_n hC dX8_init_67 rfl ?_
  refine zo_new hC dX8_init_68 nw_X8_42 (by simp) (by decide) (by decide) hB hag (zl1 hB.1) (zs1 hB.1) (fun ι hag hB => ?_)
  refine zr_dup hC dX8_init_71 rfl ?_
  refine zo_iniN hC hE dX8_init_72 mn_X8_44 mtX5_init tX5_init gX5_init (by decide) (by decide) (by decide) (by simp [Value.category]) hB zlast hag (zl1 hB.1) (zs2 hB.1 zlt) (fun ι hag hB => ?_)
  rw [zcan, List.length_append, List.length_singleton, hn6] at hB ⊢
  generalize hL7 : L6 ++ (obX5_init (w.length + (231 + 1)) :: LxX5_init (w.length + (231 + 1))) = L7 at hB ⊢
  have hn7 : L7.length = 234 := by rw [← hL7, List.length_append, hn6]; rfl
  refine zo_put hC hE dX8_init_75 fl_X8_45 fp_X8_7 (Or.inl ⟨_, rfl⟩) ⟨_, _, rfl⟩ (Nat.le_of_ble_eq_true rfl) (by rw [hn7]; omega) hB (fun hB => ?_)
  refine zr_aload_n hC dX8_init_78 rfl ?_
  refine zo_new hC dX8_init_79 nw_X8_49 (by simp) (by decide) (by decide) hB hag (zl1 hB.1) (zs1 hB.1) (fun ι hag hB => ?_)
  refine zr_dup hC dX8_init_82 rfl ?_
  refine zo_iniN hC hE dX8_init_83 mn_X8_51 mtX4_init tX4_init gX4_init (by decide) (by decide) (by decide) (by simp [Value.category]) hB zlast hag (zl1 hB.1) (zs2 hB.1 zlt) (fun ι hag hB => ?_)
  rw [zcan, List.length_append, List.length_singleton, hn7] at hB ⊢
  generalize hL8 : L7 ++ (obX4_init (w.length + (234 + 1)) :: LxX4_init (w.length + (234 + 1))) = L8 at hB ⊢
  have hn8 : L8.length = 236 := by rw [← hL8, List.length_append, hn7]; rfl
  refine zo_put hC hE dX8_init_86 fl_X8_52 fp_X8_8 (Or.inl ⟨_, rfl⟩) ⟨_, _, rfl⟩ (Nat.le_of_ble_eq_true rfl) (by rw [hn8]; omega) hB (fun hB => ?_)
  refine zk_iconst hC dX8_init_89 (v := nI 0) (by decide +kernel) ?_
  refine zr_istore_n hC dX8_init_90 (by decide) ?_
  refine zR_sub [(0, .ref b), (1, .int (nI 0))] ⟨rfl, rfl, trivial⟩ (k ι hag _ ?_ hB)
  rw [← hL8, ← hL7, ← hL6, ← hL5, ← hL4, ← hL3, ← hL2, ← hL1, ← hL0]
  rfl
