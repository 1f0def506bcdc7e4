/-! THE CALLS OF THE CLASS: comings and leavings -/
def spX8_come : zSp := fun av S Q => ∃ (G : zG) (x : Int32), av = [.ref 0, .int x] ∧ CG S G ∧ GI G ∧ ∀ S', CG S' (fCome x G).2 → zfc S S' → Q (some (.int (fCome x G).1)) S'
set_option maxHeartbeats 4000000 in
set_option maxRecDepth 100000 in
theorem tX8_come : zM yX8_come cX8_come 2 (some .int) 4 spX8_come := by
  refine zM.of (by decide) (by decide) (fun av S Q h => by obtain ⟨G, x, rfl, hCG, hGI, hQ⟩ := h; exact Nat.le_of_ble_eq_true rfl) (fun C τ ι av S Q Qr h hr hC hE => ?_)
  obtain ⟨G, x, rfl, hCG, hGI, hQ⟩ := h
  show zR C τ ι _ 0 0 0 [(0, .ref 0), (1, .int x)] [] _
  refine zr_iload_n hC dX8_come_0 rfl ?_
  refine zs_callS hC [_] [] dX8_come_1 ml_X8_57 mtX8_noMember tX8_noMember (by decide) (by decide) (by decide) rfl (Nat.le_of_ble_eq_true rfl) rfl ?_
  refine ⟨x, rfl, fun r e => ?_⟩
  rcases e with ⟨rfl, hx⟩ | ⟨rfl, m, hm, rfl⟩
  · simp only [fCome, mm_no hx] at hQ
    dsimp only [Option.toList, List.cons_append, List.nil_append]
    refine zr_if_eq hC dX8_come_4 (tgt := 9) (by decide) (fun c => absurd c (by decide +kernel)) (fun c_4 => ?_)
    refine zk_iconst hC dX8_come_7 (v := (-1)) (by decide +kernel) ?_
    exact zr_ireturn hC hE dX8_come_8 (hr _ _ (by first | exact hQ _ (hC1.book hGI.kp hC2 hf2) (hf1.tr (hf2.c (by decide))) | exact hQ _ hCG zfc.rf))
  · simp only [fCome, mm_yes hm (show 16 < 2147483648 by decide)] at hQ
    dsimp only [Option.toList, List.cons_append, List.nil_append]
    refine zr_if_eq hC dX8_come_4 (tgt := 9) (by decide) (fun c_4 => ?_) (fun c => absurd c (by decide +kernel))
    refine zr_aload_n hC dX8_come_9 rfl ?_
    refine zs_getr hC dX8_come_10 fl_X8_12 (a := 0) (r := 1) rfl (by decide) ?_
    refine zr_iload_n hC dX8_come_13 rfl ?_
    refine zs_callV hC (b := 1) [_] [] dX8_come_14 ml_X8_61 mtX0_mayCome tX0_mayCome (by decide) (by decide) (by decide) rfl rfl (by decide) (by decide +kernel) (Nat.le_of_ble_eq_true rfl) rfl ?_
    refine ⟨m, G.1, rfl, hm, hCG.1.sr, hCG.1.ms, fun r e => ?_⟩
    rcases e with ⟨rfl, hx⟩ | ⟨rfl, hx⟩
    · rw [if_pos hx] at hQ
      dsimp only [Option.toList, List.cons_append, List.nil_append]
      refine zr_if_ne hC dX8_come_17 (tgt := 23) (by decide) (fun c_17 => ?_) (fun c => absurd c (by decide +kernel))
      refine zr_aload_n hC dX8_come_23 rfl ?_
      refine zs_getr hC dX8_come_24 fl_X8_19 (a := 0) (r := 17) rfl (by decide) ?_
      refine zr_aload_n hC dX8_come_27 rfl ?_
      refine zs_getr hC dX8_come_28 fl_X8_12 (a := 0) (r := 1) rfl (by decide) ?_
      refine zs_callV hC (b := 17) [_] [] dX8_come_31 ml_X8_64 mtX3_keep tX3_keep (by decide) (by decide) (by decide) rfl rfl (by decide) (by decide +kernel) (Nat.le_of_ble_eq_true rfl) rfl ?_
      refine keepOK hCG hGI (fun S1 hC1 hf1 => ?_)
      dsimp only [Option.toList, List.nil_append]
      refine zr_aload_n hC dX8_come_34 rfl ?_
      refine zs_getr hC dX8_come_35 fl_X8_12 (a := 0) (r := 1) rfl (by decide) ?_
      refine zr_iload_n hC dX8_come_38 rfl ?_
      refine zs_callV hC (b := 1) [_] [] dX8_come_39 ml_X8_68 mtX0_addComer tX0_addComer (by decide) (by decide) (by decide) rfl rfl (by decide) (by decide +kernel) (Nat.le_of_ble_eq_true rfl) rfl ?_
      refine ⟨m, G.1, rfl, hm, hC1.1, by have := hGI.1.told hm; omega, fun S2 hC2 hf2 => ?_⟩
      dsimp only [Option.toList, List.nil_append]
      refine zr_aload_n hC dX8_come_42 rfl ?_
      refine zs_getr hC dX8_come_43 fl_X8_12 (a := 0) (r := 1) rfl (by decide) ?_
      refine zv_geti hC dX8_come_46 fl_X8_72 (a := 1) rfl (by decide) (hC2.ms.1) ?_
      refine zs_callS hC [_] [] dX8_come_49 ml_X8_76 mtJ6_bitCount_0f7a4 tJ6_bitCount_0f7a4 (by decide) (by decide) (by decide) rfl (Nat.le_of_ble_eq_true rfl) rfl ?_
      refine ⟨_, rfl, dm_lt _, ?_⟩
      dsimp only [Option.toList, List.cons_append, List.nil_append]
      exact zr_ireturn hC hE dX8_come_52 (hr _ _ (by first | exact hQ _ (hC1.book hGI.kp hC2 hf2) (hf1.tr (hf2.c (by decide))) | exact hQ _ hCG zfc.rf))
    · rw [if_neg hx] at hQ
      dsimp only [Option.toList, List.cons_append, List.nil_append]
      refine zr_if_ne hC dX8_come_17 (tgt := 23) (by decide) (fun c => absurd c (by decide +kernel)) (fun c_17 => ?_)
      refine zk_bipush hC dX8_come_20 (v := (-2)) (by decide +kernel) ?_
      exact zr_ireturn hC hE dX8_come_22 (hr _ _ (by first | exact hQ _ (hC1.book hGI.kp hC2 hf2) (hf1.tr (hf2.c (by decide))) | exact hQ _ hCG zfc.rf))
def spX8_leave : zSp := fun av S Q => ∃ (G : zG) (x : Int32), av = [.ref 0, .int x] ∧ CG S G ∧ GI G ∧ ∀ S', CG S' (fLeave x G).2 → zfc S S' → Q (some (.int (fLeave x G).1)) S'
set_option maxHeartbeats 4000000 in
set_option maxRecDepth 100000 in
theorem tX8_leave : zM yX8_leave cX8_leave 2 (some .int) 4 spX8_leave := by
  refine zM.of (by decide) (by decide) (fun av S Q h => by obtain ⟨G, x, rfl, hCG, hGI, hQ⟩ := h; exact Nat.le_of_ble_eq_true rfl) (fun C τ ι av S Q Qr h hr hC hE => ?_)
  obtain ⟨G, x, rfl, hCG, hGI, hQ⟩ := h
  show zR C τ ι _ 0 0 0 [(0, .ref 0), (1, .int x)] [] _
  refine zr_iload_n hC dX8_leave_0 rfl ?_
  refine zs_callS hC [_] [] dX8_leave_1 ml_X8_57 mtX8_noMember tX8_noMember (by decide) (by decide) (by decide) rfl (Nat.le_of_ble_eq_true rfl) rfl ?_
  refine ⟨x, rfl, fun r e => ?_⟩
  rcases e with ⟨rfl, hx⟩ | ⟨rfl, m, hm, rfl⟩
  · simp only [fLeave, mm_no hx] at hQ
    dsimp only [Option.toList, List.cons_append, List.nil_append]
    refine zr_if_eq hC dX8_leave_4 (tgt := 9) (by decide) (fun c => absurd c (by decide +kernel)) (fun c_4 => ?_)
    refine zk_iconst hC dX8_leave_7 (v := (-1)) (by decide +kernel) ?_
    exact zr_ireturn hC hE dX8_leave_8 (hr _ _ (by first | exact hQ _ (hC1.book hGI.kp hC2 hf2) (hf1.tr (hf2.c (by decide))) | exact hQ _ hCG zfc.rf))
  · simp only [fLeave, mm_yes hm (show 16 < 2147483648 by decide)] at hQ
    dsimp only [Option.toList, List.cons_append, List.nil_append]
    refine zr_if_eq hC dX8_leave_4 (tgt := 9) (by decide) (fun c_4 => ?_) (fun c => absurd c (by decide +kernel))
    refine zr_aload_n hC dX8_leave_9 rfl ?_
    refine zs_getr hC dX8_leave_10 fl_X8_12 (a := 0) (r := 1) rfl (by decide) ?_
    refine zr_iload_n hC dX8_leave_13 rfl ?_
    refine zs_callV hC (b := 1) [_] [] dX8_leave_14 ml_X8_82 mtX0_mayLeave tX0_mayLeave (by decide) (by decide) (by decide) rfl rfl (by decide) (by decide +kernel) (Nat.le_of_ble_eq_true rfl) rfl ?_
    refine ⟨m, G.1, rfl, hm, hCG.1.sr, hCG.1.ms, fun r e => ?_⟩
    rcases e with ⟨rfl, hx⟩ | ⟨rfl, hx⟩
    · rw [if_pos hx] at hQ
      dsimp only [Option.toList, List.cons_append, List.nil_append]
      refine zr_if_ne hC dX8_leave_17 (tgt := 23) (by decide) (fun c_17 => ?_) (fun c => absurd c (by decide +kernel))
      refine zr_aload_n hC dX8_leave_23 rfl ?_
      refine zs_getr hC dX8_leave_24 fl_X8_19 (a := 0) (r := 17) rfl (by decide) ?_
      refine zr_aload_n hC dX8_leave_27 rfl ?_
      refine zs_getr hC dX8_leave_28 fl_X8_12 (a := 0) (r := 1) rfl (by decide) ?_
      refine zs_callV hC (b := 17) [_] [] dX8_leave_31 ml_X8_64 mtX3_keep tX3_keep (by decide) (by decide) (by decide) rfl rfl (by decide) (by decide +kernel) (Nat.le_of_ble_eq_true rfl) rfl ?_
      refine keepOK hCG hGI (fun S1 hC1 hf1 => ?_)
      dsimp only [Option.toList, List.nil_append]
      refine zr_aload_n hC dX8_leave_34 rfl ?_
      refine zs_getr hC dX8_leave_35 fl_X8_12 (a := 0) (r := 1) rfl (by decide) ?_
      refine zr_iload_n hC dX8_leave_38 rfl ?_
      refine zs_callV hC (b := 1) [_] [] dX8_leave_39 ml_X8_85 mtX0_addLeaver tX0_addLeaver (by decide) (by decide) (by decide) rfl rfl (by decide) (by decide +kernel) (Nat.le_of_ble_eq_true rfl) rfl ?_
      refine ⟨m, G.1, rfl, hm, hC1.1, by have := hGI.1.told hm; omega, fun S2 hC2 hf2 => ?_⟩
      dsimp only [Option.toList, List.nil_append]
      refine zr_aload_n hC dX8_leave_42 rfl ?_
      refine zs_getr hC dX8_leave_43 fl_X8_12 (a := 0) (r := 1) rfl (by decide) ?_
      refine zv_geti hC dX8_leave_46 fl_X8_88 (a := 1) rfl (by decide) (hC2.ms.2.1) ?_
      refine zs_callS hC [_] [] dX8_leave_49 ml_X8_76 mtJ6_bitCount_0f7a4 tJ6_bitCount_0f7a4 (by decide) (by decide) (by decide) rfl (Nat.le_of_ble_eq_true rfl) rfl ?_
      refine ⟨_, rfl, dm_lt _, ?_⟩
      dsimp only [Option.toList, List.cons_append, List.nil_append]
      exact zr_ireturn hC hE dX8_leave_52 (hr _ _ (by first | exact hQ _ (hC1.book hGI.kp hC2 hf2) (hf1.tr (hf2.c (by decide))) | exact hQ _ hCG zfc.rf))
    · rw [if_neg hx] at hQ
      dsimp only [Option.toList, List.cons_append, List.nil_append]
      refine zr_if_ne hC dX8_leave_17 (tgt := 23) (by decide) (fun c => absurd c (by decide +kernel)) (fun c_17 => ?_)
      refine zk_bipush hC dX8_leave_20 (v := (-2)) (by decide +kernel) ?_
      exact zr_ireturn hC hE dX8_leave_22 (hr _ _ (by first | exact hQ _ (hC1.book hGI.kp hC2 hf2) (hf1.tr (hf2.c (by decide))) | exact hQ _ hCG zfc.rf))
def spX8_batch : zSp := fun av S Q => ∃ (G : zG), av = [.ref 0] ∧ CG S G ∧ GI G ∧ ∀ S', CG S' (fBatch G).2 → zfc S S' → Q (some (.int (fBatch G).1)) S'
set_option maxHeartbeats 4000000 in
set_option maxRecDepth 100000 in
theorem tX8_batch : zM yX8_batch cX8_batch 2 (some .int) 6 spX8_batch := by
  refine zM.of (by decide) (by decide) (fun av S Q h => by obtain ⟨G, rfl, hCG, hGI, hQ⟩ := h; exact Nat.le_of_ble_eq_true rfl) (fun C τ ι av S Q Qr h hr hC hE => ?_)
  obtain ⟨G, rfl, hCG, hGI, hQ⟩ := h
  unfold fBatch at hQ
  show zR C τ ι _ 0 0 0 [(0, .ref 0)] [] _
  refine zr_aload_n hC dX8_batch_0 rfl ?_
  refine zs_getr hC dX8_batch_1 fl_X8_12 (a := 0) (r := 1) rfl (by decide) ?_
  refine zs_callV hC (b := 1) [] [] dX8_batch_4 ml_X8_91 mtX0_batchRefusal tX0_batchRefusal (by decide) (by decide) (by decide) rfl rfl (by decide) (by decide +kernel) (Nat.le_of_ble_eq_true rfl) rfl ?_
  refine ⟨G.1, rfl, hCG.1.ms, hCG.1.kr.1, hCG.1.lr.1, by have := hGI.1.made; omega, by have := hGI.1.written; omega, ?_⟩
  dsimp only [Option.toList, List.cons_append, List.nil_append]
  refine zr_istore_n hC dX8_batch_7 (by decide) ?_
  refine zr_iload_n hC dX8_batch_8 rfl ?_
  refine zr_if_eq hC dX8_batch_9 (tgt := 14) (by decide) (fun c_9 => ?_) (fun c_9 => ?_)
  · have hb : brf G.1 = nI 0 := c_9.trans nI_0.symm
    rw [if_pos hb] at hQ
    refine zr_aload_n hC dX8_batch_14 rfl ?_
    refine zs_getr hC dX8_batch_15 fl_X8_19 (a := 0) (r := 17) rfl (by decide) ?_
    refine zr_aload_n hC dX8_batch_18 rfl ?_
    refine zs_getr hC dX8_batch_19 fl_X8_12 (a := 0) (r := 1) rfl (by decide) ?_
    refine zs_callV hC (b := 17) [_] [] dX8_batch_22 ml_X8_64 mtX3_keep tX3_keep (by decide) (by decide) (by decide) rfl rfl (by decide) (by decide +kernel) (Nat.le_of_ble_eq_true rfl) rfl ?_
    refine keepOK hCG hGI (fun S1 hC1 hf1 => ?_)
    dsimp only [Option.toList, List.nil_append]
    refine zr_aload_n hC dX8_batch_25 rfl ?_
    refine zs_getr hC dX8_batch_26 fl_X8_12 (a := 0) (r := 1) rfl (by decide) ?_
    refine zs_callV hC (b := 1) [] [] dX8_batch_29 ml_X8_95 mtX0_changeAll tX0_changeAll (by decide) (by decide) (by decide) rfl rfl (by decide) (by decide +kernel) (Nat.le_of_ble_eq_true rfl) rfl ?_
    refine ⟨G.1, rfl, hC1.1, hGI.1, hb, fun S2 hC2 hf2 => ?_⟩
    dsimp only [Option.toList, List.cons_append, List.nil_append]
    exact zr_ireturn hC hE dX8_batch_32 (hr _ _ (by first | exact hQ _ (hC1.book hGI.kp hC2 hf2) (hf1.tr (hf2.c (by decide))) | exact hQ _ hCG zfc.rf))
  · rw [if_neg (fun q => c_9 (q.trans nI_0))] at hQ
    refine zr_iload_n hC dX8_batch_12 rfl ?_
    exact zr_ireturn hC hE dX8_batch_13 (hr _ _ (by first | exact hQ _ (hC1.book hGI.kp hC2 hf2) (hf1.tr (hf2.c (by decide))) | exact hQ _ hCG zfc.rf))
theorem z_lt1 {v : Int32} (h : ¬ v ≤ nI 1) : nI 2 ≤ v := by
  rw [Int32.le_iff_toInt_le, nI_toInt (by decide)] at *
  omega
theorem z_01 {v : Int32} (h0 : ¬ v < 0) (h : v ≤ nI 1) : v = nI 0 ∨ v = nI 1 := by
  obtain ⟨j, hj, rfl⟩ := nI_of h0
  rw [nI_leI (by omega) (by decide)] at h
  rcases (by omega : j = 0 ∨ j = 1) with rfl | rfl
  · exact Or.inl rfl
  · exact Or.inr rfl
def spX8_late : zSp := fun av S Q => ∃ (G : zG) (x : Int32) (v : Int32), av = [.ref 0, .int x, .int v] ∧ CG S G ∧ GI G ∧ ∀ S', CG S' (fLate x v G).2 → zfc S S' → Q (some (.int (fLate x v G).1)) S'
set_option maxHeartbeats 4000000 in
set_option maxRecDepth 100000 in
theorem tX8_late : zM yX8_late cX8_late 5 (some .int) 5 spX8_late := by
  refine zM.of (by decide) (by decide) (fun av S Q h => by obtain ⟨G, x, v, rfl, hCG, hGI, hQ⟩ := h; exact Nat.le_of_ble_eq_true rfl) (fun C τ ι av S Q Qr h hr hC hE => ?_)
  obtain ⟨G, x, v, rfl, hCG, hGI, hQ⟩ := h
  show zR C τ ι _ 0 0 0 [(0, .ref 0), (1, .int x), (2, .int v)] [] _
  refine zr_iload_n hC dX8_late_0 rfl ?_
  refine zs_callS hC [_] [] dX8_late_1 ml_X8_57 mtX8_noMember tX8_noMember (by decide) (by decide) (by decide) rfl (Nat.le_of_ble_eq_true rfl) rfl ?_
  refine ⟨x, rfl, fun r e => ?_⟩
  rcases e with ⟨rfl, hx⟩ | ⟨rfl, m, hm, rfl⟩
  · simp only [fLate, mm_no hx] at hQ
    dsimp only [Option.toList, List.cons_append, List.nil_append]
    refine zr_if_ne hC dX8_late_4 (tgt := 16) (by decide) (fun c_4 => ?_) (fun c => absurd c (by decide +kernel))
    refine zk_iconst hC dX8_late_16 (v := (-1)) (by decide +kernel) ?_
    exact zr_ireturn hC hE dX8_late_17 (hr _ _ (by first | exact hQ _ (hC1.book hGI.kp hC2 hf2) (hf1.tr (hf2.c (by decide))) | exact hQ _ hCG zfc.rf))
  · dsimp only [Option.toList, List.cons_append, List.nil_append]
    refine zr_if_ne hC dX8_late_4 (tgt := 16) (by decide) (fun c => absurd c (by decide +kernel)) (fun c_4 => ?_)
    refine zr_iload_n hC dX8_late_7 rfl ?_
    refine zr_if_lt hC dX8_late_8 (tgt := 16) (by decide) (fun c_8 => ?_) (fun c_8 => ?_)
    · simp only [fLate, mm_yes hm (show 16 < 2147483648 by decide), mm_no (n := 2) (Or.inl c_8)] at hQ
      refine zk_iconst hC dX8_late_16 (v := (-1)) (by decide +kernel) ?_
      exact zr_ireturn hC hE dX8_late_17 (hr _ _ (by first | exact hQ _ (hC1.book hGI.kp hC2 hf2) (hf1.tr (hf2.c (by decide))) | exact hQ _ hCG zfc.rf))
    · refine zr_iload_n hC dX8_late_11 rfl ?_
      refine zk_iconst hC dX8_late_12 (v := nI 1) (by decide +kernel) ?_
      refine zr_icmp_le hC dX8_late_13 (tgt := 18) (by decide) (fun c_13 => ?_) (fun c_13 => ?_)
      · have hv2 : v = nI 0 ∨ v = nI 1 := z_01 c_8 c_13
        rcases hv2 with rfl | rfl
        · simp only [fLate, mm_yes hm (show 16 < 2147483648 by decide), mm_yes (show 0 < 2 by decide) (show 2 < 2147483648 by decide)] at hQ
          refine zr_iload_n hC dX8_late_18 rfl ?_
          refine zk_iconst hC dX8_late_19 (v := nI 1) (by decide +kernel) ?_
          refine zr_icmp_ne hC dX8_late_20 (tgt := 27) (by decide) (fun c_20 => ?_) (fun c => absurd c (by decide +kernel))
          refine zk_iconst hC dX8_late_27 (v := nI 0) (by decide +kernel) ?_
          refine zr_istore_n hC dX8_late_28 (by decide) ?_
          refine zr_iload_n hC dX8_late_29 rfl ?_
          refine zr_if_eq hC dX8_late_30 (tgt := 44) (by decide) (fun c_30 => ?_) (fun c => absurd c (by decide +kernel))
          refine zr_aload_n hC dX8_late_44 rfl ?_
          refine zs_getr hC dX8_late_45 fl_X8_12 (a := 0) (r := 1) rfl (by decide) ?_
          refine zr_iload_n hC dX8_late_48 rfl ?_
          refine zs_callV hC (b := 1) [_] [] dX8_late_49 ml_X8_101 mtX0_isAsleep tX0_isAsleep (by decide) (by decide) (by decide) rfl rfl (by decide) (by decide +kernel) (Nat.le_of_ble_eq_true rfl) rfl ?_
          refine ⟨m, G.1, rfl, hm, hCG.1.ms, fun r e => ?_⟩
          rcases e with ⟨rfl, hx⟩ | ⟨rfl, hx⟩
          · rw [if_pos hx] at hQ
            have h0 : G.1 0 m ≠ 0 := by have := hGI.1.late hm; omega
            dsimp only [Option.toList, List.cons_append, List.nil_append]
            refine zr_istore hC dX8_late_52 (by decide) ?_
            refine zr_iload hC dX8_late_54 rfl ?_
            refine zr_if_ne hC dX8_late_56 (tgt := 62) (by decide) (fun c_56 => ?_) (fun c => absurd c (by decide +kernel))
            refine zr_aload_n hC dX8_late_62 rfl ?_
            refine zs_getr hC dX8_late_63 fl_X8_19 (a := 0) (r := 17) rfl (by decide) ?_
            refine zr_aload_n hC dX8_late_66 rfl ?_
            refine zs_getr hC dX8_late_67 fl_X8_12 (a := 0) (r := 1) rfl (by decide) ?_
            refine zs_callV hC (b := 17) [_] [] dX8_late_70 ml_X8_64 mtX3_keep tX3_keep (by decide) (by decide) (by decide) rfl rfl (by decide) (by decide +kernel) (Nat.le_of_ble_eq_true rfl) rfl ?_
            refine keepOK hCG hGI (fun S1 hC1 hf1 => ?_)
            dsimp only [Option.toList, List.nil_append]
            refine zr_iload_n hC dX8_late_73 rfl ?_
            refine zr_if_eq hC dX8_late_74 (tgt := 88) (by decide) (fun c_74 => ?_) (fun c => absurd c (by decide +kernel))
            refine zr_aload_n hC dX8_late_88 rfl ?_
            refine zs_getr hC dX8_late_89 fl_X8_12 (a := 0) (r := 1) rfl (by decide) ?_
            refine zr_iload_n hC dX8_late_92 rfl ?_
            refine zs_callV hC (b := 1) [_] [] dX8_late_93 ml_X8_107 mtX0_wakeUp tX0_wakeUp (by decide) (by decide) (by decide) rfl rfl (by decide) (by decide +kernel) (Nat.le_of_ble_eq_true rfl) rfl ?_
            refine ⟨m, G.1, rfl, hm, hC1.1, hGI.1.rd, h0, fun S2 hC2 hf2 => ?_⟩
            dsimp only [Option.toList, List.cons_append, List.nil_append]
            exact zr_ireturn hC hE dX8_late_96 (hr _ _ (by first | exact hQ _ (hC1.book hGI.kp hC2 hf2) (hf1.tr (hf2.c (by decide))) | exact hQ _ hCG zfc.rf))
          · rw [if_neg hx] at hQ
            dsimp only [Option.toList, List.cons_append, List.nil_append]
            refine zr_istore hC dX8_late_52 (by decide) ?_
            refine zr_iload hC dX8_late_54 rfl ?_
            refine zr_if_ne hC dX8_late_56 (tgt := 62) (by decide) (fun c => absurd c (by decide +kernel)) (fun c_56 => ?_)
            refine zk_bipush hC dX8_late_59 (v := (-2)) (by decide +kernel) ?_
            exact zr_ireturn hC hE dX8_late_61 (hr _ _ (by first | exact hQ _ (hC1.book hGI.kp hC2 hf2) (hf1.tr (hf2.c (by decide))) | exact hQ _ hCG zfc.rf))
        · simp only [fLate, mm_yes hm (show 16 < 2147483648 by decide), mm_yes (show 1 < 2 by decide) (show 2 < 2147483648 by decide)] at hQ
          refine zr_iload_n hC dX8_late_18 rfl ?_
          refine zk_iconst hC dX8_late_19 (v := nI 1) (by decide +kernel) ?_
          refine zr_icmp_ne hC dX8_late_20 (tgt := 27) (by decide) (fun c => absurd c (by decide +kernel)) (fun c_20 => ?_)
          refine zk_iconst hC dX8_late_23 (v := nI 1) (by decide +kernel) ?_
          refine zr_goto hC dX8_late_24 (tgt := 28) (by decide) ?_
          refine zr_istore_n hC dX8_late_28 (by decide) ?_
          refine zr_iload_n hC dX8_late_29 rfl ?_
          refine zr_if_eq hC dX8_late_30 (tgt := 44) (by decide) (fun c => absurd c (by decide +kernel)) (fun c_30 => ?_)
          refine zr_aload_n hC dX8_late_33 rfl ?_
          refine zs_getr hC dX8_late_34 fl_X8_12 (a := 0) (r := 1) rfl (by decide) ?_
          refine zr_iload_n hC dX8_late_37 rfl ?_
          refine zs_callV hC (b := 1) [_] [] dX8_late_38 ml_X8_98 mtX0_isAwake tX0_isAwake (by decide) (by decide) (by decide) rfl rfl (by decide) (by decide +kernel) (Nat.le_of_ble_eq_true rfl) rfl ?_
          refine ⟨m, G.1, rfl, hm, hCG.1.sr, hCG.1.ms, fun r e => ?_⟩
          rcases e with ⟨rfl, hx⟩ | ⟨rfl, hx⟩
          · rw [if_pos hx] at hQ
            dsimp only [Option.toList, List.cons_append, List.nil_append]
            refine zr_goto hC dX8_late_41 (tgt := 52) (by decide) ?_
            refine zr_istore hC dX8_late_52 (by decide) ?_
            refine zr_iload hC dX8_late_54 rfl ?_
            refine zr_if_ne hC dX8_late_56 (tgt := 62) (by decide) (fun c_56 => ?_) (fun c => absurd c (by decide +kernel))
            refine zr_aload_n hC dX8_late_62 rfl ?_
            refine zs_getr hC dX8_late_63 fl_X8_19 (a := 0) (r := 17) rfl (by decide) ?_
            refine zr_aload_n hC dX8_late_66 rfl ?_
            refine zs_getr hC dX8_late_67 fl_X8_12 (a := 0) (r := 1) rfl (by decide) ?_
            refine zs_callV hC (b := 17) [_] [] dX8_late_70 ml_X8_64 mtX3_keep tX3_keep (by decide) (by decide) (by decide) rfl rfl (by decide) (by decide +kernel) (Nat.le_of_ble_eq_true rfl) rfl ?_
            refine keepOK hCG hGI (fun S1 hC1 hf1 => ?_)
            dsimp only [Option.toList, List.nil_append]
            refine zr_iload_n hC dX8_late_73 rfl ?_
            refine zr_if_eq hC dX8_late_74 (tgt := 88) (by decide) (fun c => absurd c (by decide +kernel)) (fun c_74 => ?_)
            refine zr_aload_n hC dX8_late_77 rfl ?_
            refine zs_getr hC dX8_late_78 fl_X8_12 (a := 0) (r := 1) rfl (by decide) ?_
            refine zr_iload_n hC dX8_late_81 rfl ?_
            refine zs_callV hC (b := 1) [_] [] dX8_late_82 ml_X8_104 mtX0_fallAsleep tX0_fallAsleep (by decide) (by decide) (by decide) rfl rfl (by decide) (by decide +kernel) (Nat.le_of_ble_eq_true rfl) rfl ?_
            refine ⟨m, G.1, rfl, hm, hC1.1, fun S2 hC2 hf2 => ?_⟩
            dsimp only [Option.toList, List.cons_append, List.nil_append]
            refine zr_goto hC dX8_late_85 (tgt := 96) (by decide) ?_
            exact zr_ireturn hC hE dX8_late_96 (hr _ _ (by first | exact hQ _ (hC1.book hGI.kp hC2 hf2) (hf1.tr (hf2.c (by decide))) | exact hQ _ hCG zfc.rf))
          · rw [if_neg hx] at hQ
            dsimp only [Option.toList, List.cons_append, List.nil_append]
            refine zr_goto hC dX8_late_41 (tgt := 52) (by decide) ?_
            refine zr_istore hC dX8_late_52 (by decide) ?_
            refine zr_iload hC dX8_late_54 rfl ?_
            refine zr_if_ne hC dX8_late_56 (tgt := 62) (by decide) (fun c => absurd c (by decide +kernel)) (fun c_56 => ?_)
            refine zk_bipush hC dX8_late_59 (v := (-2)) (by decide +kernel) ?_
            exact zr_ireturn hC hE dX8_late_61 (hr _ _ (by first | exact hQ _ (hC1.book hGI.kp hC2 hf2) (hf1.tr (hf2.c (by decide))) | exact hQ _ hCG zfc.rf))
      · have hv2 : nI 2 ≤ v := z_lt1 c_13
        simp only [fLate, mm_yes hm (show 16 < 2147483648 by decide), mm_no (Or.inr hv2)] at hQ
        refine zk_iconst hC dX8_late_16 (v := (-1)) (by decide +kernel) ?_
        exact zr_ireturn hC hE dX8_late_17 (hr _ _ (by first | exact hQ _ (hC1.book hGI.kp hC2 hf2) (hf1.tr (hf2.c (by decide))) | exact hQ _ hCG zfc.rf))
def spX8_lose : zSp := fun av S Q => ∃ (G : zG) (x : Int32) (n : Int32), av = [.ref 0, .int x, .int n] ∧ CG S G ∧ GI G ∧ ∀ S', CG S' (fLose x n G).2 → zfc S S' → Q (some (.int (fLose x n G).1)) S'
set_option maxHeartbeats 4000000 in
set_option maxRecDepth 100000 in
theorem tX8_lose : zM yX8_lose cX8_lose 3 (some .int) 4 spX8_lose := by
  refine zM.of (by decide) (by decide) (fun av S Q h => by obtain ⟨G, x, n, rfl, hCG, hGI, hQ⟩ := h; exact Nat.le_of_ble_eq_true rfl) (fun C τ ι av S Q Qr h hr hC hE => ?_)
  obtain ⟨G, x, n, rfl, hCG, hGI, hQ⟩ := h
  show zR C τ ι _ 0 0 0 [(0, .ref 0), (1, .int x), (2, .int n)] [] _
  refine zr_iload_n hC dX8_lose_0 rfl ?_
  refine zs_callS hC [_] [] dX8_lose_1 ml_X8_57 mtX8_noMember tX8_noMember (by decide) (by decide) (by decide) rfl (Nat.le_of_ble_eq_true rfl) rfl ?_
  refine ⟨x, rfl, fun r e => ?_⟩
  rcases e with ⟨rfl, hx⟩ | ⟨rfl, m, hm, rfl⟩
  · simp only [fLose, mm_no hx] at hQ
    dsimp only [Option.toList, List.cons_append, List.nil_append]
    refine zr_if_ne hC dX8_lose_4 (tgt := 18) (by decide) (fun c_4 => ?_) (fun c => absurd c (by decide +kernel))
    refine zk_iconst hC dX8_lose_18 (v := (-1)) (by decide +kernel) ?_
    exact zr_ireturn hC hE dX8_lose_19 (hr _ _ (by first | exact hQ _ (hC1.book hGI.kp hC2 hf2) (hf1.tr (hf2.c (by decide))) | exact hQ _ hCG zfc.rf))
  · dsimp only [Option.toList, List.cons_append, List.nil_append]
    refine zr_if_ne hC dX8_lose_4 (tgt := 18) (by decide) (fun c => absurd c (by decide +kernel)) (fun c_4 => ?_)
    refine zr_iload_n hC dX8_lose_7 rfl ?_
    refine zk_iconst hC dX8_lose_8 (v := nI 1) (by decide +kernel) ?_
    refine zr_icmp_lt hC dX8_lose_9 (tgt := 18) (by decide) (fun c_9 => ?_) (fun c_9 => ?_)
    · simp only [fLose, mm_yes hm (show 16 < 2147483648 by decide), rg_no (b := 40) (Or.inl c_9)] at hQ
      refine zk_iconst hC dX8_lose_18 (v := (-1)) (by decide +kernel) ?_
      exact zr_ireturn hC hE dX8_lose_19 (hr _ _ (by first | exact hQ _ (hC1.book hGI.kp hC2 hf2) (hf1.tr (hf2.c (by decide))) | exact hQ _ hCG zfc.rf))
    · refine zr_iload_n hC dX8_lose_12 rfl ?_
      refine zk_bipush hC dX8_lose_13 (v := nI 40) (by decide +kernel) ?_
      refine zr_icmp_le hC dX8_lose_15 (tgt := 20) (by decide) (fun c_15 => ?_) (fun c_15 => ?_)
      · obtain ⟨k, k1, k2, rfl⟩ := rg_in c_9 (Int32.not_lt.mpr c_15) (by decide) (by decide)
        simp only [fLose, mm_yes hm (show 16 < 2147483648 by decide), rg_yes k1 k2 (by decide)] at hQ
        refine zr_aload_n hC dX8_lose_20 rfl ?_
        refine zs_getr hC dX8_lose_21 fl_X8_12 (a := 0) (r := 1) rfl (by decide) ?_
        refine zr_iload_n hC dX8_lose_24 rfl ?_
        refine zs_callV hC (b := 1) [_] [] dX8_lose_25 ml_X8_101 mtX0_isAsleep tX0_isAsleep (by decide) (by decide) (by decide) rfl rfl (by decide) (by decide +kernel) (Nat.le_of_ble_eq_true rfl) rfl ?_
        refine ⟨m, G.1, rfl, hm, hCG.1.ms, fun r e => ?_⟩
        rcases e with ⟨rfl, hx⟩ | ⟨rfl, hx⟩
        · rw [if_pos hx] at hQ
          have h0 : G.1 0 m ≠ 0 := by have := hGI.1.late hm; omega
          dsimp only [Option.toList, List.cons_append, List.nil_append]
          refine zr_if_ne hC dX8_lose_28 (tgt := 34) (by decide) (fun c_28 => ?_) (fun c => absurd c (by decide +kernel))
          refine zr_aload_n hC dX8_lose_34 rfl ?_
          refine zs_getr hC dX8_lose_35 fl_X8_19 (a := 0) (r := 17) rfl (by decide) ?_
          refine zr_aload_n hC dX8_lose_38 rfl ?_
          refine zs_getr hC dX8_lose_39 fl_X8_12 (a := 0) (r := 1) rfl (by decide) ?_
          refine zs_callV hC (b := 17) [_] [] dX8_lose_42 ml_X8_64 mtX3_keep tX3_keep (by decide) (by decide) (by decide) rfl rfl (by decide) (by decide +kernel) (Nat.le_of_ble_eq_true rfl) rfl ?_
          refine keepOK hCG hGI (fun S1 hC1 hf1 => ?_)
          dsimp only [Option.toList, List.nil_append]
          refine zr_aload_n hC dX8_lose_45 rfl ?_
          refine zs_getr hC dX8_lose_46 fl_X8_12 (a := 0) (r := 1) rfl (by decide) ?_
          refine zr_iload_n hC dX8_lose_49 rfl ?_
          refine zr_iload_n hC dX8_lose_50 rfl ?_
          refine zs_callV hC (b := 1) [_, _] [] dX8_lose_51 ml_X8_110 mtX0_loseLetters tX0_loseLetters (by decide) (by decide) (by decide) rfl rfl (by decide) (by decide +kernel) (Nat.le_of_ble_eq_true rfl) rfl ?_
          refine ⟨m, k, G.1, rfl, hm, by omega, hC1.1, hGI.1.rd, h0, fun S2 hC2 hf2 => ?_⟩
          dsimp only [Option.toList, List.cons_append, List.nil_append]
          exact zr_ireturn hC hE dX8_lose_54 (hr _ _ (by first | exact hQ _ (hC1.book hGI.kp hC2 hf2) (hf1.tr (hf2.c (by decide))) | exact hQ _ hCG zfc.rf))
        · rw [if_neg hx] at hQ
          dsimp only [Option.toList, List.cons_append, List.nil_append]
          refine zr_if_ne hC dX8_lose_28 (tgt := 34) (by decide) (fun c => absurd c (by decide +kernel)) (fun c_28 => ?_)
          refine zk_bipush hC dX8_lose_31 (v := (-2)) (by decide +kernel) ?_
          exact zr_ireturn hC hE dX8_lose_33 (hr _ _ (by first | exact hQ _ (hC1.book hGI.kp hC2 hf2) (hf1.tr (hf2.c (by decide))) | exact hQ _ hCG zfc.rf))
      · simp only [fLose, mm_yes hm (show 16 < 2147483648 by decide), rg_no (a := 1) (Or.inr (Int32.not_le.mp c_15))] at hQ
        refine zk_iconst hC dX8_lose_18 (v := (-1)) (by decide +kernel) ?_
        exact zr_ireturn hC hE dX8_lose_19 (hr _ _ (by first | exact hQ _ (hC1.book hGI.kp hC2 hf2) (hf1.tr (hf2.c (by decide))) | exact hQ _ hCG zfc.rf))
def spX8_mend : zSp := fun av S Q => ∃ (G : zG) (x : Int32), av = [.ref 0, .int x] ∧ CG S G ∧ GI G ∧ ∀ S', CG S' (fMend x G).2 → zfc S S' → Q (some (.int (fMend x G).1)) S'
set_option maxHeartbeats 4000000 in
set_option maxRecDepth 100000 in
theorem tX8_mend : zM yX8_mend cX8_mend 3 (some .int) 6 spX8_mend := by
  refine zM.of (by decide) (by decide) (fun av S Q h => by obtain ⟨G, x, rfl, hCG, hGI, hQ⟩ := h; exact Nat.le_of_ble_eq_true rfl) (fun C τ ι av S Q Qr h hr hC hE => ?_)
  obtain ⟨G, x, rfl, hCG, hGI, hQ⟩ := h
  show zR C τ ι _ 0 0 0 [(0, .ref 0), (1, .int x)] [] _
  refine zr_iload_n hC dX8_mend_0 rfl ?_
  refine zs_callS hC [_] [] dX8_mend_1 ml_X8_57 mtX8_noMember tX8_noMember (by decide) (by decide) (by decide) rfl (Nat.le_of_ble_eq_true rfl) rfl ?_
  refine ⟨x, rfl, fun r e => ?_⟩
  rcases e with ⟨rfl, hx⟩ | ⟨rfl, m, hm, rfl⟩
  · simp only [fMend, mm_no hx] at hQ
    dsimp only [Option.toList, List.cons_append, List.nil_append]
    refine zr_if_eq hC dX8_mend_4 (tgt := 9) (by decide) (fun c => absurd c (by decide +kernel)) (fun c_4 => ?_)
    refine zk_iconst hC dX8_mend_7 (v := (-1)) (by decide +kernel) ?_
    exact zr_ireturn hC hE dX8_mend_8 (hr _ _ (by first | exact hQ _ (hC1.book hGI.kp hC2 hf2) (hf1.tr (hf2.c (by decide))) | exact hQ _ hCG zfc.rf))
  · simp only [fMend, mm_yes hm (show 16 < 2147483648 by decide)] at hQ
    dsimp only [Option.toList, List.cons_append, List.nil_append]
    refine zr_if_eq hC dX8_mend_4 (tgt := 9) (by decide) (fun c_4 => ?_) (fun c => absurd c (by decide +kernel))
    refine zr_aload_n hC dX8_mend_9 rfl ?_
    refine zs_getr hC dX8_mend_10 fl_X8_12 (a := 0) (r := 1) rfl (by decide) ?_
    refine zr_iload_n hC dX8_mend_13 rfl ?_
    refine zs_callV hC (b := 1) [_] [] dX8_mend_14 ml_X8_114 mtX0_mendRefusal tX0_mendRefusal (by decide) (by decide) (by decide) rfl rfl (by decide) (by decide +kernel) (Nat.le_of_ble_eq_true rfl) rfl ?_
    refine ⟨m, G.1, rfl, hm, hCG.1, hGI.1, ?_⟩
    dsimp only [Option.toList, List.cons_append, List.nil_append]
    refine zr_istore_n hC dX8_mend_17 (by decide) ?_
    refine zr_iload_n hC dX8_mend_18 rfl ?_
    refine zr_if_eq hC dX8_mend_19 (tgt := 24) (by decide) (fun c_19 => ?_) (fun c_19 => ?_)
    · have hb : mrf G.1 m = nI 0 := c_19.trans nI_0.symm
      rw [if_pos hb] at hQ
      refine zr_aload_n hC dX8_mend_24 rfl ?_
      refine zs_getr hC dX8_mend_25 fl_X8_19 (a := 0) (r := 17) rfl (by decide) ?_
      refine zr_aload_n hC dX8_mend_28 rfl ?_
      refine zs_getr hC dX8_mend_29 fl_X8_12 (a := 0) (r := 1) rfl (by decide) ?_
      refine zs_callV hC (b := 17) [_] [] dX8_mend_32 ml_X8_64 mtX3_keep tX3_keep (by decide) (by decide) (by decide) rfl rfl (by decide) (by decide +kernel) (Nat.le_of_ble_eq_true rfl) rfl ?_
      refine keepOK hCG hGI (fun S1 hC1 hf1 => ?_)
      dsimp only [Option.toList, List.nil_append]
      refine zr_aload_n hC dX8_mend_35 rfl ?_
      refine zs_getr hC dX8_mend_36 fl_X8_12 (a := 0) (r := 1) rfl (by decide) ?_
      refine zr_iload_n hC dX8_mend_39 rfl ?_
      refine zs_callV hC (b := 1) [_] [] dX8_mend_40 ml_X8_117 mtX0_mendKeys tX0_mendKeys (by decide) (by decide) (by decide) rfl rfl (by decide) (by decide +kernel) (Nat.le_of_ble_eq_true rfl) rfl ?_
      refine ⟨m, G.1, rfl, hm, hC1.1, hGI.1, hb, fun S2 hC2 hf2 => ?_⟩
      dsimp only [Option.toList, List.cons_append, List.nil_append]
      exact zr_ireturn hC hE dX8_mend_43 (hr _ _ (by first | exact hQ _ (hC1.book hGI.kp hC2 hf2) (hf1.tr (hf2.c (by decide))) | exact hQ _ hCG zfc.rf))
    · rw [if_neg (fun q => c_19 (q.trans nI_0))] at hQ
      refine zr_iload_n hC dX8_mend_22 rfl ?_
      exact zr_ireturn hC hE dX8_mend_23 (hr _ _ (by first | exact hQ _ (hC1.book hGI.kp hC2 hf2) (hf1.tr (hf2.c (by decide))) | exact hQ _ hCG zfc.rf))
def spX8_begin : zSp := fun av S Q => ∃ (G : zG), av = [.ref 0] ∧ CG S G ∧ GI G ∧ ∀ S', CG S' (fBegin G).2 → zfc S S' → Q (some (.int (fBegin G).1)) S'
set_option maxHeartbeats 4000000 in
set_option maxRecDepth 100000 in
theorem tX8_begin : zM yX8_begin cX8_begin 2 (some .int) 4 spX8_begin := by
  refine zM.of (by decide) (by decide) (fun av S Q h => by obtain ⟨G, rfl, hCG, hGI, hQ⟩ := h; exact Nat.le_of_ble_eq_true rfl) (fun C τ ι av S Q Qr h hr hC hE => ?_)
  obtain ⟨G, rfl, hCG, hGI, hQ⟩ := h
  unfold fBegin at hQ
  show zR C τ ι _ 0 0 0 [(0, .ref 0)] [] _
  refine zr_aload_n hC dX8_begin_0 rfl ?_
  refine zs_getr hC dX8_begin_1 fl_X8_12 (a := 0) (r := 1) rfl (by decide) ?_
  refine zs_getr hC dX8_begin_4 fl_X8_120 (a := 1) (r := 5) rfl (by decide) ?_
  refine zv_geti hC dX8_begin_7 fl_X8_124 (a := 5) rfl (by decide) (hCG.1.kr.1) ?_
  refine zr_if_ne hC dX8_begin_10 (tgt := 26) (by decide) (fun c_10 => ?_) (fun c_10 => ?_)
  · rw [z_ne0 (by have := hGI.1.made; omega)] at c_10
    rw [if_neg (fun q => c_10 q.1)] at hQ
    refine zr_aload_n hC dX8_begin_26 rfl ?_
    refine zs_getr hC dX8_begin_27 fl_X8_19 (a := 0) (r := 17) rfl (by decide) ?_
    refine zr_aload_n hC dX8_begin_30 rfl ?_
    refine zs_getr hC dX8_begin_31 fl_X8_12 (a := 0) (r := 1) rfl (by decide) ?_
    refine zs_callV hC (b := 17) [_] [] dX8_begin_34 ml_X8_64 mtX3_keep tX3_keep (by decide) (by decide) (by decide) rfl rfl (by decide) (by decide +kernel) (Nat.le_of_ble_eq_true rfl) rfl ?_
    refine keepOK hCG hGI (fun S1 hC1 hf1 => ?_)
    dsimp only [Option.toList, List.nil_append]
    refine zr_aload_n hC dX8_begin_37 rfl ?_
    refine zs_getr hC dX8_begin_38 fl_X8_12 (a := 0) (r := 1) rfl (by decide) ?_
    refine zs_getr hC dX8_begin_41 fl_X8_120 (a := 1) (r := 5) rfl (by decide) ?_
    refine zv_geti hC dX8_begin_44 fl_X8_124 (a := 5) rfl (by decide) (hC1.1.kr.1) ?_
    refine zr_istore_n hC dX8_begin_47 (by decide) ?_
    refine zr_aload_n hC dX8_begin_48 rfl ?_
    refine zs_getr hC dX8_begin_49 fl_X8_12 (a := 0) (r := 1) rfl (by decide) ?_
    refine zs_callV hC (b := 1) [] [] dX8_begin_52 ml_X8_129 mtX0_beginAnew tX0_beginAnew (by decide) (by decide) (by decide) rfl rfl (by decide) (by decide +kernel) (Nat.le_of_ble_eq_true rfl) rfl ?_
    refine ⟨G.1, rfl, hC1.1, fun S2 hC2 hf2 => ?_⟩
    dsimp only [Option.toList, List.nil_append]
    refine zr_iload_n hC dX8_begin_55 rfl ?_
    exact zr_ireturn hC hE dX8_begin_56 (hr _ _ (by first | exact hQ _ (hC1.book hGI.kp hC2 hf2) (hf1.tr (hf2.c (by decide))) | exact hQ _ hCG zfc.rf))
  · rw [z_ne0 (by have := hGI.1.made; omega)] at c_10
    refine zr_aload_n hC dX8_begin_13 rfl ?_
    refine zs_getr hC dX8_begin_14 fl_X8_12 (a := 0) (r := 1) rfl (by decide) ?_
    refine zv_geti hC dX8_begin_17 fl_X8_72 (a := 1) rfl (by decide) (hCG.1.ms.1) ?_
    refine zr_if_ne hC dX8_begin_20 (tgt := 26) (by decide) (fun c_20 => ?_) (fun c_20 => ?_)
    · rw [z_eq0 (Nat.lt_trans (dm_lt _) (by decide))] at c_20
      rw [if_neg (fun q => c_20 q.2)] at hQ
      refine zr_aload_n hC dX8_begin_26 rfl ?_
      refine zs_getr hC dX8_begin_27 fl_X8_19 (a := 0) (r := 17) rfl (by decide) ?_
      refine zr_aload_n hC dX8_begin_30 rfl ?_
      refine zs_getr hC dX8_begin_31 fl_X8_12 (a := 0) (r := 1) rfl (by decide) ?_
      refine zs_callV hC (b := 17) [_] [] dX8_begin_34 ml_X8_64 mtX3_keep tX3_keep (by decide) (by decide) (by decide) rfl rfl (by decide) (by decide +kernel) (Nat.le_of_ble_eq_true rfl) rfl ?_
      refine keepOK hCG hGI (fun S1 hC1 hf1 => ?_)
      dsimp only [Option.toList, List.nil_append]
      refine zr_aload_n hC dX8_begin_37 rfl ?_
      refine zs_getr hC dX8_begin_38 fl_X8_12 (a := 0) (r := 1) rfl (by decide) ?_
      refine zs_getr hC dX8_begin_41 fl_X8_120 (a := 1) (r := 5) rfl (by decide) ?_
      refine zv_geti hC dX8_begin_44 fl_X8_124 (a := 5) rfl (by decide) (hC1.1.kr.1) ?_
      refine zr_istore_n hC dX8_begin_47 (by decide) ?_
      refine zr_aload_n hC dX8_begin_48 rfl ?_
      refine zs_getr hC dX8_begin_49 fl_X8_12 (a := 0) (r := 1) rfl (by decide) ?_
      refine zs_callV hC (b := 1) [] [] dX8_begin_52 ml_X8_129 mtX0_beginAnew tX0_beginAnew (by decide) (by decide) (by decide) rfl rfl (by decide) (by decide +kernel) (Nat.le_of_ble_eq_true rfl) rfl ?_
      refine ⟨G.1, rfl, hC1.1, fun S2 hC2 hf2 => ?_⟩
      dsimp only [Option.toList, List.nil_append]
      refine zr_iload_n hC dX8_begin_55 rfl ?_
      exact zr_ireturn hC hE dX8_begin_56 (hr _ _ (by first | exact hQ _ (hC1.book hGI.kp hC2 hf2) (hf1.tr (hf2.c (by decide))) | exact hQ _ hCG zfc.rf))
    · rw [z_eq0 (Nat.lt_trans (dm_lt _) (by decide))] at c_20
      rw [if_pos ⟨c_10, c_20⟩] at hQ
      refine zk_bipush hC dX8_begin_23 (v := (-2)) (by decide +kernel) ?_
      exact zr_ireturn hC hE dX8_begin_25 (hr _ _ (by first | exact hQ _ (hC1.book hGI.kp hC2 hf2) (hf1.tr (hf2.c (by decide))) | exact hQ _ hCG zfc.rf))
