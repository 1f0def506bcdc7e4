/-! THE CALLS OF THE MODEL: comings and leavings -/
def spX9_come : zSp := fun av S Q => ∃ (G : zG) (x : Int32), av = [.ref 245, .int x] ∧ MG S G ∧ GI G ∧ ∀ S', MG S' (fCome x G).2 → zfm S S' → Q (some (.int (fCome x G).1)) S'
set_option maxHeartbeats 4000000 in
set_option maxRecDepth 100000 in
theorem tX9_come : zM yX9_come cX9_come 2 (some .int) 3 spX9_come := by
  refine zM.of (by decide) (by decide) (fun av S Q h => by obtain ⟨G, x, rfl, hMG, hGI, hQ⟩ := h; exact Nat.le_of_ble_eq_true rfl) (fun C τ ι av S Q Qr h hr hC hE => ?_)
  obtain ⟨G, x, rfl, hMG, hGI, hQ⟩ := h
  show zR C τ ι _ 0 0 0 [(0, .ref 245), (1, .int x)] [] _
  refine zr_iload_n hC dX9_come_0 rfl ?_
  refine zs_callS hC [_] [] dX9_come_1 ml_X9_98 mtX9_isMember tX9_isMember (by decide) (by decide) (by decide) rfl (Nat.le_of_ble_eq_true rfl) rfl ?_
  refine ⟨x, rfl, fun r e => ?_⟩
  rcases e with ⟨rfl, m, hm, rfl⟩ | ⟨rfl, hx⟩
  · simp only [fCome, mm_yes hm (show 16 < 2147483648 by decide)] at hQ
    dsimp only [Option.toList, List.cons_append, List.nil_append]
    refine zr_if_ne hC dX9_come_4 (tgt := 9) (by decide) (fun c_4 => ?_) (fun c => absurd c (by decide +kernel))
    refine zr_aload_n hC dX9_come_9 rfl ?_
    refine zr_iload_n hC dX9_come_10 rfl ?_
    refine zs_callV hC (b := 245) [_] [] dX9_come_11 ml_X9_68 mtX9_sits tX9_sits (by decide) (by decide) (by decide) rfl rfl (by decide) (by decide +kernel) (Nat.le_of_ble_eq_true rfl) rfl ?_
    refine ⟨m, G.1, rfl, hm, hMG.1, fun r e => ?_⟩
    rcases e with ⟨rfl, hx⟩ | ⟨rfl, hx⟩
    · rw [if_neg (fun q => hx q.1)] at hQ
      dsimp only [Option.toList, List.cons_append, List.nil_append]
      refine zr_if_ne hC dX9_come_14 (tgt := 27) (by decide) (fun c_14 => ?_) (fun c => absurd c (by decide +kernel))
      refine zk_bipush hC dX9_come_27 (v := (-2)) (by decide +kernel) ?_
      exact zr_ireturn hC hE dX9_come_29 (hr _ _ (by first | exact hQ _ (hM1.book hM2 (zfrm.rf.put (by decide) (by decide))) (hf1.tr (zfrm.m (lo := 246) (hi := 247) (zfrm.rf.put (by decide) (by decide)) (by decide))) | exact hQ _ hMG zfm.rf))
    · dsimp only [Option.toList, List.cons_append, List.nil_append]
      refine zr_if_ne hC dX9_come_14 (tgt := 27) (by decide) (fun c => absurd c (by decide +kernel)) (fun c_14 => ?_)
      refine zr_aload_n hC dX9_come_17 rfl ?_
      refine zr_iload_n hC dX9_come_18 rfl ?_
      refine zk_iconst hC dX9_come_19 (v := nI 3) (by decide +kernel) ?_
      refine zs_callV hC (b := 245) [_, _] [] dX9_come_20 ml_X9_64 mtX9_of tX9_of (by decide) (by decide) (by decide) rfl rfl (by decide) (by decide +kernel) (Nat.le_of_ble_eq_true rfl) rfl ?_
      refine ⟨m, 3, rfl, hm, by decide, ?_⟩
      rw [show S.1 246 (4 + 6 * m + 3) = nI (G.1 1 m) from MW.mem hMG.1 hm (by decide)]
      dsimp only [Option.toList, List.cons_append, List.nil_append]
      refine zk_iconst hC dX9_come_23 (v := nI 1) (by decide +kernel) ?_
      refine zr_icmp_ne hC dX9_come_24 (tgt := 30) (by decide) (fun c_24 => ?_) (fun c_24 => ?_)
      · have c1 : G.1 1 m ≠ 1 := fun q => c_24 (by rw [q])
        rw [if_pos ⟨hx, c1⟩] at hQ
        refine zr_aload_n hC dX9_come_30 rfl ?_
        refine zs_callV hC (b := 245) [] [] dX9_come_31 ml_X9_101 mtX9_notes tX9_notes (by decide) (by decide) (by decide) rfl rfl (by decide) (by decide +kernel) (Nat.le_of_ble_eq_true rfl) rfl ?_
        refine keepM hMG (fun S1 hM1 hf1 _ _ => ?_)
        dsimp only [Option.toList, List.nil_append]
        refine zr_aload_n hC dX9_come_34 rfl ?_
        refine zr_iload_n hC dX9_come_35 rfl ?_
        refine zk_iconst hC dX9_come_36 (v := nI 3) (by decide +kernel) ?_
        refine zk_iconst hC dX9_come_37 (v := nI 1) (by decide +kernel) ?_
        refine zs_callV hC (b := 245) [_, _, _] [] dX9_come_38 ml_X9_104 mtX9_put tX9_put (by decide) (by decide) (by decide) rfl rfl (by decide) (by decide +kernel) (Nat.le_of_ble_eq_true rfl) rfl ?_
        refine ⟨m, 3, _, rfl, hm, by decide, ?_⟩
        have hM2 : MW ((zput S1 246 (4 + 6 * m + 3) (nI 1)).1 246) (dset G.1 1 m 1) := by rw [zput_arr]; exact MW.put (w := 3) hM1.1 hm (by decide) ⟨fun q => absurd q (by decide), fun _ => by decide, fun q => absurd q (by decide)⟩
        dsimp only [Option.toList, List.nil_append]
        refine zr_aload_n hC dX9_come_41 rfl ?_
        refine zk_iconst hC dX9_come_42 (v := nI 3) (by decide +kernel) ?_
        refine zk_iconst hC dX9_come_43 (v := nI 1) (by decide +kernel) ?_
        refine zs_callV hC (b := 245) [_, _] [] dX9_come_44 ml_X9_108 mtX9_those tX9_those (by decide) (by decide) (by decide) rfl rfl (by decide) (by decide +kernel) (Nat.le_of_ble_eq_true rfl) rfl ?_
        refine ⟨3, 1, dset G.1 1 m 1, rfl, Or.inr (Or.inr rfl), by decide, hM2, ?_⟩
        dsimp only [Option.toList, List.cons_append, List.nil_append]
        refine zs_callS hC [_] [] dX9_come_47 ml_X9_111 mtX9_bits tX9_bits (by decide) (by decide) (by decide) rfl (Nat.le_of_ble_eq_true rfl) rfl ?_
        refine ⟨_, rfl, ?_⟩
        dsimp only [Option.toList, List.cons_append, List.nil_append]
        exact zr_ireturn hC hE dX9_come_50 (hr _ _ (by first | exact hQ _ (hM1.book hM2 (zfrm.rf.put (by decide) (by decide))) (hf1.tr (zfrm.m (lo := 246) (hi := 247) (zfrm.rf.put (by decide) (by decide)) (by decide))) | exact hQ _ hMG zfm.rf))
      · have c1 : G.1 1 m = 1 := (nI_eq (by have := hMG.1.lt1 hm; omega) (by decide)).mp c_24
        rw [if_neg (fun q => q.2 c1)] at hQ
        refine zk_bipush hC dX9_come_27 (v := (-2)) (by decide +kernel) ?_
        exact zr_ireturn hC hE dX9_come_29 (hr _ _ (by first | exact hQ _ (hM1.book hM2 (zfrm.rf.put (by decide) (by decide))) (hf1.tr (zfrm.m (lo := 246) (hi := 247) (zfrm.rf.put (by decide) (by decide)) (by decide))) | exact hQ _ hMG zfm.rf))
  · simp only [fCome, mm_no hx] at hQ
    dsimp only [Option.toList, List.cons_append, List.nil_append]
    refine zr_if_ne hC dX9_come_4 (tgt := 9) (by decide) (fun c => absurd c (by decide +kernel)) (fun c_4 => ?_)
    refine zk_iconst hC dX9_come_7 (v := (-1)) (by decide +kernel) ?_
    exact zr_ireturn hC hE dX9_come_8 (hr _ _ (by first | exact hQ _ (hM1.book hM2 (zfrm.rf.put (by decide) (by decide))) (hf1.tr (zfrm.m (lo := 246) (hi := 247) (zfrm.rf.put (by decide) (by decide)) (by decide))) | exact hQ _ hMG zfm.rf))
def spX9_leave : zSp := fun av S Q => ∃ (G : zG) (x : Int32), av = [.ref 245, .int x] ∧ MG S G ∧ GI G ∧ ∀ S', MG S' (fLeave x G).2 → zfm S S' → Q (some (.int (fLeave x G).1)) S'
set_option maxHeartbeats 4000000 in
set_option maxRecDepth 100000 in
theorem tX9_leave : zM yX9_leave cX9_leave 2 (some .int) 3 spX9_leave := by
  refine zM.of (by decide) (by decide) (fun av S Q h => by obtain ⟨G, x, rfl, hMG, hGI, hQ⟩ := h; exact Nat.le_of_ble_eq_true rfl) (fun C τ ι av S Q Qr h hr hC hE => ?_)
  obtain ⟨G, x, rfl, hMG, hGI, hQ⟩ := h
  show zR C τ ι _ 0 0 0 [(0, .ref 245), (1, .int x)] [] _
  refine zr_iload_n hC dX9_leave_0 rfl ?_
  refine zs_callS hC [_] [] dX9_leave_1 ml_X9_98 mtX9_isMember tX9_isMember (by decide) (by decide) (by decide) rfl (Nat.le_of_ble_eq_true rfl) rfl ?_
  refine ⟨x, rfl, fun r e => ?_⟩
  rcases e with ⟨rfl, m, hm, rfl⟩ | ⟨rfl, hx⟩
  · simp only [fLeave, mm_yes hm (show 16 < 2147483648 by decide)] at hQ
    dsimp only [Option.toList, List.cons_append, List.nil_append]
    refine zr_if_ne hC dX9_leave_4 (tgt := 9) (by decide) (fun c_4 => ?_) (fun c => absurd c (by decide +kernel))
    refine zr_aload_n hC dX9_leave_9 rfl ?_
    refine zr_iload_n hC dX9_leave_10 rfl ?_
    refine zs_callV hC (b := 245) [_] [] dX9_leave_11 ml_X9_68 mtX9_sits tX9_sits (by decide) (by decide) (by decide) rfl rfl (by decide) (by decide +kernel) (Nat.le_of_ble_eq_true rfl) rfl ?_
    refine ⟨m, G.1, rfl, hm, hMG.1, fun r e => ?_⟩
    rcases e with ⟨rfl, hx⟩ | ⟨rfl, hx⟩
    · dsimp only [Option.toList, List.cons_append, List.nil_append]
      refine zr_if_eq hC dX9_leave_14 (tgt := 27) (by decide) (fun c => absurd c (by decide +kernel)) (fun c_14 => ?_)
      refine zr_aload_n hC dX9_leave_17 rfl ?_
      refine zr_iload_n hC dX9_leave_18 rfl ?_
      refine zk_iconst hC dX9_leave_19 (v := nI 3) (by decide +kernel) ?_
      refine zs_callV hC (b := 245) [_, _] [] dX9_leave_20 ml_X9_64 mtX9_of tX9_of (by decide) (by decide) (by decide) rfl rfl (by decide) (by decide +kernel) (Nat.le_of_ble_eq_true rfl) rfl ?_
      refine ⟨m, 3, rfl, hm, by decide, ?_⟩
      rw [show S.1 246 (4 + 6 * m + 3) = nI (G.1 1 m) from MW.mem hMG.1 hm (by decide)]
      dsimp only [Option.toList, List.cons_append, List.nil_append]
      refine zk_iconst hC dX9_leave_23 (v := nI 2) (by decide +kernel) ?_
      refine zr_icmp_ne hC dX9_leave_24 (tgt := 30) (by decide) (fun c_24 => ?_) (fun c_24 => ?_)
      · have c1 : G.1 1 m ≠ 2 := fun q => c_24 (by rw [q])
        rw [if_pos ⟨hx, c1⟩] at hQ
        refine zr_aload_n hC dX9_leave_30 rfl ?_
        refine zs_callV hC (b := 245) [] [] dX9_leave_31 ml_X9_101 mtX9_notes tX9_notes (by decide) (by decide) (by decide) rfl rfl (by decide) (by decide +kernel) (Nat.le_of_ble_eq_true rfl) rfl ?_
        refine keepM hMG (fun S1 hM1 hf1 _ _ => ?_)
        dsimp only [Option.toList, List.nil_append]
        refine zr_aload_n hC dX9_leave_34 rfl ?_
        refine zr_iload_n hC dX9_leave_35 rfl ?_
        refine zk_iconst hC dX9_leave_36 (v := nI 3) (by decide +kernel) ?_
        refine zk_iconst hC dX9_leave_37 (v := nI 2) (by decide +kernel) ?_
        refine zs_callV hC (b := 245) [_, _, _] [] dX9_leave_38 ml_X9_104 mtX9_put tX9_put (by decide) (by decide) (by decide) rfl rfl (by decide) (by decide +kernel) (Nat.le_of_ble_eq_true rfl) rfl ?_
        refine ⟨m, 3, _, rfl, hm, by decide, ?_⟩
        have hM2 : MW ((zput S1 246 (4 + 6 * m + 3) (nI 2)).1 246) (dset G.1 1 m 2) := by rw [zput_arr]; exact MW.put (w := 3) hM1.1 hm (by decide) ⟨fun q => absurd q (by decide), fun _ => by decide, fun q => absurd q (by decide)⟩
        dsimp only [Option.toList, List.nil_append]
        refine zr_aload_n hC dX9_leave_41 rfl ?_
        refine zk_iconst hC dX9_leave_42 (v := nI 3) (by decide +kernel) ?_
        refine zk_iconst hC dX9_leave_43 (v := nI 2) (by decide +kernel) ?_
        refine zs_callV hC (b := 245) [_, _] [] dX9_leave_44 ml_X9_108 mtX9_those tX9_those (by decide) (by decide) (by decide) rfl rfl (by decide) (by decide +kernel) (Nat.le_of_ble_eq_true rfl) rfl ?_
        refine ⟨3, 2, dset G.1 1 m 2, rfl, Or.inr (Or.inr rfl), by decide, hM2, ?_⟩
        dsimp only [Option.toList, List.cons_append, List.nil_append]
        refine zs_callS hC [_] [] dX9_leave_47 ml_X9_111 mtX9_bits tX9_bits (by decide) (by decide) (by decide) rfl (Nat.le_of_ble_eq_true rfl) rfl ?_
        refine ⟨_, rfl, ?_⟩
        dsimp only [Option.toList, List.cons_append, List.nil_append]
        exact zr_ireturn hC hE dX9_leave_50 (hr _ _ (by first | exact hQ _ (hM1.book hM2 (zfrm.rf.put (by decide) (by decide))) (hf1.tr (zfrm.m (lo := 246) (hi := 247) (zfrm.rf.put (by decide) (by decide)) (by decide))) | exact hQ _ hMG zfm.rf))
      · have c1 : G.1 1 m = 2 := (nI_eq (by have := hMG.1.lt1 hm; omega) (by decide)).mp c_24
        rw [if_neg (fun q => q.2 c1)] at hQ
        refine zk_bipush hC dX9_leave_27 (v := (-2)) (by decide +kernel) ?_
        exact zr_ireturn hC hE dX9_leave_29 (hr _ _ (by first | exact hQ _ (hM1.book hM2 (zfrm.rf.put (by decide) (by decide))) (hf1.tr (zfrm.m (lo := 246) (hi := 247) (zfrm.rf.put (by decide) (by decide)) (by decide))) | exact hQ _ hMG zfm.rf))
    · rw [if_neg (fun q => q.1 hx)] at hQ
      dsimp only [Option.toList, List.cons_append, List.nil_append]
      refine zr_if_eq hC dX9_leave_14 (tgt := 27) (by decide) (fun c_14 => ?_) (fun c => absurd c (by decide +kernel))
      refine zk_bipush hC dX9_leave_27 (v := (-2)) (by decide +kernel) ?_
      exact zr_ireturn hC hE dX9_leave_29 (hr _ _ (by first | exact hQ _ (hM1.book hM2 (zfrm.rf.put (by decide) (by decide))) (hf1.tr (zfrm.m (lo := 246) (hi := 247) (zfrm.rf.put (by decide) (by decide)) (by decide))) | exact hQ _ hMG zfm.rf))
  · simp only [fLeave, mm_no hx] at hQ
    dsimp only [Option.toList, List.cons_append, List.nil_append]
    refine zr_if_ne hC dX9_leave_4 (tgt := 9) (by decide) (fun c => absurd c (by decide +kernel)) (fun c_4 => ?_)
    refine zk_iconst hC dX9_leave_7 (v := (-1)) (by decide +kernel) ?_
    exact zr_ireturn hC hE dX9_leave_8 (hr _ _ (by first | exact hQ _ (hM1.book hM2 (zfrm.rf.put (by decide) (by decide))) (hf1.tr (zfrm.m (lo := 246) (hi := 247) (zfrm.rf.put (by decide) (by decide)) (by decide))) | exact hQ _ hMG zfm.rf))
theorem brf_ge (D : zD) : 0 ≤ brf D ↔ brf D = nI 0 := by
  unfold brf ful
  split
  · decide
  · split <;> decide
theorem mrf_ge (D : zD) (m : Nat) : 0 ≤ mrf D m ↔ mrf D m = nI 0 := by
  unfold mrf ful
  split
  · decide
  · split <;> decide
def spX9_batch : zSp := fun av S Q => ∃ (G : zG), av = [.ref 245] ∧ MG S G ∧ GI G ∧ ∀ S', MG S' (fBatch G).2 → zfm S S' → Q (some (.int (fBatch G).1)) S'
set_option maxHeartbeats 4000000 in
set_option maxRecDepth 100000 in
theorem tX9_batch : zM yX9_batch cX9_batch 2 (some .int) 5 spX9_batch := by
  refine zM.of (by decide) (by decide) (fun av S Q h => by obtain ⟨G, rfl, hMG, hGI, hQ⟩ := h; exact Nat.le_of_ble_eq_true rfl) (fun C τ ι av S Q Qr h hr hC hE => ?_)
  obtain ⟨G, rfl, hMG, hGI, hQ⟩ := h
  unfold fBatch at hQ
  show zR C τ ι _ 0 0 0 [(0, .ref 245)] [] _
  refine zr_aload_n hC dX9_batch_0 rfl ?_
  refine zs_callV hC (b := 245) [] [] dX9_batch_1 ml_X9_149 mtX9_refusal tX9_refusal (by decide) (by decide) (by decide) rfl rfl (by decide) (by decide +kernel) (Nat.le_of_ble_eq_true rfl) rfl ?_
  refine ⟨G.1, rfl, hMG.1, ?_⟩
  dsimp only [Option.toList, List.cons_append, List.nil_append]
  refine zr_istore_n hC dX9_batch_4 (by decide) ?_
  refine zr_iload_n hC dX9_batch_5 rfl ?_
  refine zr_if_ge hC dX9_batch_6 (tgt := 11) (by decide) (fun c_6 => ?_) (fun c_6 => ?_)
  · have hb := (brf_ge _).mp c_6
    rw [if_pos hb] at hQ
    refine zr_aload_n hC dX9_batch_11 rfl ?_
    refine zs_callV hC (b := 245) [] [] dX9_batch_12 ml_X9_101 mtX9_notes tX9_notes (by decide) (by decide) (by decide) rfl rfl (by decide) (by decide +kernel) (Nat.le_of_ble_eq_true rfl) rfl ?_
    refine keepM hMG (fun S1 hM1 hf1 _ _ => ?_)
    dsimp only [Option.toList, List.nil_append]
    refine zr_aload_n hC dX9_batch_15 rfl ?_
    refine zs_callV hC (b := 245) [] [] dX9_batch_16 ml_X9_152 mtX9_batches tX9_batches (by decide) (by decide) (by decide) rfl rfl (by decide) (by decide +kernel) (Nat.le_of_ble_eq_true rfl) rfl ?_
    refine ⟨G.1, rfl, hM1.1, hGI.1, hb, fun S2 hM2 hf2 => ?_⟩
    dsimp only [Option.toList, List.cons_append, List.nil_append]
    exact zr_ireturn hC hE dX9_batch_19 (hr _ _ (by first | exact hQ _ (hM1.book hM2 (hf2.up (by decide) (by decide))) (hf1.tr (hf2.m (by decide))) | exact hQ _ hMG zfm.rf))
  · have hb : ¬ brf G.1 = nI 0 := fun q => c_6 ((brf_ge _).mpr q)
    rw [if_neg hb] at hQ
    refine zr_iload_n hC dX9_batch_9 rfl ?_
    exact zr_ireturn hC hE dX9_batch_10 (hr _ _ (by first | exact hQ _ (hM1.book hM2 (hf2.up (by decide) (by decide))) (hf1.tr (hf2.m (by decide))) | exact hQ _ hMG zfm.rf))
theorem z_1lt {x : Int32} (h : nI 1 < x) : nI 2 ≤ x := by
  rw [Int32.lt_iff_toInt_lt, nI_toInt (by decide)] at h
  rw [Int32.le_iff_toInt_le, nI_toInt (by decide)]
  omega
def spX9_late : zSp := fun av S Q => ∃ (G : zG) (x : Int32) (v : Int32), av = [.ref 245, .int x, .int v] ∧ MG S G ∧ GI G ∧ ∀ S', MG S' (fLate x v G).2 → zfm S S' → Q (some (.int (fLate x v G).1)) S'
set_option maxHeartbeats 4000000 in
set_option maxRecDepth 100000 in
theorem tX9_late : zM yX9_late cX9_late 3 (some .int) 3 spX9_late := by
  refine zM.of (by decide) (by decide) (fun av S Q h => by obtain ⟨G, x, v, rfl, hMG, hGI, hQ⟩ := h; exact Nat.le_of_ble_eq_true rfl) (fun C τ ι av S Q Qr h hr hC hE => ?_)
  obtain ⟨G, x, v, rfl, hMG, hGI, hQ⟩ := h
  show zR C τ ι _ 0 0 0 [(0, .ref 245), (1, .int x), (2, .int v)] [] _
  refine zr_iload_n hC dX9_late_0 rfl ?_
  refine zs_callS hC [_] [] dX9_late_1 ml_X9_98 mtX9_isMember tX9_isMember (by decide) (by decide) (by decide) rfl (Nat.le_of_ble_eq_true rfl) rfl ?_
  refine ⟨x, rfl, fun r e => ?_⟩
  rcases e with ⟨rfl, m, hm, rfl⟩ | ⟨rfl, hx⟩
  · dsimp only [Option.toList, List.cons_append, List.nil_append]
    refine zr_if_eq hC dX9_late_4 (tgt := 17) (by decide) (fun c => absurd c (by decide +kernel)) (fun c_4 => ?_)
    refine zr_iload_n hC dX9_late_7 rfl ?_
    refine zr_i2l hC dX9_late_8 ?_
    refine zr_lconst hC dX9_late_9 ?_
    refine zr_lconst hC dX9_late_10 ?_
    refine zs_callS hC [_, _, _] [] dX9_late_11 ml_X9_60 mtX9_in tX9_in (by decide) (by decide) (by decide) rfl (Nat.le_of_ble_eq_true rfl) rfl ?_
    refine ⟨_, _, _, rfl, fun r e => ?_⟩
    obtain ⟨w1, w2⟩ := z_one (x := v) (lo := nI 0) (hi := nI 1) rfl (show Int64.ofNat 0 = _ by decide +kernel) (show Int64.ofNat 1 = _ by decide +kernel)
    have e : (r = nI 1 ∧ ¬ v < nI 0 ∧ ¬ nI 1 < v) ∨ (r = nI 0 ∧ (v < nI 0 ∨ nI 1 < v)) := by
      rcases e with ⟨e, e1, e2⟩ | ⟨e, e1⟩
      · exact Or.inl ⟨e, fun q => e1 (w1.mpr q), fun q => e2 (w2.mpr q)⟩
      · exact Or.inr ⟨e, e1.imp w1.mp w2.mp⟩
    rcases e with ⟨rfl, e1, e2⟩ | ⟨rfl, e1⟩
    · have hv : v = nI 0 ∨ v = nI 1 := by obtain ⟨j, j1, j2, j3⟩ := rg_in e1 e2 (by decide) (by decide); rcases (by omega : j = 0 ∨ j = 1) with rfl | rfl; exact Or.inl j3; exact Or.inr j3
      dsimp only [Option.toList, List.cons_append, List.nil_append]
      refine zr_if_ne hC dX9_late_14 (tgt := 19) (by decide) (fun c_14 => ?_) (fun c => absurd c (by decide +kernel))
      rcases hv with rfl | rfl
      · simp only [fLate, mm_yes hm (show 16 < 2147483648 by decide), mm_yes (show 0 < 2 by decide) (show 2 < 2147483648 by decide)] at hQ
        refine zr_aload_n hC dX9_late_19 rfl ?_
        refine zr_iload_n hC dX9_late_20 rfl ?_
        refine zs_callV hC (b := 245) [_] [] dX9_late_21 ml_X9_68 mtX9_sits tX9_sits (by decide) (by decide) (by decide) rfl rfl (by decide) (by decide +kernel) (Nat.le_of_ble_eq_true rfl) rfl ?_
        refine ⟨m, G.1, rfl, hm, hMG.1, fun r e => ?_⟩
        rcases e with ⟨rfl, hx⟩ | ⟨rfl, hx⟩
        · dsimp only [Option.toList, List.cons_append, List.nil_append]
          refine zr_if_eq hC dX9_late_24 (tgt := 37) (by decide) (fun c => absurd c (by decide +kernel)) (fun c_24 => ?_)
          refine zr_aload_n hC dX9_late_27 rfl ?_
          refine zr_iload_n hC dX9_late_28 rfl ?_
          refine zk_iconst hC dX9_late_29 (v := nI 1) (by decide +kernel) ?_
          refine zs_callV hC (b := 245) [_, _] [] dX9_late_30 ml_X9_64 mtX9_of tX9_of (by decide) (by decide) (by decide) rfl rfl (by decide) (by decide +kernel) (Nat.le_of_ble_eq_true rfl) rfl ?_
          refine ⟨m, 1, rfl, hm, by decide, ?_⟩
          rw [show S.1 246 (4 + 6 * m + 1) = nI (G.1 2 m) from MW.mem hMG.1 hm (by decide)]
          dsimp only [Option.toList, List.cons_append, List.nil_append]
          refine zr_iload_n hC dX9_late_33 rfl ?_
          refine zr_icmp_ne hC dX9_late_34 (tgt := 40) (by decide) (fun c_34 => ?_) (fun c_34 => ?_)
          · have c2 : G.1 2 m = 1 := by have h1 : G.1 2 m ≠ 0 := fun q => c_34 (by rw [q]); have := hMG.1.lt2 hm; omega
            rw [if_pos c2] at hQ
            refine zr_aload_n hC dX9_late_40 rfl ?_
            refine zs_callV hC (b := 245) [] [] dX9_late_41 ml_X9_101 mtX9_notes tX9_notes (by decide) (by decide) (by decide) rfl rfl (by decide) (by decide +kernel) (Nat.le_of_ble_eq_true rfl) rfl ?_
            refine keepM hMG (fun S1 hM1 hf1 _ _ => ?_)
            dsimp only [Option.toList, List.nil_append]
            refine zr_aload_n hC dX9_late_44 rfl ?_
            refine zr_iload_n hC dX9_late_45 rfl ?_
            refine zk_iconst hC dX9_late_46 (v := nI 1) (by decide +kernel) ?_
            refine zr_iload_n hC dX9_late_47 rfl ?_
            refine zs_callV hC (b := 245) [_, _, _] [] dX9_late_48 ml_X9_104 mtX9_put tX9_put (by decide) (by decide) (by decide) rfl rfl (by decide) (by decide +kernel) (Nat.le_of_ble_eq_true rfl) rfl ?_
            refine ⟨m, 1, _, rfl, hm, by decide, ?_⟩
            have hM2 : MW ((zput S1 246 (4 + 6 * m + 1) (nI 0)).1 246) (dset G.1 2 m 0) := by rw [zput_arr]; exact MW.put (w := 1) hM1.1 hm (by decide) ⟨fun q => absurd q (by decide), fun q => absurd q (by decide), fun _ => by decide⟩
            have hf2 : zfrm 246 250 S1 (zput S1 246 (4 + 6 * m + 1) (nI 0)) := zfrm.rf.put (by decide) (by decide)
            generalize zput S1 246 (4 + 6 * m + 1) (nI 0) = S2 at *
            dsimp only [Option.toList, List.nil_append]
            refine zr_iload_n hC dX9_late_51 rfl ?_
            refine zk_iconst hC dX9_late_52 (v := nI 1) (by decide +kernel) ?_
            refine zr_icmp_ne hC dX9_late_53 (tgt := 60) (by decide) (fun c_53 => ?_) (fun c => absurd c (by decide +kernel))
            refine zr_aload_n hC dX9_late_60 rfl ?_
            refine zr_iload_n hC dX9_late_61 rfl ?_
            refine zs_callV hC (b := 245) [_] [] dX9_late_62 ml_X9_123 mtX9_reads tX9_reads (by decide) (by decide) (by decide) rfl rfl (by decide) (by decide +kernel) (Nat.le_of_ble_eq_true rfl) rfl ?_
            have hok : RDok (dset G.1 2 m 0) := (hGI.1.wake (m := m)).rd
            refine ⟨m, _, rfl, hm, hM2, hok, hGI.1.read hm hx, fun S3 hM3 hf3 => ?_⟩
            dsimp only [Option.toList, List.cons_append, List.nil_append]
            exact zr_ireturn hC hE dX9_late_65 (hr _ _ (by first | exact hQ _ (hM1.book hM3 (hf2.tr (hf3.up (by decide) (by decide)))) (hf1.tr ((hf2.tr (hf3.up (by decide) (by decide))).m (by decide))) | exact hQ _ (hM1.book hM2 hf2) (hf1.tr (hf2.m (by decide))) | exact hQ _ hMG zfm.rf))
          · have c2 : G.1 2 m = 0 := (nI_eq (by have := hMG.1.lt2 hm; omega) (by decide)).mp c_34
            rw [if_neg (by omega)] at hQ
            refine zk_bipush hC dX9_late_37 (v := (-2)) (by decide +kernel) ?_
            exact zr_ireturn hC hE dX9_late_39 (hr _ _ (by first | exact hQ _ (hM1.book hM3 (hf2.tr (hf3.up (by decide) (by decide)))) (hf1.tr ((hf2.tr (hf3.up (by decide) (by decide))).m (by decide))) | exact hQ _ (hM1.book hM2 hf2) (hf1.tr (hf2.m (by decide))) | exact hQ _ hMG zfm.rf))
        · rw [if_neg (fun q => by have := hGI.1.late hm; omega)] at hQ
          dsimp only [Option.toList, List.cons_append, List.nil_append]
          refine zr_if_eq hC dX9_late_24 (tgt := 37) (by decide) (fun c_24 => ?_) (fun c => absurd c (by decide +kernel))
          refine zk_bipush hC dX9_late_37 (v := (-2)) (by decide +kernel) ?_
          exact zr_ireturn hC hE dX9_late_39 (hr _ _ (by first | exact hQ _ (hM1.book hM3 (hf2.tr (hf3.up (by decide) (by decide)))) (hf1.tr ((hf2.tr (hf3.up (by decide) (by decide))).m (by decide))) | exact hQ _ (hM1.book hM2 hf2) (hf1.tr (hf2.m (by decide))) | exact hQ _ hMG zfm.rf))
      · simp only [fLate, mm_yes hm (show 16 < 2147483648 by decide), mm_yes (show 1 < 2 by decide) (show 2 < 2147483648 by decide)] at hQ
        refine zr_aload_n hC dX9_late_19 rfl ?_
        refine zr_iload_n hC dX9_late_20 rfl ?_
        refine zs_callV hC (b := 245) [_] [] dX9_late_21 ml_X9_68 mtX9_sits tX9_sits (by decide) (by decide) (by decide) rfl rfl (by decide) (by decide +kernel) (Nat.le_of_ble_eq_true rfl) rfl ?_
        refine ⟨m, G.1, rfl, hm, hMG.1, fun r e => ?_⟩
        rcases e with ⟨rfl, hx⟩ | ⟨rfl, hx⟩
        · dsimp only [Option.toList, List.cons_append, List.nil_append]
          refine zr_if_eq hC dX9_late_24 (tgt := 37) (by decide) (fun c => absurd c (by decide +kernel)) (fun c_24 => ?_)
          refine zr_aload_n hC dX9_late_27 rfl ?_
          refine zr_iload_n hC dX9_late_28 rfl ?_
          refine zk_iconst hC dX9_late_29 (v := nI 1) (by decide +kernel) ?_
          refine zs_callV hC (b := 245) [_, _] [] dX9_late_30 ml_X9_64 mtX9_of tX9_of (by decide) (by decide) (by decide) rfl rfl (by decide) (by decide +kernel) (Nat.le_of_ble_eq_true rfl) rfl ?_
          refine ⟨m, 1, rfl, hm, by decide, ?_⟩
          rw [show S.1 246 (4 + 6 * m + 1) = nI (G.1 2 m) from MW.mem hMG.1 hm (by decide)]
          dsimp only [Option.toList, List.cons_append, List.nil_append]
          refine zr_iload_n hC dX9_late_33 rfl ?_
          refine zr_icmp_ne hC dX9_late_34 (tgt := 40) (by decide) (fun c_34 => ?_) (fun c_34 => ?_)
          · have c2 : G.1 2 m ≠ 1 := fun q => c_34 (by rw [q])
            rw [if_pos ⟨hx, c2⟩] at hQ
            refine zr_aload_n hC dX9_late_40 rfl ?_
            refine zs_callV hC (b := 245) [] [] dX9_late_41 ml_X9_101 mtX9_notes tX9_notes (by decide) (by decide) (by decide) rfl rfl (by decide) (by decide +kernel) (Nat.le_of_ble_eq_true rfl) rfl ?_
            refine keepM hMG (fun S1 hM1 hf1 _ _ => ?_)
            dsimp only [Option.toList, List.nil_append]
            refine zr_aload_n hC dX9_late_44 rfl ?_
            refine zr_iload_n hC dX9_late_45 rfl ?_
            refine zk_iconst hC dX9_late_46 (v := nI 1) (by decide +kernel) ?_
            refine zr_iload_n hC dX9_late_47 rfl ?_
            refine zs_callV hC (b := 245) [_, _, _] [] dX9_late_48 ml_X9_104 mtX9_put tX9_put (by decide) (by decide) (by decide) rfl rfl (by decide) (by decide +kernel) (Nat.le_of_ble_eq_true rfl) rfl ?_
            refine ⟨m, 1, _, rfl, hm, by decide, ?_⟩
            have hM2 : MW ((zput S1 246 (4 + 6 * m + 1) (nI 1)).1 246) (dset G.1 2 m 1) := by rw [zput_arr]; exact MW.put (w := 1) hM1.1 hm (by decide) ⟨fun q => absurd q (by decide), fun q => absurd q (by decide), fun _ => by decide⟩
            have hf2 : zfrm 246 250 S1 (zput S1 246 (4 + 6 * m + 1) (nI 1)) := zfrm.rf.put (by decide) (by decide)
            generalize zput S1 246 (4 + 6 * m + 1) (nI 1) = S2 at *
            dsimp only [Option.toList, List.nil_append]
            refine zr_iload_n hC dX9_late_51 rfl ?_
            refine zk_iconst hC dX9_late_52 (v := nI 1) (by decide +kernel) ?_
            refine zr_icmp_ne hC dX9_late_53 (tgt := 60) (by decide) (fun c => absurd c (by decide +kernel)) (fun c_53 => ?_)
            refine zk_iconst hC dX9_late_56 (v := nI 0) (by decide +kernel) ?_
            refine zr_goto hC dX9_late_57 (tgt := 65) (by decide) ?_
            exact zr_ireturn hC hE dX9_late_65 (hr _ _ (by first | exact hQ _ (hM1.book hM3 (hf2.tr (hf3.up (by decide) (by decide)))) (hf1.tr ((hf2.tr (hf3.up (by decide) (by decide))).m (by decide))) | exact hQ _ (hM1.book hM2 hf2) (hf1.tr (hf2.m (by decide))) | exact hQ _ hMG zfm.rf))
          · have c2 : G.1 2 m = 1 := (nI_eq (by have := hMG.1.lt2 hm; omega) (by decide)).mp c_34
            rw [if_neg (fun q => q.2 c2)] at hQ
            refine zk_bipush hC dX9_late_37 (v := (-2)) (by decide +kernel) ?_
            exact zr_ireturn hC hE dX9_late_39 (hr _ _ (by first | exact hQ _ (hM1.book hM3 (hf2.tr (hf3.up (by decide) (by decide)))) (hf1.tr ((hf2.tr (hf3.up (by decide) (by decide))).m (by decide))) | exact hQ _ (hM1.book hM2 hf2) (hf1.tr (hf2.m (by decide))) | exact hQ _ hMG zfm.rf))
        · rw [if_neg (fun q => q.1 hx)] at hQ
          dsimp only [Option.toList, List.cons_append, List.nil_append]
          refine zr_if_eq hC dX9_late_24 (tgt := 37) (by decide) (fun c_24 => ?_) (fun c => absurd c (by decide +kernel))
          refine zk_bipush hC dX9_late_37 (v := (-2)) (by decide +kernel) ?_
          exact zr_ireturn hC hE dX9_late_39 (hr _ _ (by first | exact hQ _ (hM1.book hM3 (hf2.tr (hf3.up (by decide) (by decide)))) (hf1.tr ((hf2.tr (hf3.up (by decide) (by decide))).m (by decide))) | exact hQ _ (hM1.book hM2 hf2) (hf1.tr (hf2.m (by decide))) | exact hQ _ hMG zfm.rf))
    · have hv : v < 0 ∨ nI 2 ≤ v := e1.imp id z_1lt
      simp only [fLate, mm_yes hm (show 16 < 2147483648 by decide), mm_no hv] at hQ
      dsimp only [Option.toList, List.cons_append, List.nil_append]
      refine zr_if_ne hC dX9_late_14 (tgt := 19) (by decide) (fun c => absurd c (by decide +kernel)) (fun c_14 => ?_)
      refine zk_iconst hC dX9_late_17 (v := (-1)) (by decide +kernel) ?_
      exact zr_ireturn hC hE dX9_late_18 (hr _ _ (by first | exact hQ _ (hM1.book hM3 (hf2.tr (hf3.up (by decide) (by decide)))) (hf1.tr ((hf2.tr (hf3.up (by decide) (by decide))).m (by decide))) | exact hQ _ (hM1.book hM2 hf2) (hf1.tr (hf2.m (by decide))) | exact hQ _ hMG zfm.rf))
  · simp only [fLate, mm_no hx] at hQ
    dsimp only [Option.toList, List.cons_append, List.nil_append]
    refine zr_if_eq hC dX9_late_4 (tgt := 17) (by decide) (fun c_4 => ?_) (fun c => absurd c (by decide +kernel))
    refine zk_iconst hC dX9_late_17 (v := (-1)) (by decide +kernel) ?_
    exact zr_ireturn hC hE dX9_late_18 (hr _ _ (by first | exact hQ _ (hM1.book hM3 (hf2.tr (hf3.up (by decide) (by decide)))) (hf1.tr ((hf2.tr (hf3.up (by decide) (by decide))).m (by decide))) | exact hQ _ (hM1.book hM2 hf2) (hf1.tr (hf2.m (by decide))) | exact hQ _ hMG zfm.rf))
def spX9_lose : zSp := fun av S Q => ∃ (G : zG) (x : Int32) (n : Int32), av = [.ref 245, .int x, .int n] ∧ MG S G ∧ GI G ∧ ∀ S', MG S' (fLose x n G).2 → zfm S S' → Q (some (.int (fLose x n G).1)) S'
set_option maxHeartbeats 4000000 in
set_option maxRecDepth 100000 in
theorem tX9_lose : zM yX9_lose cX9_lose 5 (some .int) 2 spX9_lose := by
  refine zM.of (by decide) (by decide) (fun av S Q h => by obtain ⟨G, x, n, rfl, hMG, hGI, hQ⟩ := h; exact Nat.le_of_ble_eq_true rfl) (fun C τ ι av S Q Qr h hr hC hE => ?_)
  obtain ⟨G, x, n, rfl, hMG, hGI, hQ⟩ := h
  show zR C τ ι _ 0 0 0 [(0, .ref 245), (1, .int x), (2, .int n)] [] _
  refine zr_iload_n hC dX9_lose_0 rfl ?_
  refine zs_callS hC [_] [] dX9_lose_1 ml_X9_98 mtX9_isMember tX9_isMember (by decide) (by decide) (by decide) rfl (Nat.le_of_ble_eq_true rfl) rfl ?_
  refine ⟨x, rfl, fun r e => ?_⟩
  rcases e with ⟨rfl, m, hm, rfl⟩ | ⟨rfl, hx⟩
  · dsimp only [Option.toList, List.cons_append, List.nil_append]
    refine zr_if_eq hC dX9_lose_4 (tgt := 19) (by decide) (fun c => absurd c (by decide +kernel)) (fun c_4 => ?_)
    refine zr_iload_n hC dX9_lose_7 rfl ?_
    refine zr_i2l hC dX9_lose_8 ?_
    refine zr_lconst hC dX9_lose_9 ?_
    refine zr_ldc2 hC dX9_lose_10 kl_X9_155 ?_
    refine zs_callS hC [_, _, _] [] dX9_lose_13 ml_X9_60 mtX9_in tX9_in (by decide) (by decide) (by decide) rfl (Nat.le_of_ble_eq_true rfl) rfl ?_
    refine ⟨_, _, _, rfl, fun r e => ?_⟩
    obtain ⟨w1, w2⟩ := z_one (x := n) (lo := nI 1) (hi := nI 40) rfl (show Int64.ofNat 1 = _ by decide +kernel) (show (40 : Int64) = _ by decide +kernel)
    have e : (r = nI 1 ∧ ¬ n < nI 1 ∧ ¬ nI 40 < n) ∨ (r = nI 0 ∧ (n < nI 1 ∨ nI 40 < n)) := by
      rcases e with ⟨e, e1, e2⟩ | ⟨e, e1⟩
      · exact Or.inl ⟨e, fun q => e1 (w1.mpr q), fun q => e2 (w2.mpr q)⟩
      · exact Or.inr ⟨e, e1.imp w1.mp w2.mp⟩
    rcases e with ⟨rfl, e1, e2⟩ | ⟨rfl, e1⟩
    · obtain ⟨b, b1, b2, rfl⟩ := rg_in e1 e2 (by decide) (by decide)
      simp only [fLose, mm_yes hm (show 16 < 2147483648 by decide), rg_yes b1 b2 (show 40 < 2147483648 by decide)] at hQ
      dsimp only [Option.toList, List.cons_append, List.nil_append]
      refine zr_if_ne hC dX9_lose_16 (tgt := 21) (by decide) (fun c_16 => ?_) (fun c => absurd c (by decide +kernel))
      refine zr_aload_n hC dX9_lose_21 rfl ?_
      refine zr_iload_n hC dX9_lose_22 rfl ?_
      refine zk_iconst hC dX9_lose_23 (v := nI 1) (by decide +kernel) ?_
      refine zs_callV hC (b := 245) [_, _] [] dX9_lose_24 ml_X9_64 mtX9_of tX9_of (by decide) (by decide) (by decide) rfl rfl (by decide) (by decide +kernel) (Nat.le_of_ble_eq_true rfl) rfl ?_
      refine ⟨m, 1, rfl, hm, by decide, ?_⟩
      rw [show S.1 246 (4 + 6 * m + 1) = nI (G.1 2 m) from MW.mem hMG.1 hm (by decide)]
      dsimp only [Option.toList, List.cons_append, List.nil_append]
      refine zr_if_ne hC dX9_lose_27 (tgt := 33) (by decide) (fun c_27 => ?_) (fun c_27 => ?_)
      · have c2 : G.1 2 m = 1 := by have h1 : G.1 2 m ≠ 0 := fun q => c_27 (by rw [q]; rfl); have := hMG.1.lt2 hm; omega
        have h0 : G.1 0 m ≠ 0 := by have := hGI.1.late hm; omega
        have h3 := hGI.1.read hm h0
        rw [if_pos c2] at hQ
        refine zr_aload_n hC dX9_lose_33 rfl ?_
        refine zs_callV hC (b := 245) [] [] dX9_lose_34 ml_X9_101 mtX9_notes tX9_notes (by decide) (by decide) (by decide) rfl rfl (by decide) (by decide +kernel) (Nat.le_of_ble_eq_true rfl) rfl ?_
        refine keepM hMG (fun S1 hM1 hf1 _ _ => ?_)
        dsimp only [Option.toList, List.nil_append]
        refine zr_aload_n hC dX9_lose_37 rfl ?_
        refine zs_getr hC dX9_lose_38 fl_X9_7 (a := 245) (r := 246) rfl (by decide) ?_
        refine zk_iconst hC dX9_lose_41 (v := nI 1) (by decide +kernel) ?_
        refine zv_iald hC dX9_lose_42 (a := 246) (n := 752) rfl (by decide) (by decide) (j := 1) rfl (by decide) ((show S1.1 246 1 = nI (G.1 6 1) from hM1.1.1.1.2.1)) ?_
        refine zr_aload_n hC dX9_lose_43 rfl ?_
        refine zr_iload_n hC dX9_lose_44 rfl ?_
        refine zk_iconst hC dX9_lose_45 (v := nI 2) (by decide +kernel) ?_
        refine zs_callV hC (b := 245) [_, _] [_] dX9_lose_46 ml_X9_64 mtX9_of tX9_of (by decide) (by decide) (by decide) rfl rfl (by decide) (by decide +kernel) (Nat.le_of_ble_eq_true rfl) rfl ?_
        refine ⟨m, 2, rfl, hm, by decide, ?_⟩
        rw [show S1.1 246 (4 + 6 * m + 2) = nI (G.1 3 m) from MW.mem hM1.1 hm (by decide)]
        dsimp only [Option.toList, List.cons_append, List.nil_append]
        refine zn_isub hC dX9_lose_49 (pk_sub h3) ?_
        refine zr_istore_n hC dX9_lose_50 (by decide) ?_
        refine zr_iload_n hC dX9_lose_51 rfl ?_
        refine zr_iload_n hC dX9_lose_52 rfl ?_
        refine zr_icmp_ge hC dX9_lose_53 (tgt := 60) (by decide) (fun c_53 => ?_) (fun c_53 => ?_)
        · have h61 := hGI.1.written
          have hmin : b = min b (G.1 6 1 - G.1 3 m) := by rw [nI_leI (by omega) (by omega)] at c_53; omega
          refine zr_iload_n hC dX9_lose_60 rfl ?_
          refine zr_istore hC dX9_lose_61 (by decide) ?_
          refine zr_aload_n hC dX9_lose_63 rfl ?_
          refine zr_iload_n hC dX9_lose_64 rfl ?_
          refine zk_iconst hC dX9_lose_65 (v := nI 2) (by decide +kernel) ?_
          refine zr_aload_n hC dX9_lose_66 rfl ?_
          refine zr_iload_n hC dX9_lose_67 rfl ?_
          refine zk_iconst hC dX9_lose_68 (v := nI 2) (by decide +kernel) ?_
          refine zs_callV hC (b := 245) [_, _] [_, _, _] dX9_lose_69 ml_X9_64 mtX9_of tX9_of (by decide) (by decide) (by decide) rfl rfl (by decide) (by decide +kernel) (Nat.le_of_ble_eq_true rfl) rfl ?_
          refine ⟨m, 2, rfl, hm, by decide, ?_⟩
          rw [show S1.1 246 (4 + 6 * m + 2) = nI (G.1 3 m) from MW.mem hM1.1 hm (by decide)]
          dsimp only [Option.toList, List.cons_append, List.nil_append]
          refine zr_iload hC dX9_lose_72 rfl ?_
          refine zn_iadd hC dX9_lose_74 (nI_add _ _) ?_
          refine zs_callV hC (b := 245) [_, _, _] [] dX9_lose_75 ml_X9_104 mtX9_put tX9_put (by decide) (by decide) (by decide) rfl rfl (by decide) (by decide +kernel) (Nat.le_of_ble_eq_true rfl) rfl ?_
          refine ⟨m, 2, _, rfl, hm, by decide, ?_⟩
          rw [hmin]
          have hM2 : MW ((zput S1 246 (4 + 6 * m + 2) (nI (G.1 3 m + min b (G.1 6 1 - G.1 3 m)))).1 246) (dset G.1 3 m (G.1 3 m + min b (G.1 6 1 - G.1 3 m))) := by rw [zput_arr]; exact MW.put (w := 2) hM1.1 hm (by decide) ⟨fun q => absurd q (by decide), fun q => absurd q (by decide), fun q => absurd q (by decide)⟩
          have hf2 : zfrm 246 250 S1 (zput S1 246 (4 + 6 * m + 2) (nI (G.1 3 m + min b (G.1 6 1 - G.1 3 m)))) := zfrm.rf.put (by decide) (by decide)
          dsimp only [Option.toList, List.nil_append]
          refine zr_iload hC dX9_lose_78 rfl ?_
          exact zr_ireturn hC hE dX9_lose_80 (hr _ _ (by first | exact hQ _ (hM1.book hM2 (hf2.up (by decide) (by decide))) (hf1.tr (hf2.m (by decide))) | exact hQ _ hMG zfm.rf))
        · have h61 := hGI.1.written
          have hmin : G.1 6 1 - G.1 3 m = min b (G.1 6 1 - G.1 3 m) := by rw [z_nle (by omega) (by omega)] at c_53; omega
          refine zr_iload_n hC dX9_lose_56 rfl ?_
          refine zr_goto hC dX9_lose_57 (tgt := 61) (by decide) ?_
          refine zr_istore hC dX9_lose_61 (by decide) ?_
          refine zr_aload_n hC dX9_lose_63 rfl ?_
          refine zr_iload_n hC dX9_lose_64 rfl ?_
          refine zk_iconst hC dX9_lose_65 (v := nI 2) (by decide +kernel) ?_
          refine zr_aload_n hC dX9_lose_66 rfl ?_
          refine zr_iload_n hC dX9_lose_67 rfl ?_
          refine zk_iconst hC dX9_lose_68 (v := nI 2) (by decide +kernel) ?_
          refine zs_callV hC (b := 245) [_, _] [_, _, _] dX9_lose_69 ml_X9_64 mtX9_of tX9_of (by decide) (by decide) (by decide) rfl rfl (by decide) (by decide +kernel) (Nat.le_of_ble_eq_true rfl) rfl ?_
          refine ⟨m, 2, rfl, hm, by decide, ?_⟩
          rw [show S1.1 246 (4 + 6 * m + 2) = nI (G.1 3 m) from MW.mem hM1.1 hm (by decide)]
          dsimp only [Option.toList, List.cons_append, List.nil_append]
          refine zr_iload hC dX9_lose_72 rfl ?_
          refine zn_iadd hC dX9_lose_74 (nI_add _ _) ?_
          refine zs_callV hC (b := 245) [_, _, _] [] dX9_lose_75 ml_X9_104 mtX9_put tX9_put (by decide) (by decide) (by decide) rfl rfl (by decide) (by decide +kernel) (Nat.le_of_ble_eq_true rfl) rfl ?_
          refine ⟨m, 2, _, rfl, hm, by decide, ?_⟩
          rw [hmin]
          have hM2 : MW ((zput S1 246 (4 + 6 * m + 2) (nI (G.1 3 m + min b (G.1 6 1 - G.1 3 m)))).1 246) (dset G.1 3 m (G.1 3 m + min b (G.1 6 1 - G.1 3 m))) := by rw [zput_arr]; exact MW.put (w := 2) hM1.1 hm (by decide) ⟨fun q => absurd q (by decide), fun q => absurd q (by decide), fun q => absurd q (by decide)⟩
          have hf2 : zfrm 246 250 S1 (zput S1 246 (4 + 6 * m + 2) (nI (G.1 3 m + min b (G.1 6 1 - G.1 3 m)))) := zfrm.rf.put (by decide) (by decide)
          dsimp only [Option.toList, List.nil_append]
          refine zr_iload hC dX9_lose_78 rfl ?_
          exact zr_ireturn hC hE dX9_lose_80 (hr _ _ (by first | exact hQ _ (hM1.book hM2 (hf2.up (by decide) (by decide))) (hf1.tr (hf2.m (by decide))) | exact hQ _ hMG zfm.rf))
      · have c2 : G.1 2 m = 0 := (z_ne0 (by have := hMG.1.lt2 hm; omega)).mp c_27
        rw [if_neg (by omega)] at hQ
        refine zk_bipush hC dX9_lose_30 (v := (-2)) (by decide +kernel) ?_
        exact zr_ireturn hC hE dX9_lose_32 (hr _ _ (by first | exact hQ _ (hM1.book hM2 (hf2.up (by decide) (by decide))) (hf1.tr (hf2.m (by decide))) | exact hQ _ hMG zfm.rf))
    · simp only [fLose, mm_yes hm (show 16 < 2147483648 by decide), rg_no e1] at hQ
      dsimp only [Option.toList, List.cons_append, List.nil_append]
      refine zr_if_ne hC dX9_lose_16 (tgt := 21) (by decide) (fun c => absurd c (by decide +kernel)) (fun c_16 => ?_)
      refine zk_iconst hC dX9_lose_19 (v := (-1)) (by decide +kernel) ?_
      exact zr_ireturn hC hE dX9_lose_20 (hr _ _ (by first | exact hQ _ (hM1.book hM2 (hf2.up (by decide) (by decide))) (hf1.tr (hf2.m (by decide))) | exact hQ _ hMG zfm.rf))
  · simp only [fLose, mm_no hx] at hQ
    dsimp only [Option.toList, List.cons_append, List.nil_append]
    refine zr_if_eq hC dX9_lose_4 (tgt := 19) (by decide) (fun c_4 => ?_) (fun c => absurd c (by decide +kernel))
    refine zk_iconst hC dX9_lose_19 (v := (-1)) (by decide +kernel) ?_
    exact zr_ireturn hC hE dX9_lose_20 (hr _ _ (by first | exact hQ _ (hM1.book hM2 (hf2.up (by decide) (by decide))) (hf1.tr (hf2.m (by decide))) | exact hQ _ hMG zfm.rf))
def spX9_mend : zSp := fun av S Q => ∃ (G : zG) (x : Int32), av = [.ref 245, .int x] ∧ MG S G ∧ GI G ∧ ∀ S', MG S' (fMend x G).2 → zfm S S' → Q (some (.int (fMend x G).1)) S'
set_option maxHeartbeats 4000000 in
set_option maxRecDepth 100000 in
theorem tX9_mend : zM yX9_mend cX9_mend 3 (some .int) 5 spX9_mend := by
  refine zM.of (by decide) (by decide) (fun av S Q h => by obtain ⟨G, x, rfl, hMG, hGI, hQ⟩ := h; exact Nat.le_of_ble_eq_true rfl) (fun C τ ι av S Q Qr h hr hC hE => ?_)
  obtain ⟨G, x, rfl, hMG, hGI, hQ⟩ := h
  show zR C τ ι _ 0 0 0 [(0, .ref 245), (1, .int x)] [] _
  refine zr_iload_n hC dX9_mend_0 rfl ?_
  refine zs_callS hC [_] [] dX9_mend_1 ml_X9_98 mtX9_isMember tX9_isMember (by decide) (by decide) (by decide) rfl (Nat.le_of_ble_eq_true rfl) rfl ?_
  refine ⟨x, rfl, fun r e => ?_⟩
  rcases e with ⟨rfl, m, hm, rfl⟩ | ⟨rfl, hx⟩
  · simp only [fMend, mm_yes hm (show 16 < 2147483648 by decide)] at hQ
    dsimp only [Option.toList, List.cons_append, List.nil_append]
    refine zr_if_ne hC dX9_mend_4 (tgt := 9) (by decide) (fun c_4 => ?_) (fun c => absurd c (by decide +kernel))
    refine zr_aload_n hC dX9_mend_9 rfl ?_
    refine zr_iload_n hC dX9_mend_10 rfl ?_
    refine zs_callV hC (b := 245) [_] [] dX9_mend_11 ml_X9_160 mtX9_mendRefusal tX9_mendRefusal (by decide) (by decide) (by decide) rfl rfl (by decide) (by decide +kernel) (Nat.le_of_ble_eq_true rfl) rfl ?_
    refine ⟨m, G.1, rfl, hm, hMG.1, hGI.1, ?_⟩
    dsimp only [Option.toList, List.cons_append, List.nil_append]
    refine zr_istore_n hC dX9_mend_14 (by decide) ?_
    refine zr_iload_n hC dX9_mend_15 rfl ?_
    refine zr_if_ge hC dX9_mend_16 (tgt := 21) (by decide) (fun c_16 => ?_) (fun c_16 => ?_)
    · have hb := (mrf_ge _ _).mp c_16
      rw [if_pos hb] at hQ
      refine zr_aload_n hC dX9_mend_21 rfl ?_
      refine zs_callV hC (b := 245) [] [] dX9_mend_22 ml_X9_101 mtX9_notes tX9_notes (by decide) (by decide) (by decide) rfl rfl (by decide) (by decide +kernel) (Nat.le_of_ble_eq_true rfl) rfl ?_
      refine keepM hMG (fun S1 hM1 hf1 _ _ => ?_)
      dsimp only [Option.toList, List.nil_append]
      refine zr_aload_n hC dX9_mend_25 rfl ?_
      refine zr_iload_n hC dX9_mend_26 rfl ?_
      refine zs_callV hC (b := 245) [_] [] dX9_mend_27 ml_X9_163 mtX9_mends tX9_mends (by decide) (by decide) (by decide) rfl rfl (by decide) (by decide +kernel) (Nat.le_of_ble_eq_true rfl) rfl ?_
      refine ⟨m, G.1, rfl, hm, hM1.1, hGI.1, hb, fun S2 hM2 hf2 => ?_⟩
      dsimp only [Option.toList, List.cons_append, List.nil_append]
      exact zr_ireturn hC hE dX9_mend_30 (hr _ _ (by first | exact hQ _ (hM1.book hM2 (hf2.up (by decide) (by decide))) (hf1.tr (hf2.m (by decide))) | exact hQ _ hMG zfm.rf))
    · have hb : ¬ mrf G.1 m = nI 0 := fun q => c_16 ((mrf_ge _ _).mpr q)
      rw [if_neg hb] at hQ
      refine zr_iload_n hC dX9_mend_19 rfl ?_
      exact zr_ireturn hC hE dX9_mend_20 (hr _ _ (by first | exact hQ _ (hM1.book hM2 (hf2.up (by decide) (by decide))) (hf1.tr (hf2.m (by decide))) | exact hQ _ hMG zfm.rf))
  · simp only [fMend, mm_no hx] at hQ
    dsimp only [Option.toList, List.cons_append, List.nil_append]
    refine zr_if_ne hC dX9_mend_4 (tgt := 9) (by decide) (fun c => absurd c (by decide +kernel)) (fun c_4 => ?_)
    refine zk_iconst hC dX9_mend_7 (v := (-1)) (by decide +kernel) ?_
    exact zr_ireturn hC hE dX9_mend_8 (hr _ _ (by first | exact hQ _ (hM1.book hM2 (hf2.up (by decide) (by decide))) (hf1.tr (hf2.m (by decide))) | exact hQ _ hMG zfm.rf))
def zclr (S : zS) (i : Nat) : zS := (fun a k => if a = 246 ∧ k < i ∧ k ≠ 3 then nI 0 else S.1 a k, S.2)
theorem zclr_0 (S : zS) : zclr S 0 = S := by
  unfold zclr
  apply Prod.ext
  · funext a k
    exact if_neg (fun q => by omega)
  · rfl
theorem zclr_s (S : zS) {i : Nat} {x : Int32} (hx : (i ≠ 3 → x = nI 0) ∧ (i = 3 → x = S.1 246 3)) : zput (zclr S i) 246 i x = zclr S (i + 1) := by
  unfold zput zclr
  apply Prod.ext
  · funext a k
    show (if a = 246 ∧ k = i then x else if a = 246 ∧ k < i ∧ k ≠ 3 then nI 0 else S.1 a k) = if a = 246 ∧ k < i + 1 ∧ k ≠ 3 then nI 0 else S.1 a k
    by_cases h1 : a = 246 ∧ k = i
    · obtain ⟨rfl, rfl⟩ := h1
      rw [if_pos ⟨rfl, rfl⟩]
      by_cases h3 : k = 3
      · rw [if_neg (fun q => q.2.2 h3), hx.2 h3, h3]
      · rw [if_pos ⟨rfl, by omega, h3⟩, hx.1 h3]
    · rw [if_neg h1]
      by_cases h2 : a = 246 ∧ k < i ∧ k ≠ 3
      · rw [if_pos h2, if_pos ⟨h2.1, by omega, h2.2.2⟩]
      · rw [if_neg h2, if_neg (fun q => h2 ⟨q.1, by have : k ≠ i := fun z => h1 ⟨q.1, z⟩; omega, q.2.2⟩)]
  · rfl
theorem zclr_ok {S : zS} {D : zD} (h : MW (S.1 246) D) : MW ((zclr S 752).1 246) (bgn D) := by
  have e : ∀ k, k < 752 → k ≠ 3 → (zclr S 752).1 246 k = nI 0 := fun k h1 h2 => if_pos ⟨rfl, h1, h2⟩
  have e3 : (zclr S 752).1 246 3 = nI (D 6 3) := by
    have e : ∀ k, k = 3 → (zclr S 752).1 246 k = S.1 246 k := fun k hk => if_neg (fun q => q.2.2 hk)
    rw [e 3 rfl]; exact h.1.1.2.2.2
  have b : ∀ f, f ≠ 6 → bgn D f = fun _ => 0 := fun f hf => funext fun k => if_neg (fun q => hf q.1)
  refine ⟨⟨⟨e 0 (by decide) (by decide), e 1 (by decide) (by decide), e 2 (by decide) (by decide), e3⟩, fun m w hm hw => ?_, fun k hk => absurd hk (Nat.not_lt_zero k), fun i hi => absurd hi (Nat.not_lt_zero i)⟩, ?_⟩
  · rw [e _ (by omega) (by omega), b _ (by have := mfld_lt (w := w); omega)]
  · refine ⟨Nat.zero_le _, Nat.zero_le _, Nat.zero_le _, fun m hm => ?_, fun k hk => absurd hk (Nat.not_lt_zero k), fun i hi => absurd hi (Nat.not_lt_zero i)⟩
    rw [b 0 (by decide), b 1 (by decide), b 2 (by decide)]
    exact ⟨(by decide : (0 : Nat) < 32), (by decide : (0 : Nat) < 3), (by decide : (0 : Nat) < 2)⟩
theorem zclr_f {S : zS} {i : Nat} : zfrm 246 247 S (zclr S i) := ⟨fun a ha => funext fun k => if_neg (fun q => by omega), rfl⟩
set_option maxHeartbeats 4000000 in
set_option maxRecDepth 100000 in
theorem l9_begin {C : zCx} {τ : Nat → ClassId} {ι : Nat → Nat} (hC : zOK C τ (zrm 3 0 0) yX9_begin.cls cX9_begin 3) {S0 : zS} {w0 : Nat} (k : ∀ lv, zlk 1 lv = some (.int (nI w0)) → zR C τ ι 3 0 0 63 lv [] (zcells (zclr S0 752))) : ∀ (d i : Nat), i + d = 752 → zR C τ ι 3 0 0 29 [(0, .ref 245), (1, .int (nI w0)), (2, .int (nI i))] [] (zcells (zclr S0 i)) := by
  intro d
  induction d with
  | zero =>
    intro i hi
    refine zr_iload_n hC dX9_begin_29 rfl ?_
    refine zk_sipush hC dX9_begin_30 (v := nI 752) (by decide +kernel) ?_
    refine zr_icmp_ge hC dX9_begin_33 (tgt := 63) (by decide) (fun c_33 => ?_) (fun c => absurd c (not_not_intro (nI_le (by omega) (by omega))))
    obtain rfl : i = 752 := (by omega)
    exact k _ rfl
  | succ d ih =>
    intro i hi
    refine zr_iload_n hC dX9_begin_29 rfl ?_
    refine zk_sipush hC dX9_begin_30 (v := nI 752) (by decide +kernel) ?_
    refine zr_icmp_ge hC dX9_begin_33 (tgt := 63) (by decide) (fun c => absurd c (nI_ge (by omega) (by omega))) (fun c_33 => ?_)
    refine zr_aload_n hC dX9_begin_36 rfl ?_
    refine zs_getr hC dX9_begin_37 fl_X9_7 (a := 245) (r := 246) rfl (by decide) ?_
    refine zr_iload_n hC dX9_begin_40 rfl ?_
    refine zr_iload_n hC dX9_begin_41 rfl ?_
    refine zk_iconst hC dX9_begin_42 (v := nI 3) (by decide +kernel) ?_
    refine zr_icmp_ne hC dX9_begin_43 (tgt := 55) (by decide) (fun c_43 => ?_) (fun c_43 => ?_)
    · have h3 : i ≠ 3 := fun q => c_43 (by rw [q])
      refine zk_iconst hC dX9_begin_55 (v := nI 0) (by decide +kernel) ?_
      refine zs_iast hC dX9_begin_56 (a := 246) (n := 752) rfl (by decide) (by decide) (j := i) rfl (by omega) ?_
      refine zn_iinc hC dX9_begin_57 rfl (by decide) (zk_inc _ 1) ?_
      refine zr_goto hC dX9_begin_60 (tgt := 29) (by decide) ?_
      rw [zclr_s S0 ⟨fun _ => rfl, fun q => absurd q h3⟩]
      exact zR_sub [(0, .ref 245), (1, .int (nI w0)), (2, .int (nI (i + 1)))] ⟨rfl, rfl, rfl, trivial⟩ (ih (i + 1) (by omega))
    · have h3 : i = 3 := (nI_eq (by omega) (by decide)).mp c_43
      refine zr_aload_n hC dX9_begin_46 rfl ?_
      refine zs_getr hC dX9_begin_47 fl_X9_7 (a := 245) (r := 246) rfl (by decide) ?_
      refine zr_iload_n hC dX9_begin_50 rfl ?_
      refine zv_iald hC dX9_begin_51 (a := 246) (n := 752) rfl (by decide) (by decide) (j := i) rfl (by omega) ((if_neg (fun q => q.2.2 h3) : (zclr S0 i).1 246 i = S0.1 246 i)) ?_
      refine zr_goto hC dX9_begin_52 (tgt := 56) (by decide) ?_
      refine zs_iast hC dX9_begin_56 (a := 246) (n := 752) rfl (by decide) (by decide) (j := i) rfl (by omega) ?_
      refine zn_iinc hC dX9_begin_57 rfl (by decide) (zk_inc _ 1) ?_
      refine zr_goto hC dX9_begin_60 (tgt := 29) (by decide) ?_
      rw [zclr_s S0 ⟨fun q => absurd h3 q, fun _ => by rw [h3]⟩]
      exact zR_sub [(0, .ref 245), (1, .int (nI w0)), (2, .int (nI (i + 1)))] ⟨rfl, rfl, rfl, trivial⟩ (ih (i + 1) (by omega))
def spX9_begin : zSp := fun av S Q => ∃ (G : zG), av = [.ref 245] ∧ MG S G ∧ GI G ∧ ∀ S', MG S' (fBegin G).2 → zfm S S' → Q (some (.int (fBegin G).1)) S'
set_option maxHeartbeats 4000000 in
set_option maxRecDepth 100000 in
theorem tX9_begin : zM yX9_begin cX9_begin 3 (some .int) 3 spX9_begin := by
  refine zM.of (by decide) (by decide) (fun av S Q h => by obtain ⟨G, rfl, hMG, hGI, hQ⟩ := h; exact Nat.le_of_ble_eq_true rfl) (fun C τ ι av S Q Qr h hr hC hE => ?_)
  obtain ⟨G, rfl, hMG, hGI, hQ⟩ := h
  unfold fBegin at hQ
  show zR C τ ι _ 0 0 0 [(0, .ref 245)] [] _
  refine zr_aload_n hC dX9_begin_0 rfl ?_
  refine zs_getr hC dX9_begin_1 fl_X9_7 (a := 245) (r := 246) rfl (by decide) ?_
  refine zk_iconst hC dX9_begin_4 (v := nI 0) (by decide +kernel) ?_
  refine zv_iald hC dX9_begin_5 (a := 246) (n := 752) rfl (by decide) (by decide) (j := 0) rfl (by decide) (hMG.1.1.1.1) ?_
  refine zr_istore_n hC dX9_begin_6 (by decide) ?_
  refine zr_iload_n hC dX9_begin_7 rfl ?_
  refine zr_if_ne hC dX9_begin_8 (tgt := 23) (by decide) (fun c_8 => ?_) (fun c_8 => ?_)
  · rw [z_ne0 (by have := hMG.1.made; omega)] at c_8
    rw [if_neg (fun q => c_8 q.1)] at hQ
    refine zr_aload_n hC dX9_begin_23 rfl ?_
    refine zs_callV hC (b := 245) [] [] dX9_begin_24 ml_X9_101 mtX9_notes tX9_notes (by decide) (by decide) (by decide) rfl rfl (by decide) (by decide +kernel) (Nat.le_of_ble_eq_true rfl) rfl ?_
    refine keepM hMG (fun S1 hM1 hf1 _ _ => ?_)
    dsimp only [Option.toList, List.nil_append]
    refine zk_iconst hC dX9_begin_27 (v := nI 0) (by decide +kernel) ?_
    refine zr_istore_n hC dX9_begin_28 (by decide) ?_
    refine zR_sub [(0, .ref 245), (1, .int (nI (G.1 6 0))), (2, .int (nI 0))] ⟨rfl, rfl, rfl, trivial⟩ ?_
    have q0 := l9_begin (S0 := S1) (w0 := G.1 6 0) hC (ι := ι) (fun lv h => ?_) 752 0 (by omega)
    · rwa [zclr_0] at q0
    · refine zr_iload_n hC dX9_begin_63 h ?_
      exact zr_ireturn hC hE dX9_begin_64 (hr _ _ (hQ _ (hM1.book (zclr_ok hM1.1) (zclr_f.up (by decide) (by decide))) (hf1.tr (zclr_f.m (by decide)))))
  · rw [z_ne0 (by have := hMG.1.made; omega)] at c_8
    refine zr_aload_n hC dX9_begin_11 rfl ?_
    refine zk_iconst hC dX9_begin_12 (v := nI 3) (by decide +kernel) ?_
    refine zk_iconst hC dX9_begin_13 (v := nI 1) (by decide +kernel) ?_
    refine zs_callV hC (b := 245) [_, _] [] dX9_begin_14 ml_X9_108 mtX9_those tX9_those (by decide) (by decide) (by decide) rfl rfl (by decide) (by decide +kernel) (Nat.le_of_ble_eq_true rfl) rfl ?_
    refine ⟨3, 1, G.1, rfl, Or.inr (Or.inr rfl), by decide, hMG.1, ?_⟩
    dsimp only [Option.toList, List.cons_append, List.nil_append]
    refine zr_if_ne hC dX9_begin_17 (tgt := 23) (by decide) (fun c_17 => ?_) (fun c_17 => ?_)
    · have c2 : cms G.1 ≠ 0 := fun q => c_17 (by show nI (cms G.1) = 0; rw [q]; rfl)
      rw [if_neg (fun q => c2 q.2)] at hQ
      refine zr_aload_n hC dX9_begin_23 rfl ?_
      refine zs_callV hC (b := 245) [] [] dX9_begin_24 ml_X9_101 mtX9_notes tX9_notes (by decide) (by decide) (by decide) rfl rfl (by decide) (by decide +kernel) (Nat.le_of_ble_eq_true rfl) rfl ?_
      refine keepM hMG (fun S1 hM1 hf1 _ _ => ?_)
      dsimp only [Option.toList, List.nil_append]
      refine zk_iconst hC dX9_begin_27 (v := nI 0) (by decide +kernel) ?_
      refine zr_istore_n hC dX9_begin_28 (by decide) ?_
      refine zR_sub [(0, .ref 245), (1, .int (nI (G.1 6 0))), (2, .int (nI 0))] ⟨rfl, rfl, rfl, trivial⟩ ?_
      have q0 := l9_begin (S0 := S1) (w0 := G.1 6 0) hC (ι := ι) (fun lv h => ?_) 752 0 (by omega)
      · rwa [zclr_0] at q0
      · refine zr_iload_n hC dX9_begin_63 h ?_
        exact zr_ireturn hC hE dX9_begin_64 (hr _ _ (hQ _ (hM1.book (zclr_ok hM1.1) (zclr_f.up (by decide) (by decide))) (hf1.tr (zclr_f.m (by decide)))))
    · have c2 : cms G.1 = 0 := (z_ne0 (Nat.lt_trans (dm_lt _) (by decide))).mp c_17
      rw [if_pos ⟨c_8, c2⟩] at hQ
      refine zk_bipush hC dX9_begin_20 (v := (-2)) (by decide +kernel) ?_
      exact zr_ireturn hC hE dX9_begin_22 (hr _ _ (hQ _ hMG zfm.rf))
