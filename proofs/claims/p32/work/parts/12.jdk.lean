def spJ6_bitCount_0f7a4 : zSp := fun av S Q => ∃ n : Nat, av = [.int (nI n)] ∧ n < 65536 ∧ Q (some (.int (nI (pcn 16 n)))) S
set_option maxHeartbeats 4000000 in
set_option maxRecDepth 100000 in
theorem tJ6_bitCount_0f7a4 : zM yJ6_bitCount_0f7a4 cJ6_bitCount_0f7a4 1 (some .int) 0 spJ6_bitCount_0f7a4 := by
  refine zM.of (by decide) (by decide) (fun av S Q h => by obtain ⟨n, rfl, hn, hQ⟩ := h; exact Nat.le_of_ble_eq_true rfl) (fun C τ ι av S Q Qr h hr hC hE => ?_)
  obtain ⟨n, rfl, hn, hQ⟩ := h
  show zR C τ ι _ 0 0 0 [(0, .int (nI n))] [] _
  refine zr_iload_n hC dJ6_bitCount_0f7a4_0 rfl ?_
  refine zr_iload_n hC dJ6_bitCount_0f7a4_1 rfl ?_
  refine zk_iconst hC dJ6_bitCount_0f7a4_2 (v := nI 1) (by decide +kernel) ?_
  refine zr_iushr hC dJ6_bitCount_0f7a4_3 ?_
  refine zr_ldcw hC dJ6_bitCount_0f7a4_4 kc_J6_265 ?_
  refine zr_iand hC dJ6_bitCount_0f7a4_7 ?_
  refine zr_isub hC dJ6_bitCount_0f7a4_8 ?_
  refine zr_istore_n hC dJ6_bitCount_0f7a4_9 (by decide) ?_
  refine zr_iload_n hC dJ6_bitCount_0f7a4_10 rfl ?_
  refine zr_ldcw hC dJ6_bitCount_0f7a4_11 kc_J6_266 ?_
  refine zr_iand hC dJ6_bitCount_0f7a4_14 ?_
  refine zr_iload_n hC dJ6_bitCount_0f7a4_15 rfl ?_
  refine zk_iconst hC dJ6_bitCount_0f7a4_16 (v := nI 2) (by decide +kernel) ?_
  refine zr_iushr hC dJ6_bitCount_0f7a4_17 ?_
  refine zr_ldcw hC dJ6_bitCount_0f7a4_18 kc_J6_266 ?_
  refine zr_iand hC dJ6_bitCount_0f7a4_21 ?_
  refine zr_iadd hC dJ6_bitCount_0f7a4_22 ?_
  refine zr_istore_n hC dJ6_bitCount_0f7a4_23 (by decide) ?_
  refine zr_iload_n hC dJ6_bitCount_0f7a4_24 rfl ?_
  refine zr_iload_n hC dJ6_bitCount_0f7a4_25 rfl ?_
  refine zk_iconst hC dJ6_bitCount_0f7a4_26 (v := nI 4) (by decide +kernel) ?_
  refine zr_iushr hC dJ6_bitCount_0f7a4_27 ?_
  refine zr_iadd hC dJ6_bitCount_0f7a4_28 ?_
  refine zr_ldcw hC dJ6_bitCount_0f7a4_29 kc_J6_267 ?_
  refine zr_iand hC dJ6_bitCount_0f7a4_32 ?_
  refine zr_istore_n hC dJ6_bitCount_0f7a4_33 (by decide) ?_
  refine zr_iload_n hC dJ6_bitCount_0f7a4_34 rfl ?_
  refine zr_iload_n hC dJ6_bitCount_0f7a4_35 rfl ?_
  refine zk_bipush hC dJ6_bitCount_0f7a4_36 (v := nI 8) (by decide +kernel) ?_
  refine zr_iushr hC dJ6_bitCount_0f7a4_38 ?_
  refine zr_iadd hC dJ6_bitCount_0f7a4_39 ?_
  refine zr_istore_n hC dJ6_bitCount_0f7a4_40 (by decide) ?_
  refine zr_iload_n hC dJ6_bitCount_0f7a4_41 rfl ?_
  refine zr_iload_n hC dJ6_bitCount_0f7a4_42 rfl ?_
  refine zk_bipush hC dJ6_bitCount_0f7a4_43 (v := nI 16) (by decide +kernel) ?_
  refine zr_iushr hC dJ6_bitCount_0f7a4_45 ?_
  refine zr_iadd hC dJ6_bitCount_0f7a4_46 ?_
  refine zr_istore_n hC dJ6_bitCount_0f7a4_47 (by decide) ?_
  refine zr_iload_n hC dJ6_bitCount_0f7a4_48 rfl ?_
  refine zk_bipush hC dJ6_bitCount_0f7a4_49 (v := nI 63) (by decide +kernel) ?_
  refine zr_iand hC dJ6_bitCount_0f7a4_51 ?_
  exact zr_ireturn hC hE dJ6_bitCount_0f7a4_52 (hr _ _ (Eq.mpr (congrArg (fun z => Q (some (.int z)) S) (bcE_all hn)) hQ))
def spJ6_numberOfTrailingZeros_0f7a4 : zSp := fun av S Q => ∃ f j : Nat, av = [.int (nI f)] ∧ 16 ≤ j ∧ j < 32 ∧ f < 4294967296 ∧ f.testBit j = true ∧ (∀ i, i < j → f.testBit i = false) ∧ Q (some (.int (nI j))) S
set_option maxHeartbeats 4000000 in
set_option maxRecDepth 100000 in
theorem tJ6_numberOfTrailingZeros_0f7a4 : zM yJ6_numberOfTrailingZeros_0f7a4 cJ6_numberOfTrailingZeros_0f7a4 2 (some .int) 0 spJ6_numberOfTrailingZeros_0f7a4 := by
  refine zM.of (by decide) (by decide) (fun av S Q h => by obtain ⟨f, j, rfl, hj0, hj, hf, h1, h0, hQ⟩ := h; exact Nat.le_of_ble_eq_true rfl) (fun C τ ι av S Q Qr h hr hC hE => ?_)
  obtain ⟨f, j, rfl, hj0, hj, hf, h1, h0, hQ⟩ := h
  show zR C τ ι _ 0 0 0 [(0, .int (nI f))] [] _
  refine zr_iload_n hC dJ6_numberOfTrailingZeros_0f7a4_0 rfl ?_
  refine zk_iconst hC dJ6_numberOfTrailingZeros_0f7a4_1 (v := (-1)) (by decide +kernel) ?_
  refine zr_ixor hC dJ6_numberOfTrailingZeros_0f7a4_2 ?_
  refine zr_iload_n hC dJ6_numberOfTrailingZeros_0f7a4_3 rfl ?_
  refine zk_iconst hC dJ6_numberOfTrailingZeros_0f7a4_4 (v := nI 1) (by decide +kernel) ?_
  refine zr_isub hC dJ6_numberOfTrailingZeros_0f7a4_5 ?_
  refine zn_iand hC dJ6_numberOfTrailingZeros_0f7a4_6 (ntz_all hj hf h1 h0) ?_
  rcases (by omega : j = 16 ∨ j = 17 ∨ j = 18 ∨ j = 19 ∨ j = 20 ∨ j = 21 ∨ j = 22 ∨ j = 23 ∨ j = 24 ∨ j = 25 ∨ j = 26 ∨ j = 27 ∨ j = 28 ∨ j = 29 ∨ j = 30 ∨ j = 31) with rfl | rfl | rfl | rfl | rfl | rfl | rfl | rfl | rfl | rfl | rfl | rfl | rfl | rfl | rfl | rfl
  · refine zr_istore_n hC dJ6_numberOfTrailingZeros_0f7a4_7 (by decide) ?_
    refine zr_iload_n hC dJ6_numberOfTrailingZeros_0f7a4_8 rfl ?_
    refine zr_if_gt hC dJ6_numberOfTrailingZeros_0f7a4_9 (tgt := 17) (by decide) (fun c_9 => ?_) (fun c => absurd c (by decide +kernel))
    refine zk_iconst hC dJ6_numberOfTrailingZeros_0f7a4_17 (v := nI 1) (by decide +kernel) ?_
    refine zr_istore_n hC dJ6_numberOfTrailingZeros_0f7a4_18 (by decide) ?_
    refine zr_iload_n hC dJ6_numberOfTrailingZeros_0f7a4_19 rfl ?_
    refine zr_ldcw hC dJ6_numberOfTrailingZeros_0f7a4_20 kc_J6_264 ?_
    refine zr_icmp_le hC dJ6_numberOfTrailingZeros_0f7a4_23 (tgt := 34) (by decide) (fun c_23 => ?_) (fun c => absurd c (by decide +kernel))
    refine zr_iload_n hC dJ6_numberOfTrailingZeros_0f7a4_34 rfl ?_
    refine zk_sipush hC dJ6_numberOfTrailingZeros_0f7a4_35 (v := nI 256) (by decide +kernel) ?_
    refine zr_icmp_le hC dJ6_numberOfTrailingZeros_0f7a4_38 (tgt := 49) (by decide) (fun c => absurd c (by decide +kernel)) (fun c_38 => ?_)
    refine zn_iinc hC dJ6_numberOfTrailingZeros_0f7a4_41 rfl (by decide) (v := nI 9) (by decide +kernel) ?_
    refine zr_iload_n hC dJ6_numberOfTrailingZeros_0f7a4_44 rfl ?_
    refine zk_bipush hC dJ6_numberOfTrailingZeros_0f7a4_45 (v := nI 8) (by decide +kernel) ?_
    refine zn_iushr hC dJ6_numberOfTrailingZeros_0f7a4_47 (v := nI 255) (by decide +kernel) ?_
    refine zr_istore_n hC dJ6_numberOfTrailingZeros_0f7a4_48 (by decide) ?_
    refine zr_iload_n hC dJ6_numberOfTrailingZeros_0f7a4_49 rfl ?_
    refine zk_bipush hC dJ6_numberOfTrailingZeros_0f7a4_50 (v := nI 16) (by decide +kernel) ?_
    refine zr_icmp_le hC dJ6_numberOfTrailingZeros_0f7a4_52 (tgt := 62) (by decide) (fun c => absurd c (by decide +kernel)) (fun c_52 => ?_)
    refine zn_iinc hC dJ6_numberOfTrailingZeros_0f7a4_55 rfl (by decide) (v := nI 13) (by decide +kernel) ?_
    refine zr_iload_n hC dJ6_numberOfTrailingZeros_0f7a4_58 rfl ?_
    refine zk_iconst hC dJ6_numberOfTrailingZeros_0f7a4_59 (v := nI 4) (by decide +kernel) ?_
    refine zn_iushr hC dJ6_numberOfTrailingZeros_0f7a4_60 (v := nI 15) (by decide +kernel) ?_
    refine zr_istore_n hC dJ6_numberOfTrailingZeros_0f7a4_61 (by decide) ?_
    refine zr_iload_n hC dJ6_numberOfTrailingZeros_0f7a4_62 rfl ?_
    refine zk_iconst hC dJ6_numberOfTrailingZeros_0f7a4_63 (v := nI 4) (by decide +kernel) ?_
    refine zr_icmp_le hC dJ6_numberOfTrailingZeros_0f7a4_64 (tgt := 74) (by decide) (fun c => absurd c (by decide +kernel)) (fun c_64 => ?_)
    refine zn_iinc hC dJ6_numberOfTrailingZeros_0f7a4_67 rfl (by decide) (v := nI 15) (by decide +kernel) ?_
    refine zr_iload_n hC dJ6_numberOfTrailingZeros_0f7a4_70 rfl ?_
    refine zk_iconst hC dJ6_numberOfTrailingZeros_0f7a4_71 (v := nI 2) (by decide +kernel) ?_
    refine zn_iushr hC dJ6_numberOfTrailingZeros_0f7a4_72 (v := nI 3) (by decide +kernel) ?_
    refine zr_istore_n hC dJ6_numberOfTrailingZeros_0f7a4_73 (by decide) ?_
    refine zr_iload_n hC dJ6_numberOfTrailingZeros_0f7a4_74 rfl ?_
    refine zr_iload_n hC dJ6_numberOfTrailingZeros_0f7a4_75 rfl ?_
    refine zk_iconst hC dJ6_numberOfTrailingZeros_0f7a4_76 (v := nI 1) (by decide +kernel) ?_
    refine zn_iushr hC dJ6_numberOfTrailingZeros_0f7a4_77 (v := nI 1) (by decide +kernel) ?_
    refine zn_iadd hC dJ6_numberOfTrailingZeros_0f7a4_78 (v := nI 16) (by decide +kernel) ?_
    exact zr_ireturn hC hE dJ6_numberOfTrailingZeros_0f7a4_79 (hr _ _ (hQ))
  · refine zr_istore_n hC dJ6_numberOfTrailingZeros_0f7a4_7 (by decide) ?_
    refine zr_iload_n hC dJ6_numberOfTrailingZeros_0f7a4_8 rfl ?_
    refine zr_if_gt hC dJ6_numberOfTrailingZeros_0f7a4_9 (tgt := 17) (by decide) (fun c_9 => ?_) (fun c => absurd c (by decide +kernel))
    refine zk_iconst hC dJ6_numberOfTrailingZeros_0f7a4_17 (v := nI 1) (by decide +kernel) ?_
    refine zr_istore_n hC dJ6_numberOfTrailingZeros_0f7a4_18 (by decide) ?_
    refine zr_iload_n hC dJ6_numberOfTrailingZeros_0f7a4_19 rfl ?_
    refine zr_ldcw hC dJ6_numberOfTrailingZeros_0f7a4_20 kc_J6_264 ?_
    refine zr_icmp_le hC dJ6_numberOfTrailingZeros_0f7a4_23 (tgt := 34) (by decide) (fun c => absurd c (by decide +kernel)) (fun c_23 => ?_)
    refine zn_iinc hC dJ6_numberOfTrailingZeros_0f7a4_26 rfl (by decide) (v := nI 17) (by decide +kernel) ?_
    refine zr_iload_n hC dJ6_numberOfTrailingZeros_0f7a4_29 rfl ?_
    refine zk_bipush hC dJ6_numberOfTrailingZeros_0f7a4_30 (v := nI 16) (by decide +kernel) ?_
    refine zn_iushr hC dJ6_numberOfTrailingZeros_0f7a4_32 (v := nI 1) (by decide +kernel) ?_
    refine zr_istore_n hC dJ6_numberOfTrailingZeros_0f7a4_33 (by decide) ?_
    refine zr_iload_n hC dJ6_numberOfTrailingZeros_0f7a4_34 rfl ?_
    refine zk_sipush hC dJ6_numberOfTrailingZeros_0f7a4_35 (v := nI 256) (by decide +kernel) ?_
    refine zr_icmp_le hC dJ6_numberOfTrailingZeros_0f7a4_38 (tgt := 49) (by decide) (fun c_38 => ?_) (fun c => absurd c (by decide +kernel))
    refine zr_iload_n hC dJ6_numberOfTrailingZeros_0f7a4_49 rfl ?_
    refine zk_bipush hC dJ6_numberOfTrailingZeros_0f7a4_50 (v := nI 16) (by decide +kernel) ?_
    refine zr_icmp_le hC dJ6_numberOfTrailingZeros_0f7a4_52 (tgt := 62) (by decide) (fun c_52 => ?_) (fun c => absurd c (by decide +kernel))
    refine zr_iload_n hC dJ6_numberOfTrailingZeros_0f7a4_62 rfl ?_
    refine zk_iconst hC dJ6_numberOfTrailingZeros_0f7a4_63 (v := nI 4) (by decide +kernel) ?_
    refine zr_icmp_le hC dJ6_numberOfTrailingZeros_0f7a4_64 (tgt := 74) (by decide) (fun c_64 => ?_) (fun c => absurd c (by decide +kernel))
    refine zr_iload_n hC dJ6_numberOfTrailingZeros_0f7a4_74 rfl ?_
    refine zr_iload_n hC dJ6_numberOfTrailingZeros_0f7a4_75 rfl ?_
    refine zk_iconst hC dJ6_numberOfTrailingZeros_0f7a4_76 (v := nI 1) (by decide +kernel) ?_
    refine zn_iushr hC dJ6_numberOfTrailingZeros_0f7a4_77 (v := nI 0) (by decide +kernel) ?_
    refine zn_iadd hC dJ6_numberOfTrailingZeros_0f7a4_78 (v := nI 17) (by decide +kernel) ?_
    exact zr_ireturn hC hE dJ6_numberOfTrailingZeros_0f7a4_79 (hr _ _ (hQ))
  · refine zr_istore_n hC dJ6_numberOfTrailingZeros_0f7a4_7 (by decide) ?_
    refine zr_iload_n hC dJ6_numberOfTrailingZeros_0f7a4_8 rfl ?_
    refine zr_if_gt hC dJ6_numberOfTrailingZeros_0f7a4_9 (tgt := 17) (by decide) (fun c_9 => ?_) (fun c => absurd c (by decide +kernel))
    refine zk_iconst hC dJ6_numberOfTrailingZeros_0f7a4_17 (v := nI 1) (by decide +kernel) ?_
    refine zr_istore_n hC dJ6_numberOfTrailingZeros_0f7a4_18 (by decide) ?_
    refine zr_iload_n hC dJ6_numberOfTrailingZeros_0f7a4_19 rfl ?_
    refine zr_ldcw hC dJ6_numberOfTrailingZeros_0f7a4_20 kc_J6_264 ?_
    refine zr_icmp_le hC dJ6_numberOfTrailingZeros_0f7a4_23 (tgt := 34) (by decide) (fun c => absurd c (by decide +kernel)) (fun c_23 => ?_)
    refine zn_iinc hC dJ6_numberOfTrailingZeros_0f7a4_26 rfl (by decide) (v := nI 17) (by decide +kernel) ?_
    refine zr_iload_n hC dJ6_numberOfTrailingZeros_0f7a4_29 rfl ?_
    refine zk_bipush hC dJ6_numberOfTrailingZeros_0f7a4_30 (v := nI 16) (by decide +kernel) ?_
    refine zn_iushr hC dJ6_numberOfTrailingZeros_0f7a4_32 (v := nI 3) (by decide +kernel) ?_
    refine zr_istore_n hC dJ6_numberOfTrailingZeros_0f7a4_33 (by decide) ?_
    refine zr_iload_n hC dJ6_numberOfTrailingZeros_0f7a4_34 rfl ?_
    refine zk_sipush hC dJ6_numberOfTrailingZeros_0f7a4_35 (v := nI 256) (by decide +kernel) ?_
    refine zr_icmp_le hC dJ6_numberOfTrailingZeros_0f7a4_38 (tgt := 49) (by decide) (fun c_38 => ?_) (fun c => absurd c (by decide +kernel))
    refine zr_iload_n hC dJ6_numberOfTrailingZeros_0f7a4_49 rfl ?_
    refine zk_bipush hC dJ6_numberOfTrailingZeros_0f7a4_50 (v := nI 16) (by decide +kernel) ?_
    refine zr_icmp_le hC dJ6_numberOfTrailingZeros_0f7a4_52 (tgt := 62) (by decide) (fun c_52 => ?_) (fun c => absurd c (by decide +kernel))
    refine zr_iload_n hC dJ6_numberOfTrailingZeros_0f7a4_62 rfl ?_
    refine zk_iconst hC dJ6_numberOfTrailingZeros_0f7a4_63 (v := nI 4) (by decide +kernel) ?_
    refine zr_icmp_le hC dJ6_numberOfTrailingZeros_0f7a4_64 (tgt := 74) (by decide) (fun c_64 => ?_) (fun c => absurd c (by decide +kernel))
    refine zr_iload_n hC dJ6_numberOfTrailingZeros_0f7a4_74 rfl ?_
    refine zr_iload_n hC dJ6_numberOfTrailingZeros_0f7a4_75 rfl ?_
    refine zk_iconst hC dJ6_numberOfTrailingZeros_0f7a4_76 (v := nI 1) (by decide +kernel) ?_
    refine zn_iushr hC dJ6_numberOfTrailingZeros_0f7a4_77 (v := nI 1) (by decide +kernel) ?_
    refine zn_iadd hC dJ6_numberOfTrailingZeros_0f7a4_78 (v := nI 18) (by decide +kernel) ?_
    exact zr_ireturn hC hE dJ6_numberOfTrailingZeros_0f7a4_79 (hr _ _ (hQ))
  · refine zr_istore_n hC dJ6_numberOfTrailingZeros_0f7a4_7 (by decide) ?_
    refine zr_iload_n hC dJ6_numberOfTrailingZeros_0f7a4_8 rfl ?_
    refine zr_if_gt hC dJ6_numberOfTrailingZeros_0f7a4_9 (tgt := 17) (by decide) (fun c_9 => ?_) (fun c => absurd c (by decide +kernel))
    refine zk_iconst hC dJ6_numberOfTrailingZeros_0f7a4_17 (v := nI 1) (by decide +kernel) ?_
    refine zr_istore_n hC dJ6_numberOfTrailingZeros_0f7a4_18 (by decide) ?_
    refine zr_iload_n hC dJ6_numberOfTrailingZeros_0f7a4_19 rfl ?_
    refine zr_ldcw hC dJ6_numberOfTrailingZeros_0f7a4_20 kc_J6_264 ?_
    refine zr_icmp_le hC dJ6_numberOfTrailingZeros_0f7a4_23 (tgt := 34) (by decide) (fun c => absurd c (by decide +kernel)) (fun c_23 => ?_)
    refine zn_iinc hC dJ6_numberOfTrailingZeros_0f7a4_26 rfl (by decide) (v := nI 17) (by decide +kernel) ?_
    refine zr_iload_n hC dJ6_numberOfTrailingZeros_0f7a4_29 rfl ?_
    refine zk_bipush hC dJ6_numberOfTrailingZeros_0f7a4_30 (v := nI 16) (by decide +kernel) ?_
    refine zn_iushr hC dJ6_numberOfTrailingZeros_0f7a4_32 (v := nI 7) (by decide +kernel) ?_
    refine zr_istore_n hC dJ6_numberOfTrailingZeros_0f7a4_33 (by decide) ?_
    refine zr_iload_n hC dJ6_numberOfTrailingZeros_0f7a4_34 rfl ?_
    refine zk_sipush hC dJ6_numberOfTrailingZeros_0f7a4_35 (v := nI 256) (by decide +kernel) ?_
    refine zr_icmp_le hC dJ6_numberOfTrailingZeros_0f7a4_38 (tgt := 49) (by decide) (fun c_38 => ?_) (fun c => absurd c (by decide +kernel))
    refine zr_iload_n hC dJ6_numberOfTrailingZeros_0f7a4_49 rfl ?_
    refine zk_bipush hC dJ6_numberOfTrailingZeros_0f7a4_50 (v := nI 16) (by decide +kernel) ?_
    refine zr_icmp_le hC dJ6_numberOfTrailingZeros_0f7a4_52 (tgt := 62) (by decide) (fun c_52 => ?_) (fun c => absurd c (by decide +kernel))
    refine zr_iload_n hC dJ6_numberOfTrailingZeros_0f7a4_62 rfl ?_
    refine zk_iconst hC dJ6_numberOfTrailingZeros_0f7a4_63 (v := nI 4) (by decide +kernel) ?_
    refine zr_icmp_le hC dJ6_numberOfTrailingZeros_0f7a4_64 (tgt := 74) (by decide) (fun c => absurd c (by decide +kernel)) (fun c_64 => ?_)
    refine zn_iinc hC dJ6_numberOfTrailingZeros_0f7a4_67 rfl (by decide) (v := nI 19) (by decide +kernel) ?_
    refine zr_iload_n hC dJ6_numberOfTrailingZeros_0f7a4_70 rfl ?_
    refine zk_iconst hC dJ6_numberOfTrailingZeros_0f7a4_71 (v := nI 2) (by decide +kernel) ?_
    refine zn_iushr hC dJ6_numberOfTrailingZeros_0f7a4_72 (v := nI 1) (by decide +kernel) ?_
    refine zr_istore_n hC dJ6_numberOfTrailingZeros_0f7a4_73 (by decide) ?_
    refine zr_iload_n hC dJ6_numberOfTrailingZeros_0f7a4_74 rfl ?_
    refine zr_iload_n hC dJ6_numberOfTrailingZeros_0f7a4_75 rfl ?_
    refine zk_iconst hC dJ6_numberOfTrailingZeros_0f7a4_76 (v := nI 1) (by decide +kernel) ?_
    refine zn_iushr hC dJ6_numberOfTrailingZeros_0f7a4_77 (v := nI 0) (by decide +kernel) ?_
    refine zn_iadd hC dJ6_numberOfTrailingZeros_0f7a4_78 (v := nI 19) (by decide +kernel) ?_
    exact zr_ireturn hC hE dJ6_numberOfTrailingZeros_0f7a4_79 (hr _ _ (hQ))
  · refine zr_istore_n hC dJ6_numberOfTrailingZeros_0f7a4_7 (by decide) ?_
    refine zr_iload_n hC dJ6_numberOfTrailingZeros_0f7a4_8 rfl ?_
    refine zr_if_gt hC dJ6_numberOfTrailingZeros_0f7a4_9 (tgt := 17) (by decide) (fun c_9 => ?_) (fun c => absurd c (by decide +kernel))
    refine zk_iconst hC dJ6_numberOfTrailingZeros_0f7a4_17 (v := nI 1) (by decide +kernel) ?_
    refine zr_istore_n hC dJ6_numberOfTrailingZeros_0f7a4_18 (by decide) ?_
    refine zr_iload_n hC dJ6_numberOfTrailingZeros_0f7a4_19 rfl ?_
    refine zr_ldcw hC dJ6_numberOfTrailingZeros_0f7a4_20 kc_J6_264 ?_
    refine zr_icmp_le hC dJ6_numberOfTrailingZeros_0f7a4_23 (tgt := 34) (by decide) (fun c => absurd c (by decide +kernel)) (fun c_23 => ?_)
    refine zn_iinc hC dJ6_numberOfTrailingZeros_0f7a4_26 rfl (by decide) (v := nI 17) (by decide +kernel) ?_
    refine zr_iload_n hC dJ6_numberOfTrailingZeros_0f7a4_29 rfl ?_
    refine zk_bipush hC dJ6_numberOfTrailingZeros_0f7a4_30 (v := nI 16) (by decide +kernel) ?_
    refine zn_iushr hC dJ6_numberOfTrailingZeros_0f7a4_32 (v := nI 15) (by decide +kernel) ?_
    refine zr_istore_n hC dJ6_numberOfTrailingZeros_0f7a4_33 (by decide) ?_
    refine zr_iload_n hC dJ6_numberOfTrailingZeros_0f7a4_34 rfl ?_
    refine zk_sipush hC dJ6_numberOfTrailingZeros_0f7a4_35 (v := nI 256) (by decide +kernel) ?_
    refine zr_icmp_le hC dJ6_numberOfTrailingZeros_0f7a4_38 (tgt := 49) (by decide) (fun c_38 => ?_) (fun c => absurd c (by decide +kernel))
    refine zr_iload_n hC dJ6_numberOfTrailingZeros_0f7a4_49 rfl ?_
    refine zk_bipush hC dJ6_numberOfTrailingZeros_0f7a4_50 (v := nI 16) (by decide +kernel) ?_
    refine zr_icmp_le hC dJ6_numberOfTrailingZeros_0f7a4_52 (tgt := 62) (by decide) (fun c_52 => ?_) (fun c => absurd c (by decide +kernel))
    refine zr_iload_n hC dJ6_numberOfTrailingZeros_0f7a4_62 rfl ?_
    refine zk_iconst hC dJ6_numberOfTrailingZeros_0f7a4_63 (v := nI 4) (by decide +kernel) ?_
    refine zr_icmp_le hC dJ6_numberOfTrailingZeros_0f7a4_64 (tgt := 74) (by decide) (fun c => absurd c (by decide +kernel)) (fun c_64 => ?_)
    refine zn_iinc hC dJ6_numberOfTrailingZeros_0f7a4_67 rfl (by decide) (v := nI 19) (by decide +kernel) ?_
    refine zr_iload_n hC dJ6_numberOfTrailingZeros_0f7a4_70 rfl ?_
    refine zk_iconst hC dJ6_numberOfTrailingZeros_0f7a4_71 (v := nI 2) (by decide +kernel) ?_
    refine zn_iushr hC dJ6_numberOfTrailingZeros_0f7a4_72 (v := nI 3) (by decide +kernel) ?_
    refine zr_istore_n hC dJ6_numberOfTrailingZeros_0f7a4_73 (by decide) ?_
    refine zr_iload_n hC dJ6_numberOfTrailingZeros_0f7a4_74 rfl ?_
    refine zr_iload_n hC dJ6_numberOfTrailingZeros_0f7a4_75 rfl ?_
    refine zk_iconst hC dJ6_numberOfTrailingZeros_0f7a4_76 (v := nI 1) (by decide +kernel) ?_
    refine zn_iushr hC dJ6_numberOfTrailingZeros_0f7a4_77 (v := nI 1) (by decide +kernel) ?_
    refine zn_iadd hC dJ6_numberOfTrailingZeros_0f7a4_78 (v := nI 20) (by decide +kernel) ?_
    exact zr_ireturn hC hE dJ6_numberOfTrailingZeros_0f7a4_79 (hr _ _ (hQ))
  · refine zr_istore_n hC dJ6_numberOfTrailingZeros_0f7a4_7 (by decide) ?_
    refine zr_iload_n hC dJ6_numberOfTrailingZeros_0f7a4_8 rfl ?_
    refine zr_if_gt hC dJ6_numberOfTrailingZeros_0f7a4_9 (tgt := 17) (by decide) (fun c_9 => ?_) (fun c => absurd c (by decide +kernel))
    refine zk_iconst hC dJ6_numberOfTrailingZeros_0f7a4_17 (v := nI 1) (by decide +kernel) ?_
    refine zr_istore_n hC dJ6_numberOfTrailingZeros_0f7a4_18 (by decide) ?_
    refine zr_iload_n hC dJ6_numberOfTrailingZeros_0f7a4_19 rfl ?_
    refine zr_ldcw hC dJ6_numberOfTrailingZeros_0f7a4_20 kc_J6_264 ?_
    refine zr_icmp_le hC dJ6_numberOfTrailingZeros_0f7a4_23 (tgt := 34) (by decide) (fun c => absurd c (by decide +kernel)) (fun c_23 => ?_)
    refine zn_iinc hC dJ6_numberOfTrailingZeros_0f7a4_26 rfl (by decide) (v := nI 17) (by decide +kernel) ?_
    refine zr_iload_n hC dJ6_numberOfTrailingZeros_0f7a4_29 rfl ?_
    refine zk_bipush hC dJ6_numberOfTrailingZeros_0f7a4_30 (v := nI 16) (by decide +kernel) ?_
    refine zn_iushr hC dJ6_numberOfTrailingZeros_0f7a4_32 (v := nI 31) (by decide +kernel) ?_
    refine zr_istore_n hC dJ6_numberOfTrailingZeros_0f7a4_33 (by decide) ?_
    refine zr_iload_n hC dJ6_numberOfTrailingZeros_0f7a4_34 rfl ?_
    refine zk_sipush hC dJ6_numberOfTrailingZeros_0f7a4_35 (v := nI 256) (by decide +kernel) ?_
    refine zr_icmp_le hC dJ6_numberOfTrailingZeros_0f7a4_38 (tgt := 49) (by decide) (fun c_38 => ?_) (fun c => absurd c (by decide +kernel))
    refine zr_iload_n hC dJ6_numberOfTrailingZeros_0f7a4_49 rfl ?_
    refine zk_bipush hC dJ6_numberOfTrailingZeros_0f7a4_50 (v := nI 16) (by decide +kernel) ?_
    refine zr_icmp_le hC dJ6_numberOfTrailingZeros_0f7a4_52 (tgt := 62) (by decide) (fun c => absurd c (by decide +kernel)) (fun c_52 => ?_)
    refine zn_iinc hC dJ6_numberOfTrailingZeros_0f7a4_55 rfl (by decide) (v := nI 21) (by decide +kernel) ?_
    refine zr_iload_n hC dJ6_numberOfTrailingZeros_0f7a4_58 rfl ?_
    refine zk_iconst hC dJ6_numberOfTrailingZeros_0f7a4_59 (v := nI 4) (by decide +kernel) ?_
    refine zn_iushr hC dJ6_numberOfTrailingZeros_0f7a4_60 (v := nI 1) (by decide +kernel) ?_
    refine zr_istore_n hC dJ6_numberOfTrailingZeros_0f7a4_61 (by decide) ?_
    refine zr_iload_n hC dJ6_numberOfTrailingZeros_0f7a4_62 rfl ?_
    refine zk_iconst hC dJ6_numberOfTrailingZeros_0f7a4_63 (v := nI 4) (by decide +kernel) ?_
    refine zr_icmp_le hC dJ6_numberOfTrailingZeros_0f7a4_64 (tgt := 74) (by decide) (fun c_64 => ?_) (fun c => absurd c (by decide +kernel))
    refine zr_iload_n hC dJ6_numberOfTrailingZeros_0f7a4_74 rfl ?_
    refine zr_iload_n hC dJ6_numberOfTrailingZeros_0f7a4_75 rfl ?_
    refine zk_iconst hC dJ6_numberOfTrailingZeros_0f7a4_76 (v := nI 1) (by decide +kernel) ?_
    refine zn_iushr hC dJ6_numberOfTrailingZeros_0f7a4_77 (v := nI 0) (by decide +kernel) ?_
    refine zn_iadd hC dJ6_numberOfTrailingZeros_0f7a4_78 (v := nI 21) (by decide +kernel) ?_
    exact zr_ireturn hC hE dJ6_numberOfTrailingZeros_0f7a4_79 (hr _ _ (hQ))
  · refine zr_istore_n hC dJ6_numberOfTrailingZeros_0f7a4_7 (by decide) ?_
    refine zr_iload_n hC dJ6_numberOfTrailingZeros_0f7a4_8 rfl ?_
    refine zr_if_gt hC dJ6_numberOfTrailingZeros_0f7a4_9 (tgt := 17) (by decide) (fun c_9 => ?_) (fun c => absurd c (by decide +kernel))
    refine zk_iconst hC dJ6_numberOfTrailingZeros_0f7a4_17 (v := nI 1) (by decide +kernel) ?_
    refine zr_istore_n hC dJ6_numberOfTrailingZeros_0f7a4_18 (by decide) ?_
    refine zr_iload_n hC dJ6_numberOfTrailingZeros_0f7a4_19 rfl ?_
    refine zr_ldcw hC dJ6_numberOfTrailingZeros_0f7a4_20 kc_J6_264 ?_
    refine zr_icmp_le hC dJ6_numberOfTrailingZeros_0f7a4_23 (tgt := 34) (by decide) (fun c => absurd c (by decide +kernel)) (fun c_23 => ?_)
    refine zn_iinc hC dJ6_numberOfTrailingZeros_0f7a4_26 rfl (by decide) (v := nI 17) (by decide +kernel) ?_
    refine zr_iload_n hC dJ6_numberOfTrailingZeros_0f7a4_29 rfl ?_
    refine zk_bipush hC dJ6_numberOfTrailingZeros_0f7a4_30 (v := nI 16) (by decide +kernel) ?_
    refine zn_iushr hC dJ6_numberOfTrailingZeros_0f7a4_32 (v := nI 63) (by decide +kernel) ?_
    refine zr_istore_n hC dJ6_numberOfTrailingZeros_0f7a4_33 (by decide) ?_
    refine zr_iload_n hC dJ6_numberOfTrailingZeros_0f7a4_34 rfl ?_
    refine zk_sipush hC dJ6_numberOfTrailingZeros_0f7a4_35 (v := nI 256) (by decide +kernel) ?_
    refine zr_icmp_le hC dJ6_numberOfTrailingZeros_0f7a4_38 (tgt := 49) (by decide) (fun c_38 => ?_) (fun c => absurd c (by decide +kernel))
    refine zr_iload_n hC dJ6_numberOfTrailingZeros_0f7a4_49 rfl ?_
    refine zk_bipush hC dJ6_numberOfTrailingZeros_0f7a4_50 (v := nI 16) (by decide +kernel) ?_
    refine zr_icmp_le hC dJ6_numberOfTrailingZeros_0f7a4_52 (tgt := 62) (by decide) (fun c => absurd c (by decide +kernel)) (fun c_52 => ?_)
    refine zn_iinc hC dJ6_numberOfTrailingZeros_0f7a4_55 rfl (by decide) (v := nI 21) (by decide +kernel) ?_
    refine zr_iload_n hC dJ6_numberOfTrailingZeros_0f7a4_58 rfl ?_
    refine zk_iconst hC dJ6_numberOfTrailingZeros_0f7a4_59 (v := nI 4) (by decide +kernel) ?_
    refine zn_iushr hC dJ6_numberOfTrailingZeros_0f7a4_60 (v := nI 3) (by decide +kernel) ?_
    refine zr_istore_n hC dJ6_numberOfTrailingZeros_0f7a4_61 (by decide) ?_
    refine zr_iload_n hC dJ6_numberOfTrailingZeros_0f7a4_62 rfl ?_
    refine zk_iconst hC dJ6_numberOfTrailingZeros_0f7a4_63 (v := nI 4) (by decide +kernel) ?_
    refine zr_icmp_le hC dJ6_numberOfTrailingZeros_0f7a4_64 (tgt := 74) (by decide) (fun c_64 => ?_) (fun c => absurd c (by decide +kernel))
    refine zr_iload_n hC dJ6_numberOfTrailingZeros_0f7a4_74 rfl ?_
    refine zr_iload_n hC dJ6_numberOfTrailingZeros_0f7a4_75 rfl ?_
    refine zk_iconst hC dJ6_numberOfTrailingZeros_0f7a4_76 (v := nI 1) (by decide +kernel) ?_
    refine zn_iushr hC dJ6_numberOfTrailingZeros_0f7a4_77 (v := nI 1) (by decide +kernel) ?_
    refine zn_iadd hC dJ6_numberOfTrailingZeros_0f7a4_78 (v := nI 22) (by decide +kernel) ?_
    exact zr_ireturn hC hE dJ6_numberOfTrailingZeros_0f7a4_79 (hr _ _ (hQ))
  · refine zr_istore_n hC dJ6_numberOfTrailingZeros_0f7a4_7 (by decide) ?_
    refine zr_iload_n hC dJ6_numberOfTrailingZeros_0f7a4_8 rfl ?_
    refine zr_if_gt hC dJ6_numberOfTrailingZeros_0f7a4_9 (tgt := 17) (by decide) (fun c_9 => ?_) (fun c => absurd c (by decide +kernel))
    refine zk_iconst hC dJ6_numberOfTrailingZeros_0f7a4_17 (v := nI 1) (by decide +kernel) ?_
    refine zr_istore_n hC dJ6_numberOfTrailingZeros_0f7a4_18 (by decide) ?_
    refine zr_iload_n hC dJ6_numberOfTrailingZeros_0f7a4_19 rfl ?_
    refine zr_ldcw hC dJ6_numberOfTrailingZeros_0f7a4_20 kc_J6_264 ?_
    refine zr_icmp_le hC dJ6_numberOfTrailingZeros_0f7a4_23 (tgt := 34) (by decide) (fun c => absurd c (by decide +kernel)) (fun c_23 => ?_)
    refine zn_iinc hC dJ6_numberOfTrailingZeros_0f7a4_26 rfl (by decide) (v := nI 17) (by decide +kernel) ?_
    refine zr_iload_n hC dJ6_numberOfTrailingZeros_0f7a4_29 rfl ?_
    refine zk_bipush hC dJ6_numberOfTrailingZeros_0f7a4_30 (v := nI 16) (by decide +kernel) ?_
    refine zn_iushr hC dJ6_numberOfTrailingZeros_0f7a4_32 (v := nI 127) (by decide +kernel) ?_
    refine zr_istore_n hC dJ6_numberOfTrailingZeros_0f7a4_33 (by decide) ?_
    refine zr_iload_n hC dJ6_numberOfTrailingZeros_0f7a4_34 rfl ?_
    refine zk_sipush hC dJ6_numberOfTrailingZeros_0f7a4_35 (v := nI 256) (by decide +kernel) ?_
    refine zr_icmp_le hC dJ6_numberOfTrailingZeros_0f7a4_38 (tgt := 49) (by decide) (fun c_38 => ?_) (fun c => absurd c (by decide +kernel))
    refine zr_iload_n hC dJ6_numberOfTrailingZeros_0f7a4_49 rfl ?_
    refine zk_bipush hC dJ6_numberOfTrailingZeros_0f7a4_50 (v := nI 16) (by decide +kernel) ?_
    refine zr_icmp_le hC dJ6_numberOfTrailingZeros_0f7a4_52 (tgt := 62) (by decide) (fun c => absurd c (by decide +kernel)) (fun c_52 => ?_)
    refine zn_iinc hC dJ6_numberOfTrailingZeros_0f7a4_55 rfl (by decide) (v := nI 21) (by decide +kernel) ?_
    refine zr_iload_n hC dJ6_numberOfTrailingZeros_0f7a4_58 rfl ?_
    refine zk_iconst hC dJ6_numberOfTrailingZeros_0f7a4_59 (v := nI 4) (by decide +kernel) ?_
    refine zn_iushr hC dJ6_numberOfTrailingZeros_0f7a4_60 (v := nI 7) (by decide +kernel) ?_
    refine zr_istore_n hC dJ6_numberOfTrailingZeros_0f7a4_61 (by decide) ?_
    refine zr_iload_n hC dJ6_numberOfTrailingZeros_0f7a4_62 rfl ?_
    refine zk_iconst hC dJ6_numberOfTrailingZeros_0f7a4_63 (v := nI 4) (by decide +kernel) ?_
    refine zr_icmp_le hC dJ6_numberOfTrailingZeros_0f7a4_64 (tgt := 74) (by decide) (fun c => absurd c (by decide +kernel)) (fun c_64 => ?_)
    refine zn_iinc hC dJ6_numberOfTrailingZeros_0f7a4_67 rfl (by decide) (v := nI 23) (by decide +kernel) ?_
    refine zr_iload_n hC dJ6_numberOfTrailingZeros_0f7a4_70 rfl ?_
    refine zk_iconst hC dJ6_numberOfTrailingZeros_0f7a4_71 (v := nI 2) (by decide +kernel) ?_
    refine zn_iushr hC dJ6_numberOfTrailingZeros_0f7a4_72 (v := nI 1) (by decide +kernel) ?_
    refine zr_istore_n hC dJ6_numberOfTrailingZeros_0f7a4_73 (by decide) ?_
    refine zr_iload_n hC dJ6_numberOfTrailingZeros_0f7a4_74 rfl ?_
    refine zr_iload_n hC dJ6_numberOfTrailingZeros_0f7a4_75 rfl ?_
    refine zk_iconst hC dJ6_numberOfTrailingZeros_0f7a4_76 (v := nI 1) (by decide +kernel) ?_
    refine zn_iushr hC dJ6_numberOfTrailingZeros_0f7a4_77 (v := nI 0) (by decide +kernel) ?_
    refine zn_iadd hC dJ6_numberOfTrailingZeros_0f7a4_78 (v := nI 23) (by decide +kernel) ?_
    exact zr_ireturn hC hE dJ6_numberOfTrailingZeros_0f7a4_79 (hr _ _ (hQ))
  · refine zr_istore_n hC dJ6_numberOfTrailingZeros_0f7a4_7 (by decide) ?_
    refine zr_iload_n hC dJ6_numberOfTrailingZeros_0f7a4_8 rfl ?_
    refine zr_if_gt hC dJ6_numberOfTrailingZeros_0f7a4_9 (tgt := 17) (by decide) (fun c_9 => ?_) (fun c => absurd c (by decide +kernel))
    refine zk_iconst hC dJ6_numberOfTrailingZeros_0f7a4_17 (v := nI 1) (by decide +kernel) ?_
    refine zr_istore_n hC dJ6_numberOfTrailingZeros_0f7a4_18 (by decide) ?_
    refine zr_iload_n hC dJ6_numberOfTrailingZeros_0f7a4_19 rfl ?_
    refine zr_ldcw hC dJ6_numberOfTrailingZeros_0f7a4_20 kc_J6_264 ?_
    refine zr_icmp_le hC dJ6_numberOfTrailingZeros_0f7a4_23 (tgt := 34) (by decide) (fun c => absurd c (by decide +kernel)) (fun c_23 => ?_)
    refine zn_iinc hC dJ6_numberOfTrailingZeros_0f7a4_26 rfl (by decide) (v := nI 17) (by decide +kernel) ?_
    refine zr_iload_n hC dJ6_numberOfTrailingZeros_0f7a4_29 rfl ?_
    refine zk_bipush hC dJ6_numberOfTrailingZeros_0f7a4_30 (v := nI 16) (by decide +kernel) ?_
    refine zn_iushr hC dJ6_numberOfTrailingZeros_0f7a4_32 (v := nI 255) (by decide +kernel) ?_
    refine zr_istore_n hC dJ6_numberOfTrailingZeros_0f7a4_33 (by decide) ?_
    refine zr_iload_n hC dJ6_numberOfTrailingZeros_0f7a4_34 rfl ?_
    refine zk_sipush hC dJ6_numberOfTrailingZeros_0f7a4_35 (v := nI 256) (by decide +kernel) ?_
    refine zr_icmp_le hC dJ6_numberOfTrailingZeros_0f7a4_38 (tgt := 49) (by decide) (fun c_38 => ?_) (fun c => absurd c (by decide +kernel))
    refine zr_iload_n hC dJ6_numberOfTrailingZeros_0f7a4_49 rfl ?_
    refine zk_bipush hC dJ6_numberOfTrailingZeros_0f7a4_50 (v := nI 16) (by decide +kernel) ?_
    refine zr_icmp_le hC dJ6_numberOfTrailingZeros_0f7a4_52 (tgt := 62) (by decide) (fun c => absurd c (by decide +kernel)) (fun c_52 => ?_)
    refine zn_iinc hC dJ6_numberOfTrailingZeros_0f7a4_55 rfl (by decide) (v := nI 21) (by decide +kernel) ?_
    refine zr_iload_n hC dJ6_numberOfTrailingZeros_0f7a4_58 rfl ?_
    refine zk_iconst hC dJ6_numberOfTrailingZeros_0f7a4_59 (v := nI 4) (by decide +kernel) ?_
    refine zn_iushr hC dJ6_numberOfTrailingZeros_0f7a4_60 (v := nI 15) (by decide +kernel) ?_
    refine zr_istore_n hC dJ6_numberOfTrailingZeros_0f7a4_61 (by decide) ?_
    refine zr_iload_n hC dJ6_numberOfTrailingZeros_0f7a4_62 rfl ?_
    refine zk_iconst hC dJ6_numberOfTrailingZeros_0f7a4_63 (v := nI 4) (by decide +kernel) ?_
    refine zr_icmp_le hC dJ6_numberOfTrailingZeros_0f7a4_64 (tgt := 74) (by decide) (fun c => absurd c (by decide +kernel)) (fun c_64 => ?_)
    refine zn_iinc hC dJ6_numberOfTrailingZeros_0f7a4_67 rfl (by decide) (v := nI 23) (by decide +kernel) ?_
    refine zr_iload_n hC dJ6_numberOfTrailingZeros_0f7a4_70 rfl ?_
    refine zk_iconst hC dJ6_numberOfTrailingZeros_0f7a4_71 (v := nI 2) (by decide +kernel) ?_
    refine zn_iushr hC dJ6_numberOfTrailingZeros_0f7a4_72 (v := nI 3) (by decide +kernel) ?_
    refine zr_istore_n hC dJ6_numberOfTrailingZeros_0f7a4_73 (by decide) ?_
    refine zr_iload_n hC dJ6_numberOfTrailingZeros_0f7a4_74 rfl ?_
    refine zr_iload_n hC dJ6_numberOfTrailingZeros_0f7a4_75 rfl ?_
    refine zk_iconst hC dJ6_numberOfTrailingZeros_0f7a4_76 (v := nI 1) (by decide +kernel) ?_
    refine zn_iushr hC dJ6_numberOfTrailingZeros_0f7a4_77 (v := nI 1) (by decide +kernel) ?_
    refine zn_iadd hC dJ6_numberOfTrailingZeros_0f7a4_78 (v := nI 24) (by decide +kernel) ?_
    exact zr_ireturn hC hE dJ6_numberOfTrailingZeros_0f7a4_79 (hr _ _ (hQ))
  · refine zr_istore_n hC dJ6_numberOfTrailingZeros_0f7a4_7 (by decide) ?_
    refine zr_iload_n hC dJ6_numberOfTrailingZeros_0f7a4_8 rfl ?_
    refine zr_if_gt hC dJ6_numberOfTrailingZeros_0f7a4_9 (tgt := 17) (by decide) (fun c_9 => ?_) (fun c => absurd c (by decide +kernel))
    refine zk_iconst hC dJ6_numberOfTrailingZeros_0f7a4_17 (v := nI 1) (by decide +kernel) ?_
    refine zr_istore_n hC dJ6_numberOfTrailingZeros_0f7a4_18 (by decide) ?_
    refine zr_iload_n hC dJ6_numberOfTrailingZeros_0f7a4_19 rfl ?_
    refine zr_ldcw hC dJ6_numberOfTrailingZeros_0f7a4_20 kc_J6_264 ?_
    refine zr_icmp_le hC dJ6_numberOfTrailingZeros_0f7a4_23 (tgt := 34) (by decide) (fun c => absurd c (by decide +kernel)) (fun c_23 => ?_)
    refine zn_iinc hC dJ6_numberOfTrailingZeros_0f7a4_26 rfl (by decide) (v := nI 17) (by decide +kernel) ?_
    refine zr_iload_n hC dJ6_numberOfTrailingZeros_0f7a4_29 rfl ?_
    refine zk_bipush hC dJ6_numberOfTrailingZeros_0f7a4_30 (v := nI 16) (by decide +kernel) ?_
    refine zn_iushr hC dJ6_numberOfTrailingZeros_0f7a4_32 (v := nI 511) (by decide +kernel) ?_
    refine zr_istore_n hC dJ6_numberOfTrailingZeros_0f7a4_33 (by decide) ?_
    refine zr_iload_n hC dJ6_numberOfTrailingZeros_0f7a4_34 rfl ?_
    refine zk_sipush hC dJ6_numberOfTrailingZeros_0f7a4_35 (v := nI 256) (by decide +kernel) ?_
    refine zr_icmp_le hC dJ6_numberOfTrailingZeros_0f7a4_38 (tgt := 49) (by decide) (fun c => absurd c (by decide +kernel)) (fun c_38 => ?_)
    refine zn_iinc hC dJ6_numberOfTrailingZeros_0f7a4_41 rfl (by decide) (v := nI 25) (by decide +kernel) ?_
    refine zr_iload_n hC dJ6_numberOfTrailingZeros_0f7a4_44 rfl ?_
    refine zk_bipush hC dJ6_numberOfTrailingZeros_0f7a4_45 (v := nI 8) (by decide +kernel) ?_
    refine zn_iushr hC dJ6_numberOfTrailingZeros_0f7a4_47 (v := nI 1) (by decide +kernel) ?_
    refine zr_istore_n hC dJ6_numberOfTrailingZeros_0f7a4_48 (by decide) ?_
    refine zr_iload_n hC dJ6_numberOfTrailingZeros_0f7a4_49 rfl ?_
    refine zk_bipush hC dJ6_numberOfTrailingZeros_0f7a4_50 (v := nI 16) (by decide +kernel) ?_
    refine zr_icmp_le hC dJ6_numberOfTrailingZeros_0f7a4_52 (tgt := 62) (by decide) (fun c_52 => ?_) (fun c => absurd c (by decide +kernel))
    refine zr_iload_n hC dJ6_numberOfTrailingZeros_0f7a4_62 rfl ?_
    refine zk_iconst hC dJ6_numberOfTrailingZeros_0f7a4_63 (v := nI 4) (by decide +kernel) ?_
    refine zr_icmp_le hC dJ6_numberOfTrailingZeros_0f7a4_64 (tgt := 74) (by decide) (fun c_64 => ?_) (fun c => absurd c (by decide +kernel))
    refine zr_iload_n hC dJ6_numberOfTrailingZeros_0f7a4_74 rfl ?_
    refine zr_iload_n hC dJ6_numberOfTrailingZeros_0f7a4_75 rfl ?_
    refine zk_iconst hC dJ6_numberOfTrailingZeros_0f7a4_76 (v := nI 1) (by decide +kernel) ?_
    refine zn_iushr hC dJ6_numberOfTrailingZeros_0f7a4_77 (v := nI 0) (by decide +kernel) ?_
    refine zn_iadd hC dJ6_numberOfTrailingZeros_0f7a4_78 (v := nI 25) (by decide +kernel) ?_
    exact zr_ireturn hC hE dJ6_numberOfTrailingZeros_0f7a4_79 (hr _ _ (hQ))
  · refine zr_istore_n hC dJ6_numberOfTrailingZeros_0f7a4_7 (by decide) ?_
    refine zr_iload_n hC dJ6_numberOfTrailingZeros_0f7a4_8 rfl ?_
    refine zr_if_gt hC dJ6_numberOfTrailingZeros_0f7a4_9 (tgt := 17) (by decide) (fun c_9 => ?_) (fun c => absurd c (by decide +kernel))
    refine zk_iconst hC dJ6_numberOfTrailingZeros_0f7a4_17 (v := nI 1) (by decide +kernel) ?_
    refine zr_istore_n hC dJ6_numberOfTrailingZeros_0f7a4_18 (by decide) ?_
    refine zr_iload_n hC dJ6_numberOfTrailingZeros_0f7a4_19 rfl ?_
    refine zr_ldcw hC dJ6_numberOfTrailingZeros_0f7a4_20 kc_J6_264 ?_
    refine zr_icmp_le hC dJ6_numberOfTrailingZeros_0f7a4_23 (tgt := 34) (by decide) (fun c => absurd c (by decide +kernel)) (fun c_23 => ?_)
    refine zn_iinc hC dJ6_numberOfTrailingZeros_0f7a4_26 rfl (by decide) (v := nI 17) (by decide +kernel) ?_
    refine zr_iload_n hC dJ6_numberOfTrailingZeros_0f7a4_29 rfl ?_
    refine zk_bipush hC dJ6_numberOfTrailingZeros_0f7a4_30 (v := nI 16) (by decide +kernel) ?_
    refine zn_iushr hC dJ6_numberOfTrailingZeros_0f7a4_32 (v := nI 1023) (by decide +kernel) ?_
    refine zr_istore_n hC dJ6_numberOfTrailingZeros_0f7a4_33 (by decide) ?_
    refine zr_iload_n hC dJ6_numberOfTrailingZeros_0f7a4_34 rfl ?_
    refine zk_sipush hC dJ6_numberOfTrailingZeros_0f7a4_35 (v := nI 256) (by decide +kernel) ?_
    refine zr_icmp_le hC dJ6_numberOfTrailingZeros_0f7a4_38 (tgt := 49) (by decide) (fun c => absurd c (by decide +kernel)) (fun c_38 => ?_)
    refine zn_iinc hC dJ6_numberOfTrailingZeros_0f7a4_41 rfl (by decide) (v := nI 25) (by decide +kernel) ?_
    refine zr_iload_n hC dJ6_numberOfTrailingZeros_0f7a4_44 rfl ?_
    refine zk_bipush hC dJ6_numberOfTrailingZeros_0f7a4_45 (v := nI 8) (by decide +kernel) ?_
    refine zn_iushr hC dJ6_numberOfTrailingZeros_0f7a4_47 (v := nI 3) (by decide +kernel) ?_
    refine zr_istore_n hC dJ6_numberOfTrailingZeros_0f7a4_48 (by decide) ?_
    refine zr_iload_n hC dJ6_numberOfTrailingZeros_0f7a4_49 rfl ?_
    refine zk_bipush hC dJ6_numberOfTrailingZeros_0f7a4_50 (v := nI 16) (by decide +kernel) ?_
    refine zr_icmp_le hC dJ6_numberOfTrailingZeros_0f7a4_52 (tgt := 62) (by decide) (fun c_52 => ?_) (fun c => absurd c (by decide +kernel))
    refine zr_iload_n hC dJ6_numberOfTrailingZeros_0f7a4_62 rfl ?_
    refine zk_iconst hC dJ6_numberOfTrailingZeros_0f7a4_63 (v := nI 4) (by decide +kernel) ?_
    refine zr_icmp_le hC dJ6_numberOfTrailingZeros_0f7a4_64 (tgt := 74) (by decide) (fun c_64 => ?_) (fun c => absurd c (by decide +kernel))
    refine zr_iload_n hC dJ6_numberOfTrailingZeros_0f7a4_74 rfl ?_
    refine zr_iload_n hC dJ6_numberOfTrailingZeros_0f7a4_75 rfl ?_
    refine zk_iconst hC dJ6_numberOfTrailingZeros_0f7a4_76 (v := nI 1) (by decide +kernel) ?_
    refine zn_iushr hC dJ6_numberOfTrailingZeros_0f7a4_77 (v := nI 1) (by decide +kernel) ?_
    refine zn_iadd hC dJ6_numberOfTrailingZeros_0f7a4_78 (v := nI 26) (by decide +kernel) ?_
    exact zr_ireturn hC hE dJ6_numberOfTrailingZeros_0f7a4_79 (hr _ _ (hQ))
  · refine zr_istore_n hC dJ6_numberOfTrailingZeros_0f7a4_7 (by decide) ?_
    refine zr_iload_n hC dJ6_numberOfTrailingZeros_0f7a4_8 rfl ?_
    refine zr_if_gt hC dJ6_numberOfTrailingZeros_0f7a4_9 (tgt := 17) (by decide) (fun c_9 => ?_) (fun c => absurd c (by decide +kernel))
    refine zk_iconst hC dJ6_numberOfTrailingZeros_0f7a4_17 (v := nI 1) (by decide +kernel) ?_
    refine zr_istore_n hC dJ6_numberOfTrailingZeros_0f7a4_18 (by decide) ?_
    refine zr_iload_n hC dJ6_numberOfTrailingZeros_0f7a4_19 rfl ?_
    refine zr_ldcw hC dJ6_numberOfTrailingZeros_0f7a4_20 kc_J6_264 ?_
    refine zr_icmp_le hC dJ6_numberOfTrailingZeros_0f7a4_23 (tgt := 34) (by decide) (fun c => absurd c (by decide +kernel)) (fun c_23 => ?_)
    refine zn_iinc hC dJ6_numberOfTrailingZeros_0f7a4_26 rfl (by decide) (v := nI 17) (by decide +kernel) ?_
    refine zr_iload_n hC dJ6_numberOfTrailingZeros_0f7a4_29 rfl ?_
    refine zk_bipush hC dJ6_numberOfTrailingZeros_0f7a4_30 (v := nI 16) (by decide +kernel) ?_
    refine zn_iushr hC dJ6_numberOfTrailingZeros_0f7a4_32 (v := nI 2047) (by decide +kernel) ?_
    refine zr_istore_n hC dJ6_numberOfTrailingZeros_0f7a4_33 (by decide) ?_
    refine zr_iload_n hC dJ6_numberOfTrailingZeros_0f7a4_34 rfl ?_
    refine zk_sipush hC dJ6_numberOfTrailingZeros_0f7a4_35 (v := nI 256) (by decide +kernel) ?_
    refine zr_icmp_le hC dJ6_numberOfTrailingZeros_0f7a4_38 (tgt := 49) (by decide) (fun c => absurd c (by decide +kernel)) (fun c_38 => ?_)
    refine zn_iinc hC dJ6_numberOfTrailingZeros_0f7a4_41 rfl (by decide) (v := nI 25) (by decide +kernel) ?_
    refine zr_iload_n hC dJ6_numberOfTrailingZeros_0f7a4_44 rfl ?_
    refine zk_bipush hC dJ6_numberOfTrailingZeros_0f7a4_45 (v := nI 8) (by decide +kernel) ?_
    refine zn_iushr hC dJ6_numberOfTrailingZeros_0f7a4_47 (v := nI 7) (by decide +kernel) ?_
    refine zr_istore_n hC dJ6_numberOfTrailingZeros_0f7a4_48 (by decide) ?_
    refine zr_iload_n hC dJ6_numberOfTrailingZeros_0f7a4_49 rfl ?_
    refine zk_bipush hC dJ6_numberOfTrailingZeros_0f7a4_50 (v := nI 16) (by decide +kernel) ?_
    refine zr_icmp_le hC dJ6_numberOfTrailingZeros_0f7a4_52 (tgt := 62) (by decide) (fun c_52 => ?_) (fun c => absurd c (by decide +kernel))
    refine zr_iload_n hC dJ6_numberOfTrailingZeros_0f7a4_62 rfl ?_
    refine zk_iconst hC dJ6_numberOfTrailingZeros_0f7a4_63 (v := nI 4) (by decide +kernel) ?_
    refine zr_icmp_le hC dJ6_numberOfTrailingZeros_0f7a4_64 (tgt := 74) (by decide) (fun c => absurd c (by decide +kernel)) (fun c_64 => ?_)
    refine zn_iinc hC dJ6_numberOfTrailingZeros_0f7a4_67 rfl (by decide) (v := nI 27) (by decide +kernel) ?_
    refine zr_iload_n hC dJ6_numberOfTrailingZeros_0f7a4_70 rfl ?_
    refine zk_iconst hC dJ6_numberOfTrailingZeros_0f7a4_71 (v := nI 2) (by decide +kernel) ?_
    refine zn_iushr hC dJ6_numberOfTrailingZeros_0f7a4_72 (v := nI 1) (by decide +kernel) ?_
    refine zr_istore_n hC dJ6_numberOfTrailingZeros_0f7a4_73 (by decide) ?_
    refine zr_iload_n hC dJ6_numberOfTrailingZeros_0f7a4_74 rfl ?_
    refine zr_iload_n hC dJ6_numberOfTrailingZeros_0f7a4_75 rfl ?_
    refine zk_iconst hC dJ6_numberOfTrailingZeros_0f7a4_76 (v := nI 1) (by decide +kernel) ?_
    refine zn_iushr hC dJ6_numberOfTrailingZeros_0f7a4_77 (v := nI 0) (by decide +kernel) ?_
    refine zn_iadd hC dJ6_numberOfTrailingZeros_0f7a4_78 (v := nI 27) (by decide +kernel) ?_
    exact zr_ireturn hC hE dJ6_numberOfTrailingZeros_0f7a4_79 (hr _ _ (hQ))
  · refine zr_istore_n hC dJ6_numberOfTrailingZeros_0f7a4_7 (by decide) ?_
    refine zr_iload_n hC dJ6_numberOfTrailingZeros_0f7a4_8 rfl ?_
    refine zr_if_gt hC dJ6_numberOfTrailingZeros_0f7a4_9 (tgt := 17) (by decide) (fun c_9 => ?_) (fun c => absurd c (by decide +kernel))
    refine zk_iconst hC dJ6_numberOfTrailingZeros_0f7a4_17 (v := nI 1) (by decide +kernel) ?_
    refine zr_istore_n hC dJ6_numberOfTrailingZeros_0f7a4_18 (by decide) ?_
    refine zr_iload_n hC dJ6_numberOfTrailingZeros_0f7a4_19 rfl ?_
    refine zr_ldcw hC dJ6_numberOfTrailingZeros_0f7a4_20 kc_J6_264 ?_
    refine zr_icmp_le hC dJ6_numberOfTrailingZeros_0f7a4_23 (tgt := 34) (by decide) (fun c => absurd c (by decide +kernel)) (fun c_23 => ?_)
    refine zn_iinc hC dJ6_numberOfTrailingZeros_0f7a4_26 rfl (by decide) (v := nI 17) (by decide +kernel) ?_
    refine zr_iload_n hC dJ6_numberOfTrailingZeros_0f7a4_29 rfl ?_
    refine zk_bipush hC dJ6_numberOfTrailingZeros_0f7a4_30 (v := nI 16) (by decide +kernel) ?_
    refine zn_iushr hC dJ6_numberOfTrailingZeros_0f7a4_32 (v := nI 4095) (by decide +kernel) ?_
    refine zr_istore_n hC dJ6_numberOfTrailingZeros_0f7a4_33 (by decide) ?_
    refine zr_iload_n hC dJ6_numberOfTrailingZeros_0f7a4_34 rfl ?_
    refine zk_sipush hC dJ6_numberOfTrailingZeros_0f7a4_35 (v := nI 256) (by decide +kernel) ?_
    refine zr_icmp_le hC dJ6_numberOfTrailingZeros_0f7a4_38 (tgt := 49) (by decide) (fun c => absurd c (by decide +kernel)) (fun c_38 => ?_)
    refine zn_iinc hC dJ6_numberOfTrailingZeros_0f7a4_41 rfl (by decide) (v := nI 25) (by decide +kernel) ?_
    refine zr_iload_n hC dJ6_numberOfTrailingZeros_0f7a4_44 rfl ?_
    refine zk_bipush hC dJ6_numberOfTrailingZeros_0f7a4_45 (v := nI 8) (by decide +kernel) ?_
    refine zn_iushr hC dJ6_numberOfTrailingZeros_0f7a4_47 (v := nI 15) (by decide +kernel) ?_
    refine zr_istore_n hC dJ6_numberOfTrailingZeros_0f7a4_48 (by decide) ?_
    refine zr_iload_n hC dJ6_numberOfTrailingZeros_0f7a4_49 rfl ?_
    refine zk_bipush hC dJ6_numberOfTrailingZeros_0f7a4_50 (v := nI 16) (by decide +kernel) ?_
    refine zr_icmp_le hC dJ6_numberOfTrailingZeros_0f7a4_52 (tgt := 62) (by decide) (fun c_52 => ?_) (fun c => absurd c (by decide +kernel))
    refine zr_iload_n hC dJ6_numberOfTrailingZeros_0f7a4_62 rfl ?_
    refine zk_iconst hC dJ6_numberOfTrailingZeros_0f7a4_63 (v := nI 4) (by decide +kernel) ?_
    refine zr_icmp_le hC dJ6_numberOfTrailingZeros_0f7a4_64 (tgt := 74) (by decide) (fun c => absurd c (by decide +kernel)) (fun c_64 => ?_)
    refine zn_iinc hC dJ6_numberOfTrailingZeros_0f7a4_67 rfl (by decide) (v := nI 27) (by decide +kernel) ?_
    refine zr_iload_n hC dJ6_numberOfTrailingZeros_0f7a4_70 rfl ?_
    refine zk_iconst hC dJ6_numberOfTrailingZeros_0f7a4_71 (v := nI 2) (by decide +kernel) ?_
    refine zn_iushr hC dJ6_numberOfTrailingZeros_0f7a4_72 (v := nI 3) (by decide +kernel) ?_
    refine zr_istore_n hC dJ6_numberOfTrailingZeros_0f7a4_73 (by decide) ?_
    refine zr_iload_n hC dJ6_numberOfTrailingZeros_0f7a4_74 rfl ?_
    refine zr_iload_n hC dJ6_numberOfTrailingZeros_0f7a4_75 rfl ?_
    refine zk_iconst hC dJ6_numberOfTrailingZeros_0f7a4_76 (v := nI 1) (by decide +kernel) ?_
    refine zn_iushr hC dJ6_numberOfTrailingZeros_0f7a4_77 (v := nI 1) (by decide +kernel) ?_
    refine zn_iadd hC dJ6_numberOfTrailingZeros_0f7a4_78 (v := nI 28) (by decide +kernel) ?_
    exact zr_ireturn hC hE dJ6_numberOfTrailingZeros_0f7a4_79 (hr _ _ (hQ))
  · refine zr_istore_n hC dJ6_numberOfTrailingZeros_0f7a4_7 (by decide) ?_
    refine zr_iload_n hC dJ6_numberOfTrailingZeros_0f7a4_8 rfl ?_
    refine zr_if_gt hC dJ6_numberOfTrailingZeros_0f7a4_9 (tgt := 17) (by decide) (fun c_9 => ?_) (fun c => absurd c (by decide +kernel))
    refine zk_iconst hC dJ6_numberOfTrailingZeros_0f7a4_17 (v := nI 1) (by decide +kernel) ?_
    refine zr_istore_n hC dJ6_numberOfTrailingZeros_0f7a4_18 (by decide) ?_
    refine zr_iload_n hC dJ6_numberOfTrailingZeros_0f7a4_19 rfl ?_
    refine zr_ldcw hC dJ6_numberOfTrailingZeros_0f7a4_20 kc_J6_264 ?_
    refine zr_icmp_le hC dJ6_numberOfTrailingZeros_0f7a4_23 (tgt := 34) (by decide) (fun c => absurd c (by decide +kernel)) (fun c_23 => ?_)
    refine zn_iinc hC dJ6_numberOfTrailingZeros_0f7a4_26 rfl (by decide) (v := nI 17) (by decide +kernel) ?_
    refine zr_iload_n hC dJ6_numberOfTrailingZeros_0f7a4_29 rfl ?_
    refine zk_bipush hC dJ6_numberOfTrailingZeros_0f7a4_30 (v := nI 16) (by decide +kernel) ?_
    refine zn_iushr hC dJ6_numberOfTrailingZeros_0f7a4_32 (v := nI 8191) (by decide +kernel) ?_
    refine zr_istore_n hC dJ6_numberOfTrailingZeros_0f7a4_33 (by decide) ?_
    refine zr_iload_n hC dJ6_numberOfTrailingZeros_0f7a4_34 rfl ?_
    refine zk_sipush hC dJ6_numberOfTrailingZeros_0f7a4_35 (v := nI 256) (by decide +kernel) ?_
    refine zr_icmp_le hC dJ6_numberOfTrailingZeros_0f7a4_38 (tgt := 49) (by decide) (fun c => absurd c (by decide +kernel)) (fun c_38 => ?_)
    refine zn_iinc hC dJ6_numberOfTrailingZeros_0f7a4_41 rfl (by decide) (v := nI 25) (by decide +kernel) ?_
    refine zr_iload_n hC dJ6_numberOfTrailingZeros_0f7a4_44 rfl ?_
    refine zk_bipush hC dJ6_numberOfTrailingZeros_0f7a4_45 (v := nI 8) (by decide +kernel) ?_
    refine zn_iushr hC dJ6_numberOfTrailingZeros_0f7a4_47 (v := nI 31) (by decide +kernel) ?_
    refine zr_istore_n hC dJ6_numberOfTrailingZeros_0f7a4_48 (by decide) ?_
    refine zr_iload_n hC dJ6_numberOfTrailingZeros_0f7a4_49 rfl ?_
    refine zk_bipush hC dJ6_numberOfTrailingZeros_0f7a4_50 (v := nI 16) (by decide +kernel) ?_
    refine zr_icmp_le hC dJ6_numberOfTrailingZeros_0f7a4_52 (tgt := 62) (by decide) (fun c => absurd c (by decide +kernel)) (fun c_52 => ?_)
    refine zn_iinc hC dJ6_numberOfTrailingZeros_0f7a4_55 rfl (by decide) (v := nI 29) (by decide +kernel) ?_
    refine zr_iload_n hC dJ6_numberOfTrailingZeros_0f7a4_58 rfl ?_
    refine zk_iconst hC dJ6_numberOfTrailingZeros_0f7a4_59 (v := nI 4) (by decide +kernel) ?_
    refine zn_iushr hC dJ6_numberOfTrailingZeros_0f7a4_60 (v := nI 1) (by decide +kernel) ?_
    refine zr_istore_n hC dJ6_numberOfTrailingZeros_0f7a4_61 (by decide) ?_
    refine zr_iload_n hC dJ6_numberOfTrailingZeros_0f7a4_62 rfl ?_
    refine zk_iconst hC dJ6_numberOfTrailingZeros_0f7a4_63 (v := nI 4) (by decide +kernel) ?_
    refine zr_icmp_le hC dJ6_numberOfTrailingZeros_0f7a4_64 (tgt := 74) (by decide) (fun c_64 => ?_) (fun c => absurd c (by decide +kernel))
    refine zr_iload_n hC dJ6_numberOfTrailingZeros_0f7a4_74 rfl ?_
    refine zr_iload_n hC dJ6_numberOfTrailingZeros_0f7a4_75 rfl ?_
    refine zk_iconst hC dJ6_numberOfTrailingZeros_0f7a4_76 (v := nI 1) (by decide +kernel) ?_
    refine zn_iushr hC dJ6_numberOfTrailingZeros_0f7a4_77 (v := nI 0) (by decide +kernel) ?_
    refine zn_iadd hC dJ6_numberOfTrailingZeros_0f7a4_78 (v := nI 29) (by decide +kernel) ?_
    exact zr_ireturn hC hE dJ6_numberOfTrailingZeros_0f7a4_79 (hr _ _ (hQ))
  · refine zr_istore_n hC dJ6_numberOfTrailingZeros_0f7a4_7 (by decide) ?_
    refine zr_iload_n hC dJ6_numberOfTrailingZeros_0f7a4_8 rfl ?_
    refine zr_if_gt hC dJ6_numberOfTrailingZeros_0f7a4_9 (tgt := 17) (by decide) (fun c_9 => ?_) (fun c => absurd c (by decide +kernel))
    refine zk_iconst hC dJ6_numberOfTrailingZeros_0f7a4_17 (v := nI 1) (by decide +kernel) ?_
    refine zr_istore_n hC dJ6_numberOfTrailingZeros_0f7a4_18 (by decide) ?_
    refine zr_iload_n hC dJ6_numberOfTrailingZeros_0f7a4_19 rfl ?_
    refine zr_ldcw hC dJ6_numberOfTrailingZeros_0f7a4_20 kc_J6_264 ?_
    refine zr_icmp_le hC dJ6_numberOfTrailingZeros_0f7a4_23 (tgt := 34) (by decide) (fun c => absurd c (by decide +kernel)) (fun c_23 => ?_)
    refine zn_iinc hC dJ6_numberOfTrailingZeros_0f7a4_26 rfl (by decide) (v := nI 17) (by decide +kernel) ?_
    refine zr_iload_n hC dJ6_numberOfTrailingZeros_0f7a4_29 rfl ?_
    refine zk_bipush hC dJ6_numberOfTrailingZeros_0f7a4_30 (v := nI 16) (by decide +kernel) ?_
    refine zn_iushr hC dJ6_numberOfTrailingZeros_0f7a4_32 (v := nI 16383) (by decide +kernel) ?_
    refine zr_istore_n hC dJ6_numberOfTrailingZeros_0f7a4_33 (by decide) ?_
    refine zr_iload_n hC dJ6_numberOfTrailingZeros_0f7a4_34 rfl ?_
    refine zk_sipush hC dJ6_numberOfTrailingZeros_0f7a4_35 (v := nI 256) (by decide +kernel) ?_
    refine zr_icmp_le hC dJ6_numberOfTrailingZeros_0f7a4_38 (tgt := 49) (by decide) (fun c => absurd c (by decide +kernel)) (fun c_38 => ?_)
    refine zn_iinc hC dJ6_numberOfTrailingZeros_0f7a4_41 rfl (by decide) (v := nI 25) (by decide +kernel) ?_
    refine zr_iload_n hC dJ6_numberOfTrailingZeros_0f7a4_44 rfl ?_
    refine zk_bipush hC dJ6_numberOfTrailingZeros_0f7a4_45 (v := nI 8) (by decide +kernel) ?_
    refine zn_iushr hC dJ6_numberOfTrailingZeros_0f7a4_47 (v := nI 63) (by decide +kernel) ?_
    refine zr_istore_n hC dJ6_numberOfTrailingZeros_0f7a4_48 (by decide) ?_
    refine zr_iload_n hC dJ6_numberOfTrailingZeros_0f7a4_49 rfl ?_
    refine zk_bipush hC dJ6_numberOfTrailingZeros_0f7a4_50 (v := nI 16) (by decide +kernel) ?_
    refine zr_icmp_le hC dJ6_numberOfTrailingZeros_0f7a4_52 (tgt := 62) (by decide) (fun c => absurd c (by decide +kernel)) (fun c_52 => ?_)
    refine zn_iinc hC dJ6_numberOfTrailingZeros_0f7a4_55 rfl (by decide) (v := nI 29) (by decide +kernel) ?_
    refine zr_iload_n hC dJ6_numberOfTrailingZeros_0f7a4_58 rfl ?_
    refine zk_iconst hC dJ6_numberOfTrailingZeros_0f7a4_59 (v := nI 4) (by decide +kernel) ?_
    refine zn_iushr hC dJ6_numberOfTrailingZeros_0f7a4_60 (v := nI 3) (by decide +kernel) ?_
    refine zr_istore_n hC dJ6_numberOfTrailingZeros_0f7a4_61 (by decide) ?_
    refine zr_iload_n hC dJ6_numberOfTrailingZeros_0f7a4_62 rfl ?_
    refine zk_iconst hC dJ6_numberOfTrailingZeros_0f7a4_63 (v := nI 4) (by decide +kernel) ?_
    refine zr_icmp_le hC dJ6_numberOfTrailingZeros_0f7a4_64 (tgt := 74) (by decide) (fun c_64 => ?_) (fun c => absurd c (by decide +kernel))
    refine zr_iload_n hC dJ6_numberOfTrailingZeros_0f7a4_74 rfl ?_
    refine zr_iload_n hC dJ6_numberOfTrailingZeros_0f7a4_75 rfl ?_
    refine zk_iconst hC dJ6_numberOfTrailingZeros_0f7a4_76 (v := nI 1) (by decide +kernel) ?_
    refine zn_iushr hC dJ6_numberOfTrailingZeros_0f7a4_77 (v := nI 1) (by decide +kernel) ?_
    refine zn_iadd hC dJ6_numberOfTrailingZeros_0f7a4_78 (v := nI 30) (by decide +kernel) ?_
    exact zr_ireturn hC hE dJ6_numberOfTrailingZeros_0f7a4_79 (hr _ _ (hQ))
  · refine zr_istore_n hC dJ6_numberOfTrailingZeros_0f7a4_7 (by decide) ?_
    refine zr_iload_n hC dJ6_numberOfTrailingZeros_0f7a4_8 rfl ?_
    refine zr_if_gt hC dJ6_numberOfTrailingZeros_0f7a4_9 (tgt := 17) (by decide) (fun c_9 => ?_) (fun c => absurd c (by decide +kernel))
    refine zk_iconst hC dJ6_numberOfTrailingZeros_0f7a4_17 (v := nI 1) (by decide +kernel) ?_
    refine zr_istore_n hC dJ6_numberOfTrailingZeros_0f7a4_18 (by decide) ?_
    refine zr_iload_n hC dJ6_numberOfTrailingZeros_0f7a4_19 rfl ?_
    refine zr_ldcw hC dJ6_numberOfTrailingZeros_0f7a4_20 kc_J6_264 ?_
    refine zr_icmp_le hC dJ6_numberOfTrailingZeros_0f7a4_23 (tgt := 34) (by decide) (fun c => absurd c (by decide +kernel)) (fun c_23 => ?_)
    refine zn_iinc hC dJ6_numberOfTrailingZeros_0f7a4_26 rfl (by decide) (v := nI 17) (by decide +kernel) ?_
    refine zr_iload_n hC dJ6_numberOfTrailingZeros_0f7a4_29 rfl ?_
    refine zk_bipush hC dJ6_numberOfTrailingZeros_0f7a4_30 (v := nI 16) (by decide +kernel) ?_
    refine zn_iushr hC dJ6_numberOfTrailingZeros_0f7a4_32 (v := nI 32767) (by decide +kernel) ?_
    refine zr_istore_n hC dJ6_numberOfTrailingZeros_0f7a4_33 (by decide) ?_
    refine zr_iload_n hC dJ6_numberOfTrailingZeros_0f7a4_34 rfl ?_
    refine zk_sipush hC dJ6_numberOfTrailingZeros_0f7a4_35 (v := nI 256) (by decide +kernel) ?_
    refine zr_icmp_le hC dJ6_numberOfTrailingZeros_0f7a4_38 (tgt := 49) (by decide) (fun c => absurd c (by decide +kernel)) (fun c_38 => ?_)
    refine zn_iinc hC dJ6_numberOfTrailingZeros_0f7a4_41 rfl (by decide) (v := nI 25) (by decide +kernel) ?_
    refine zr_iload_n hC dJ6_numberOfTrailingZeros_0f7a4_44 rfl ?_
    refine zk_bipush hC dJ6_numberOfTrailingZeros_0f7a4_45 (v := nI 8) (by decide +kernel) ?_
    refine zn_iushr hC dJ6_numberOfTrailingZeros_0f7a4_47 (v := nI 127) (by decide +kernel) ?_
    refine zr_istore_n hC dJ6_numberOfTrailingZeros_0f7a4_48 (by decide) ?_
    refine zr_iload_n hC dJ6_numberOfTrailingZeros_0f7a4_49 rfl ?_
    refine zk_bipush hC dJ6_numberOfTrailingZeros_0f7a4_50 (v := nI 16) (by decide +kernel) ?_
    refine zr_icmp_le hC dJ6_numberOfTrailingZeros_0f7a4_52 (tgt := 62) (by decide) (fun c => absurd c (by decide +kernel)) (fun c_52 => ?_)
    refine zn_iinc hC dJ6_numberOfTrailingZeros_0f7a4_55 rfl (by decide) (v := nI 29) (by decide +kernel) ?_
    refine zr_iload_n hC dJ6_numberOfTrailingZeros_0f7a4_58 rfl ?_
    refine zk_iconst hC dJ6_numberOfTrailingZeros_0f7a4_59 (v := nI 4) (by decide +kernel) ?_
    refine zn_iushr hC dJ6_numberOfTrailingZeros_0f7a4_60 (v := nI 7) (by decide +kernel) ?_
    refine zr_istore_n hC dJ6_numberOfTrailingZeros_0f7a4_61 (by decide) ?_
    refine zr_iload_n hC dJ6_numberOfTrailingZeros_0f7a4_62 rfl ?_
    refine zk_iconst hC dJ6_numberOfTrailingZeros_0f7a4_63 (v := nI 4) (by decide +kernel) ?_
    refine zr_icmp_le hC dJ6_numberOfTrailingZeros_0f7a4_64 (tgt := 74) (by decide) (fun c => absurd c (by decide +kernel)) (fun c_64 => ?_)
    refine zn_iinc hC dJ6_numberOfTrailingZeros_0f7a4_67 rfl (by decide) (v := nI 31) (by decide +kernel) ?_
    refine zr_iload_n hC dJ6_numberOfTrailingZeros_0f7a4_70 rfl ?_
    refine zk_iconst hC dJ6_numberOfTrailingZeros_0f7a4_71 (v := nI 2) (by decide +kernel) ?_
    refine zn_iushr hC dJ6_numberOfTrailingZeros_0f7a4_72 (v := nI 1) (by decide +kernel) ?_
    refine zr_istore_n hC dJ6_numberOfTrailingZeros_0f7a4_73 (by decide) ?_
    refine zr_iload_n hC dJ6_numberOfTrailingZeros_0f7a4_74 rfl ?_
    refine zr_iload_n hC dJ6_numberOfTrailingZeros_0f7a4_75 rfl ?_
    refine zk_iconst hC dJ6_numberOfTrailingZeros_0f7a4_76 (v := nI 1) (by decide +kernel) ?_
    refine zn_iushr hC dJ6_numberOfTrailingZeros_0f7a4_77 (v := nI 0) (by decide +kernel) ?_
    refine zn_iadd hC dJ6_numberOfTrailingZeros_0f7a4_78 (v := nI 31) (by decide +kernel) ?_
    exact zr_ireturn hC hE dJ6_numberOfTrailingZeros_0f7a4_79 (hr _ _ (hQ))
theorem zr_min {C : zCx} {τ : Nat → ClassId} {ι : Nat → Nat} {own : String} {cc : ByteArray} {nL kc ks pc d mc ms : Nat} {lv : List (Nat × Value)} {st : List Value} {w : List va_E} (hC : zOK C τ (zrm d mc ms) own cc nL) (hd : 1 ≤ d) {index : Nat} {x y v : Int32} (hdg : decode cc pc = .ok (.invokestatic index, 3)) (hlink : Cond.methodLink own index yJ9_min_7cf53 ∈ zT) (hkc : kc ≤ mc) (hks : ks ≤ ms) (hst : (st.map fun v => v.category).sum ≤ 8) (hv : (if y < x then y else x) = v) (kk : zR C τ ι nL kc ks (pc + 3) lv (.int v :: st) w) : zR C τ ι nL kc ks pc lv (.int y :: .int x :: st) w := by
  obtain ⟨p, l, e, R', s, m, args, below, meth, c, D, A, H0, Q⟩ := C
  obtain ⟨hx, hb, hml, hown, hts, hK, hN, hR, hlk, hA⟩ := hC
  intro H locs ls hP hD hS hl
  subst hR hv
  obtain ⟨h1, h2, h3, -⟩ := mtJ9_min_7cf53
  have hcode : (Cond.code Lib.Math.min.name Lib.Math.min.code 2 (some .int)).before args s = true := by
    have := hts _ h1
    rwa [show cJ9_min_7cf53 = Lib.Math.min.code by decide +kernel] at this
  exact va_mmin (rest := st.map (zcv ι)) hx hb (hml.trans hl.1.symm) hown (hts _ hlink) (hts _ h3) (hts _ h2) hcode (by show 1 ≤ d; exact hd) (by rw [zcats]; show _ + 13 ≤ 37 * d; omega) hkc hks hdg (kk H locs ls hP hD hS hl)
set_option maxHeartbeats 4000000 in
theorem lJ7_fill_53178 {C : zCx} {τ : Nat → ClassId} {ι : Nat → Nat} (hC : zOK C τ (zrm 0 0 0) yJ7_fill_53178.cls cJ7_fill_53178 4) {a n : Nat} {x : Int32} (S : zS) (hz : zar a = some (0, n)) (hn : n ≤ 5000) (ha : a < 245) (k : ∀ lv, zR C τ ι 4 0 0 20 lv [] (zcells (zfill S a n x))) : ∀ d i, i + d = n → zR C τ ι 4 0 0 5 [(0, .ref a), (1, .int x), (2, .int (nI i)), (3, .int (nI n))] [] (zcells (zfill S a i x)) := by
  intro d
  induction d with
  | zero =>
    intro i hi
    have hi : i = n := by omega
    subst hi
    refine zr_iload_n hC dJ7_fill_53178_5 rfl ?_
    refine zr_iload_n hC dJ7_fill_53178_6 rfl ?_
    refine zr_icmp_ge hC dJ7_fill_53178_7 (tgt := 20) (by decide) (fun c_7 => ?_) (fun c => absurd c (by intro h; exact h (nI_le (Nat.le_refl _) (by omega))))
    exact k _
  | succ d ih =>
    intro i hi
    refine zr_iload_n hC dJ7_fill_53178_5 rfl ?_
    refine zr_iload_n hC dJ7_fill_53178_6 rfl ?_
    refine zr_icmp_ge hC dJ7_fill_53178_7 (tgt := 20) (by decide) (fun c => absurd c (nI_ge (by omega) (by omega))) (fun c_7 => ?_)
    refine zr_aload_n hC dJ7_fill_53178_10 rfl ?_
    refine zr_iload_n hC dJ7_fill_53178_11 rfl ?_
    refine zr_iload_n hC dJ7_fill_53178_12 rfl ?_
    refine zs_iast hC dJ7_fill_53178_13 hz hn ha (j := i) rfl (by omega) ?_
    rw [zfill_s]
    refine zn_iinc hC dJ7_fill_53178_14 rfl (by decide) (zk_inc _ 1) ?_
    refine zr_goto hC dJ7_fill_53178_17 (tgt := 5) (by decide) ?_
    exact zR_sub [(0, .ref a), (1, .int x), (2, .int (nI (i + 1))), (3, .int (nI n))] ⟨rfl, rfl, rfl, rfl, trivial⟩ (ih (i + 1) (by omega))
def spJ7_fill_53178 : zSp := fun av S Q => ∃ (a n : Nat) (x : Int32), av = [.ref a, .int x] ∧ zar a = some (0, n) ∧ n ≤ 5000 ∧ a < 245 ∧ Q none (zfill S a n x)
set_option maxHeartbeats 4000000 in
set_option maxRecDepth 100000 in
theorem tJ7_fill_53178 : zM yJ7_fill_53178 cJ7_fill_53178 4 none 0 spJ7_fill_53178 := by
  refine zM.of (by decide) (by decide) (fun av S Q h => by obtain ⟨a, n, x, rfl, hz, hn, ha, hQ⟩ := h; exact Nat.le_of_ble_eq_true rfl) (fun C τ ι av S Q Qr h hr hC hE => ?_)
  obtain ⟨a, n, x, rfl, hz, hn, ha, hQ⟩ := h
  show zR C τ ι _ 0 0 0 [(0, .ref a), (1, .int x)] [] _
  refine zk_iconst hC dJ7_fill_53178_0 (v := nI 0) (by decide +kernel) ?_
  refine zr_istore_n hC dJ7_fill_53178_1 (by decide) ?_
  refine zr_aload_n hC dJ7_fill_53178_2 rfl ?_
  refine zs_alen hC dJ7_fill_53178_3 hz (by decide) ha ?_
  refine zr_istore_n hC dJ7_fill_53178_4 (by decide) ?_
  refine zR_sub [(0, .ref a), (1, .int x), (2, .int (nI 0)), (3, .int (nI n))] ⟨rfl, rfl, rfl, rfl, trivial⟩ ?_
  have h0 := lJ7_fill_53178 hC (ι := ι) (x := x) S hz hn ha (fun lv => zr_vreturn hC hE dJ7_fill_53178_20 (hr _ _ hQ)) n 0 (by omega)
  rwa [zfill_0] at h0
set_option maxHeartbeats 4000000 in
theorem lJ7_fill_d0a16 {C : zCx} {τ : Nat → ClassId} {ι : Nat → Nat} (hC : zOK C τ (zrm 0 0 0) yJ7_fill_d0a16.cls cJ7_fill_d0a16 5) {a n : Nat} {x : Int64} (S : zS) (hz : zar a = some (1, n)) (hn : n ≤ 5000) (ha : a < 245) (k : ∀ lv, zR C τ ι 5 0 0 22 lv [] (zcells (zfillL S a n x))) : ∀ d i, i + d = n → zR C τ ι 5 0 0 6 [(0, .ref a), (1, .long x), (3, .int (nI i)), (4, .int (nI n))] [] (zcells (zfillL S a i x)) := by
  intro d
  induction d with
  | zero =>
    intro i hi
    have hi : i = n := by omega
    subst hi
    refine zr_iload_n hC dJ7_fill_d0a16_6 rfl ?_
    refine zr_iload hC dJ7_fill_d0a16_7 rfl ?_
    refine zr_icmp_ge hC dJ7_fill_d0a16_9 (tgt := 22) (by decide) (fun c_9 => ?_) (fun c => absurd c (by intro h; exact h (nI_le (Nat.le_refl _) (by omega))))
    exact k _
  | succ d ih =>
    intro i hi
    refine zr_iload_n hC dJ7_fill_d0a16_6 rfl ?_
    refine zr_iload hC dJ7_fill_d0a16_7 rfl ?_
    refine zr_icmp_ge hC dJ7_fill_d0a16_9 (tgt := 22) (by decide) (fun c => absurd c (nI_ge (by omega) (by omega))) (fun c_9 => ?_)
    refine zr_aload_n hC dJ7_fill_d0a16_12 rfl ?_
    refine zr_iload_n hC dJ7_fill_d0a16_13 rfl ?_
    refine zr_lload_n hC dJ7_fill_d0a16_14 rfl ?_
    refine zs_last hC dJ7_fill_d0a16_15 hz hn ha (j := i) rfl (by omega) ?_
    rw [zfillL_s]
    refine zn_iinc hC dJ7_fill_d0a16_16 rfl (by decide) (zk_inc _ 1) ?_
    refine zr_goto hC dJ7_fill_d0a16_19 (tgt := 6) (by decide) ?_
    exact zR_sub [(0, .ref a), (1, .long x), (3, .int (nI (i + 1))), (4, .int (nI n))] ⟨rfl, rfl, rfl, rfl, trivial⟩ (ih (i + 1) (by omega))
def spJ7_fill_d0a16 : zSp := fun av S Q => ∃ (a n : Nat) (x : Int64), av = [.ref a, .long x] ∧ zar a = some (1, n) ∧ n ≤ 5000 ∧ a < 245 ∧ Q none (zfillL S a n x)
set_option maxHeartbeats 4000000 in
set_option maxRecDepth 100000 in
theorem tJ7_fill_d0a16 : zM yJ7_fill_d0a16 cJ7_fill_d0a16 5 none 0 spJ7_fill_d0a16 := by
  refine zM.of (by decide) (by decide) (fun av S Q h => by obtain ⟨a, n, x, rfl, hz, hn, ha, hQ⟩ := h; exact Nat.le_of_ble_eq_true rfl) (fun C τ ι av S Q Qr h hr hC hE => ?_)
  obtain ⟨a, n, x, rfl, hz, hn, ha, hQ⟩ := h
  show zR C τ ι _ 0 0 0 [(0, .ref a), (1, .long x)] [] _
  refine zk_iconst hC dJ7_fill_d0a16_0 (v := nI 0) (by decide +kernel) ?_
  refine zr_istore_n hC dJ7_fill_d0a16_1 (by decide) ?_
  refine zr_aload_n hC dJ7_fill_d0a16_2 rfl ?_
  refine zs_alen hC dJ7_fill_d0a16_3 hz (by decide) ha ?_
  refine zr_istore hC dJ7_fill_d0a16_4 (by decide) ?_
  refine zR_sub [(0, .ref a), (1, .long x), (3, .int (nI 0)), (4, .int (nI n))] ⟨rfl, rfl, rfl, rfl, trivial⟩ ?_
  have h0 := lJ7_fill_d0a16 hC (ι := ι) (x := x) S hz hn ha (fun lv => zr_vreturn hC hE dJ7_fill_d0a16_22 (hr _ _ hQ)) n 0 (by omega)
  rwa [zfillL_0] at h0
