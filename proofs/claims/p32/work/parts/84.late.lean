/-! THE LAW'S late -/
theorem mnd_63 (m : Nat) (M : zD) : mnd m M 6 3 = M 6 3 := by
  show rda (mnl m 4 (M 0 m / 2) M) 16 6 3 = _
  rw [rda_f (by decide) (by decide) 16]
  exact (mnl_Q 4 _ M ltE.rf).1.2.1 3 (by decide)
theorem rdm_nil {T : zD} {m : Nat} (h : T 3 m = T 6 1) : (rds m (T 3 m) T (T 6 1 - T 3 m)).2 = 0 ∧ (∀ f, f ≠ 3 → rdm m T f = T f) ∧ ∀ j, rdm m T 3 j = T 3 j := by
  have e : T 6 1 - T 3 m = 0 := by omega
  unfold rdm
  rw [e]
  refine ⟨rfl, fun f hf => ?_, fun j => ?_⟩
  · rw [dset_ff _ _ _ hf]; rfl
  · by_cases q : j = m
    · subst q; rw [dset_at]; exact h.symm
    · rw [dset_k _ _ _ q]; rfl
theorem mrf_late {D : zD} {m : Nat} (h : D 2 m = 1) : mrf D m = -2 := if_pos (Or.inr (Or.inl h))
theorem some_free {D : zD} (hI : INV D) (h : pcn 16 (sm (D 0) 1) ≤ 12) : ∃ j, j < 16 ∧ D 0 j = 0 := by
  by_cases q : ∃ j, j < 16 ∧ D 0 j = 0
  · exact q
  · exfalso
    have e : pcn 16 (sm (D 0) 1) = pcn 16 65535 := pcn_cong 16 (fun i hi => by
      rw [sm_bit hi, b65535 i hi]
      exact bn_root _ (hI.ok.lt hi) (fun z => q ⟨i, hi, z⟩))
    rw [e, show pcn 16 65535 = 16 from by decide] at h
    omega
set_option maxHeartbeats 1000000 in
set_option maxRecDepth 100000 in
theorem lL_la1 {C : zCx} {τ : Nat → ClassId} {ι : Nat → Nat} (hC : zOK C τ (zrm 7 0 0) yL_late.cls cL_late 9) {G : zG} {x : Nat} (hg : GI G) (hs : sm (G.1 0) 1 ≠ 0) (k : ∀ S m, CG S G → m < 16 → G.1 0 m ≠ 0 → zR C τ ι 9 0 0 64 [(0, .ref 0), (1, .int (nI x)), (2, .int (nI m))] [] (zcells S)) : ∀ (n i : Nat) (S : zS), i + n = 16 → (∀ j, j < i → G.1 0 j = 0) → CG S G → zR C τ ι 9 0 0 46 [(0, .ref 0), (1, .int (nI x)), (2, .int (nI i))] [] (zcells S) := by
  intro n
  induction n with
  | zero =>
    intro i S hi hf hc
    exact absurd hs (fun z => z (sm_0 (fun j hj => hf j (by omega)) 1))
  | succ n ih =>
    intro i S hi hf hc
    have hm : i < 16 := by omega
    by_cases h0 : G.1 0 i = 0
    · refine zr_aload_n hC dL_late_46 rfl ?_
      refine zk_iconst hC dL_late_47 (v := nI 0) (by decide +kernel) ?_
      refine zs_callV hC (b := 0) [_] [] dL_late_48 ml_L_37 mtX8_count tX8_count (by decide) (by decide) (by decide) rfl rfl (by decide) (by decide +kernel) (Nat.le_of_ble_eq_true rfl) rfl ?_
      refine ⟨G, _, rfl, hc, hg, fun S hc _ => ?_⟩
      rw [fc_0]
      dsimp only [Option.toList, List.cons_append, List.nil_append]
      refine zr_iload_n hC dL_late_51 rfl ?_
      refine zs_callS hC [_, _] [] dL_late_52 ml_L_84 mtL_has tL_has (by decide) (by decide) (by decide) rfl (Nat.le_of_ble_eq_true rfl) rfl ?_
      refine ⟨_, i, rfl, sm_lt _ _, hm, ?_⟩
      rw [gs0 hm h0]
      dsimp only [Option.toList, List.cons_append, List.nil_append]
      refine zr_if_ne hC dL_late_55 (tgt := 64) (by decide) (fun c => absurd c (by decide +kernel)) (fun c_55 => ?_)
      refine zn_iinc hC dL_late_58 rfl (by decide) (zk_inc _ 1) ?_
      refine zr_goto hC dL_late_61 (tgt := 46) (by decide) ?_
      exact zR_sub [(0, .ref 0), (1, .int (nI x)), (2, .int (nI (i + 1)))] ⟨rfl, rfl, rfl, trivial⟩ (ih (i + 1) S (by omega) (fun j hj => by rcases (by omega : j < i ∨ j = i) with z | z; exact hf j z; rw [z]; exact h0) hc)
    · refine zr_aload_n hC dL_late_46 rfl ?_
      refine zk_iconst hC dL_late_47 (v := nI 0) (by decide +kernel) ?_
      refine zs_callV hC (b := 0) [_] [] dL_late_48 ml_L_37 mtX8_count tX8_count (by decide) (by decide) (by decide) rfl rfl (by decide) (by decide +kernel) (Nat.le_of_ble_eq_true rfl) rfl ?_
      refine ⟨G, _, rfl, hc, hg, fun S hc _ => ?_⟩
      rw [fc_0]
      dsimp only [Option.toList, List.cons_append, List.nil_append]
      refine zr_iload_n hC dL_late_51 rfl ?_
      refine zs_callS hC [_, _] [] dL_late_52 ml_L_84 mtL_has tL_has (by decide) (by decide) (by decide) rfl (Nat.le_of_ble_eq_true rfl) rfl ?_
      refine ⟨_, i, rfl, sm_lt _ _, hm, ?_⟩
      rw [gs1 hg.1 hm h0]
      dsimp only [Option.toList, List.cons_append, List.nil_append]
      refine zr_if_ne hC dL_late_55 (tgt := 64) (by decide) (fun c_55 => ?_) (fun c => absurd c (by decide +kernel))
      exact k S i hc hm h0
set_option maxHeartbeats 1000000 in
set_option maxRecDepth 100000 in
theorem lL_la2 {C : zCx} {τ : Nat → ClassId} {ι : Nat → Nat} (hC : zOK C τ (zrm 7 0 0) yL_late.cls cL_late 9) {G : zG} {x m a : Nat} (hg : GI G) (hfr : ∃ j, j < 16 ∧ G.1 0 j = 0) (k : ∀ S o, CG S G → o < 16 → G.1 0 o = 0 → zR C τ ι 9 0 0 91 [(0, .ref 0), (1, .int (nI x)), (2, .int (nI m)), (3, .int (nI o))] [] (zcells S)) : ∀ (n t : Nat) (S : zS), t + n = 16 → (∀ j, j < t → G.1 0 ((a + j) % 16) ≠ 0) → CG S G → zR C τ ι 9 0 0 69 [(0, .ref 0), (1, .int (nI x)), (2, .int (nI m)), (3, .int (nI ((a + t) % 16)))] [] (zcells S) := by
  intro n
  induction n with
  | zero =>
    intro t S ht hf hc
    obtain ⟨j, hj, hj0⟩ := hfr
    exact absurd hj0 (by have h1 := hf ((j + 16 - a % 16) % 16) (by omega); rwa [show (a + (j + 16 - a % 16) % 16) % 16 = j by omega] at h1)
  | succ n ih =>
    intro t S ht hf hc
    have hm : (a + t) % 16 < 16 := by omega
    by_cases h0 : G.1 0 ((a + t) % 16) = 0
    · refine zr_aload_n hC dL_late_69 rfl ?_
      refine zk_iconst hC dL_late_70 (v := nI 0) (by decide +kernel) ?_
      refine zs_callV hC (b := 0) [_] [] dL_late_71 ml_L_37 mtX8_count tX8_count (by decide) (by decide) (by decide) rfl rfl (by decide) (by decide +kernel) (Nat.le_of_ble_eq_true rfl) rfl ?_
      refine ⟨G, _, rfl, hc, hg, fun S hc _ => ?_⟩
      rw [fc_0]
      dsimp only [Option.toList, List.cons_append, List.nil_append]
      refine zr_iload_n hC dL_late_74 rfl ?_
      refine zs_callS hC [_, _] [] dL_late_75 ml_L_84 mtL_has tL_has (by decide) (by decide) (by decide) rfl (Nat.le_of_ble_eq_true rfl) rfl ?_
      refine ⟨_, (a + t) % 16, rfl, sm_lt _ _, hm, ?_⟩
      rw [gs0 hm h0]
      dsimp only [Option.toList, List.cons_append, List.nil_append]
      refine zr_if_eq hC dL_late_78 (tgt := 91) (by decide) (fun c_78 => ?_) (fun c => absurd c (by decide +kernel))
      exact k S _ hc hm h0
    · refine zr_aload_n hC dL_late_69 rfl ?_
      refine zk_iconst hC dL_late_70 (v := nI 0) (by decide +kernel) ?_
      refine zs_callV hC (b := 0) [_] [] dL_late_71 ml_L_37 mtX8_count tX8_count (by decide) (by decide) (by decide) rfl rfl (by decide) (by decide +kernel) (Nat.le_of_ble_eq_true rfl) rfl ?_
      refine ⟨G, _, rfl, hc, hg, fun S hc _ => ?_⟩
      rw [fc_0]
      dsimp only [Option.toList, List.cons_append, List.nil_append]
      refine zr_iload_n hC dL_late_74 rfl ?_
      refine zs_callS hC [_, _] [] dL_late_75 ml_L_84 mtL_has tL_has (by decide) (by decide) (by decide) rfl (Nat.le_of_ble_eq_true rfl) rfl ?_
      refine ⟨_, (a + t) % 16, rfl, sm_lt _ _, hm, ?_⟩
      rw [gs1 hg.1 hm h0]
      dsimp only [Option.toList, List.cons_append, List.nil_append]
      refine zr_if_eq hC dL_late_78 (tgt := 91) (by decide) (fun c => absurd c (by decide +kernel)) (fun c_78 => ?_)
      refine zr_iload_n hC dL_late_81 rfl ?_
      refine zk_iconst hC dL_late_82 (v := nI 1) (by decide +kernel) ?_
      refine zn_iadd hC dL_late_83 (nI_add _ _) ?_
      refine zk_bipush hC dL_late_84 (v := nI 15) (by decide +kernel) ?_
      refine zn_iand hC dL_late_86 (z_15m (m := (a + (t + 1)) % 16) (by omega)) ?_
      refine zr_istore_n hC dL_late_87 (by decide) ?_
      refine zr_goto hC dL_late_88 (tgt := 69) (by decide) ?_
      exact zR_sub [(0, .ref 0), (1, .int (nI x)), (2, .int (nI m)), (3, .int (nI ((a + (t + 1)) % 16)))] ⟨rfl, rfl, rfl, rfl, trivial⟩ (ih (t + 1) S (by omega) (fun j hj => by rcases (by omega : j < t ∨ j = t) with z | z; exact hf j z; rw [z]; exact h0) hc)
def spL_late : zSp := fun av S Q => ∃ (G : zG) (x : Nat), av = [.ref 0, .int (nI x)] ∧ x < 2147483648 ∧ CG S G ∧ GI G ∧ WS G.1 ∧ ∀ S' G', CG S' G' → GI G' → WS G'.1 → G'.1 6 3 = G.1 6 3 → Q (some (.int (nI 1))) S'
set_option maxHeartbeats 1000000 in
set_option maxRecDepth 100000 in
theorem tL_late : zM yL_late cL_late 9 (some .boolean) 7 spL_late := by
  refine zM.of (by decide) (by decide) (fun av S Q h => by obtain ⟨G, x, rfl, hx, hc, hg, hw, hQ⟩ := h; exact Nat.le_of_ble_eq_true rfl) (fun C τ ι av S Q Qr h hr hC hE => ?_)
  obtain ⟨G, x, rfl, hx, hc, hg, hw, hQ⟩ := h
  have hb1 := hg.1.made
  have hb2 := hg.1.written
  have hb3 := hg.1.batches
  have hb4 := pcn_le (sm (G.1 0) 1) 16
  show zR C τ ι _ 0 0 0 [(0, .ref 0), (1, .int (nI x))] [] _
  refine zr_aload_n hC dL_late_0 rfl ?_
  refine zk_iconst hC dL_late_1 (v := nI 4) (by decide +kernel) ?_
  refine zs_callV hC (b := 0) [_] [] dL_late_2 ml_L_37 mtX8_count tX8_count (by decide) (by decide) (by decide) rfl rfl (by decide) (by decide +kernel) (Nat.le_of_ble_eq_true rfl) rfl ?_
  refine ⟨G, _, rfl, hc, hg, fun S hc _ => ?_⟩
  rw [fc_4]
  dsimp only [Option.toList, List.cons_append, List.nil_append]
  refine zk_sipush hC dL_late_5 (v := nI 150) (by decide +kernel) ?_
  refine zr_icmp_gt hC dL_late_8 (tgt := 42) (by decide) (fun c_8 => ?_) (fun c_8 => ?_)
  · refine zk_iconst hC dL_late_42 (v := nI 1) (by decide +kernel) ?_
    exact zr_zreturn hC hE dL_late_43 (by first | exact Or.inl rfl | exact Or.inr rfl) (hr _ _ (hQ _ _ hc hg hw rfl))
  · rw [nI_ltI (by decide) (by omega)] at c_8
    refine zr_aload_n hC dL_late_11 rfl ?_
    refine zk_iconst hC dL_late_12 (v := nI 5) (by decide +kernel) ?_
    refine zs_callV hC (b := 0) [_] [] dL_late_13 ml_L_37 mtX8_count tX8_count (by decide) (by decide) (by decide) rfl rfl (by decide) (by decide +kernel) (Nat.le_of_ble_eq_true rfl) rfl ?_
    refine ⟨G, _, rfl, hc, hg, fun S hc _ => ?_⟩
    rw [fc_5]
    dsimp only [Option.toList, List.cons_append, List.nil_append]
    refine zk_bipush hC dL_late_16 (v := nI 100) (by decide +kernel) ?_
    refine zr_icmp_gt hC dL_late_18 (tgt := 42) (by decide) (fun c_18 => ?_) (fun c_18 => ?_)
    · refine zk_iconst hC dL_late_42 (v := nI 1) (by decide +kernel) ?_
      exact zr_zreturn hC hE dL_late_43 (by first | exact Or.inl rfl | exact Or.inr rfl) (hr _ _ (hQ _ _ hc hg hw rfl))
    · rw [nI_ltI (by decide) (by omega)] at c_18
      refine zr_aload_n hC dL_late_21 rfl ?_
      refine zk_iconst hC dL_late_22 (v := nI 0) (by decide +kernel) ?_
      refine zs_callV hC (b := 0) [_] [] dL_late_23 ml_L_37 mtX8_count tX8_count (by decide) (by decide) (by decide) rfl rfl (by decide) (by decide +kernel) (Nat.le_of_ble_eq_true rfl) rfl ?_
      refine ⟨G, _, rfl, hc, hg, fun S hc _ => ?_⟩
      rw [fc_0]
      dsimp only [Option.toList, List.cons_append, List.nil_append]
      refine zs_callS hC [_] [] dL_late_26 ml_L_81 mtL_bits tL_bits (by decide) (by decide) (by decide) rfl (Nat.le_of_ble_eq_true rfl) rfl ?_
      refine ⟨_, rfl, sm_lt _ _, ?_⟩
      dsimp only [Option.toList, List.cons_append, List.nil_append]
      refine zk_bipush hC dL_late_29 (v := nI 12) (by decide +kernel) ?_
      refine zr_icmp_gt hC dL_late_31 (tgt := 42) (by decide) (fun c_31 => ?_) (fun c_31 => ?_)
      · refine zk_iconst hC dL_late_42 (v := nI 1) (by decide +kernel) ?_
        exact zr_zreturn hC hE dL_late_43 (by first | exact Or.inl rfl | exact Or.inr rfl) (hr _ _ (hQ _ _ hc hg hw rfl))
      · rw [nI_ltI (by decide) (by omega)] at c_31
        refine zr_aload_n hC dL_late_34 rfl ?_
        refine zk_iconst hC dL_late_35 (v := nI 0) (by decide +kernel) ?_
        refine zs_callV hC (b := 0) [_] [] dL_late_36 ml_L_37 mtX8_count tX8_count (by decide) (by decide) (by decide) rfl rfl (by decide) (by decide +kernel) (Nat.le_of_ble_eq_true rfl) rfl ?_
        refine ⟨G, _, rfl, hc, hg, fun S hc _ => ?_⟩
        rw [fc_0]
        dsimp only [Option.toList, List.cons_append, List.nil_append]
        refine zr_if_ne hC dL_late_39 (tgt := 44) (by decide) (fun c_39 => ?_) (fun c_39 => ?_)
        · have hs1 : sm (G.1 0) 1 ≠ 0 := fun z => c_39 (by rw [z]; rfl)
          refine zk_iconst hC dL_late_44 (v := nI 0) (by decide +kernel) ?_
          refine zr_istore_n hC dL_late_45 (by decide) ?_
          refine zR_sub [(0, .ref 0), (1, .int (nI x)), (2, .int (nI 0))] ⟨rfl, rfl, rfl, trivial⟩ ?_
          refine lL_la1 hC hg hs1 (fun S m hc hm h0 => ?_) 16 0 S (by omega) (fun j hj => absurd hj (Nat.not_lt_zero _)) hc
          refine zr_iload_n hC dL_late_64 rfl ?_
          refine zk_bipush hC dL_late_65 (v := nI 15) (by decide +kernel) ?_
          obtain ⟨a, ea⟩ : ∃ a, x % 16 = a := ⟨_, rfl⟩
          refine zn_iand hC dL_late_67 (z_15m ea) ?_
          refine zr_istore_n hC dL_late_68 (by decide) ?_
          refine zR_sub [(0, .ref 0), (1, .int (nI x)), (2, .int (nI m)), (3, .int (nI ((a + 0) % 16)))] ⟨rfl, rfl, rfl, by rw [show (a + 0) % 16 = a by omega]; rfl, trivial⟩ ?_
          refine lL_la2 hC hg (some_free hg.1 (by omega)) (fun S o hc ho h0o => ?_) 16 0 S (by omega) (fun j hj => absurd hj (Nat.not_lt_zero _)) hc
          refine zr_aload_n hC dL_late_91 rfl ?_
          refine zr_iload_n hC dL_late_92 rfl ?_
          refine zk_iconst hC dL_late_93 (v := nI 0) (by decide +kernel) ?_
          refine zs_callV hC (b := 0) [_, _] [] dL_late_94 ml_L_105 mtX8_late tX8_late (by decide) (by decide) (by decide) rfl rfl (by decide) (by decide +kernel) (Nat.le_of_ble_eq_true rfl) rfl ?_
          refine ⟨G, _, _, rfl, hc, hg, fun S hc _ => ?_⟩
          rw [fwakN hm (by rw [hw.2.2.2 m hm]; decide)] at hc ⊢
          dsimp only [Option.toList, List.cons_append, List.nil_append]
          refine zk_bipush hC dL_late_97 (v := (-2)) (by decide +kernel) ?_
          refine zr_icmp_ne hC dL_late_99 (tgt := 195) (by decide) (fun c => absurd c (not_not_intro rfl)) (fun c_99 => ?_)
          refine zr_aload_n hC dL_late_102 rfl ?_
          refine zr_iload_n hC dL_late_103 rfl ?_
          refine zk_iconst hC dL_late_104 (v := nI 1) (by decide +kernel) ?_
          refine zs_callV hC (b := 0) [_, _] [] dL_late_105 ml_L_105 mtX8_late tX8_late (by decide) (by decide) (by decide) rfl rfl (by decide) (by decide +kernel) (Nat.le_of_ble_eq_true rfl) rfl ?_
          refine ⟨G, _, _, rfl, hc, hg, fun S hc _ => ?_⟩
          rw [fslp hm ⟨h0, by rw [hw.2.2.2 m hm]; decide⟩] at hc ⊢
          have hg := hg.kp.set (D := dset G.1 2 m 1) (hg.1.sleep h0)
          obtain ⟨A, dfA⟩ : ∃ N, N = gset (gkp G) (dset G.1 2 m 1) := ⟨_, rfl⟩
          rw [← dfA] at hc hg
          have hA1 : A.1 = dset G.1 2 m 1 := by rw [dfA, gset_1]
          have a2 : A.1 2 m = 1 := by rw [hA1]; exact dset_at _ _ _ _
          have a0o : A.1 0 o = 0 := by rw [hA1, dset_ff _ _ _ (by decide)]; exact h0o
          have a1o : A.1 1 o ≠ 1 := by rw [hA1, dset_ff _ _ _ (by decide), hw.2.2.1 o ho]; decide
          have a3 : sls A.1 = 2 ^ m := by
            refine dm_one hm a2 (fun j hj e => ?_)
            rw [hA1, dset_k _ _ _ e, hw.2.2.2 j hj]; decide
          obtain ⟨p1, p2, p3, p4⟩ := la_ok hw hm h0 ho h0o (by omega) (by omega)
          dsimp only [Option.toList, List.cons_append, List.nil_append]
          refine zr_if_ne hC dL_late_108 (tgt := 195) (by decide) (fun c => absurd c (by decide +kernel)) (fun c_108 => ?_)
          refine zr_aload_n hC dL_late_111 rfl ?_
          refine zk_iconst hC dL_late_112 (v := nI 3) (by decide +kernel) ?_
          refine zs_callV hC (b := 0) [_] [] dL_late_113 ml_L_37 mtX8_count tX8_count (by decide) (by decide) (by decide) rfl rfl (by decide) (by decide +kernel) (Nat.le_of_ble_eq_true rfl) rfl ?_
          refine ⟨A, _, rfl, hc, hg, fun S hc _ => ?_⟩
          rw [fc_3, a3]
          dsimp only [Option.toList, List.cons_append, List.nil_append]
          refine zk_iconst hC dL_late_116 (v := nI 1) (by decide +kernel) ?_
          refine zr_iload_n hC dL_late_117 rfl ?_
          refine zn_ishl hC dL_late_118 (z_shl1 m (by omega)) ?_
          refine zr_icmp_ne hC dL_late_119 (tgt := 195) (by decide) (fun c => absurd c (not_not_intro rfl)) (fun c_119 => ?_)
          refine zr_aload_n hC dL_late_122 rfl ?_
          refine zr_iload_n hC dL_late_123 rfl ?_
          refine zs_callV hC (b := 0) [_] [] dL_late_124 ml_L_107 mtX8_mend tX8_mend (by decide) (by decide) (by decide) rfl rfl (by decide) (by decide +kernel) (Nat.le_of_ble_eq_true rfl) rfl ?_
          refine ⟨A, _, rfl, hc, hg, fun S hc _ => ?_⟩
          rw [fmndN hm (mrf_late a2)] at hc ⊢
          dsimp only [Option.toList, List.cons_append, List.nil_append]
          refine zk_bipush hC dL_late_127 (v := (-2)) (by decide +kernel) ?_
          refine zr_icmp_ne hC dL_late_129 (tgt := 195) (by decide) (fun c => absurd c (not_not_intro rfl)) (fun c_129 => ?_)
          refine zr_aload_n hC dL_late_132 rfl ?_
          refine zr_iload_n hC dL_late_133 rfl ?_
          refine zk_iconst hC dL_late_134 (v := nI 1) (by decide +kernel) ?_
          refine zs_callV hC (b := 0) [_, _] [] dL_late_135 ml_L_105 mtX8_late tX8_late (by decide) (by decide) (by decide) rfl rfl (by decide) (by decide +kernel) (Nat.le_of_ble_eq_true rfl) rfl ?_
          refine ⟨A, _, _, rfl, hc, hg, fun S hc _ => ?_⟩
          rw [fslpN hm (fun z => z.2 a2)] at hc ⊢
          dsimp only [Option.toList, List.cons_append, List.nil_append]
          refine zk_bipush hC dL_late_138 (v := (-2)) (by decide +kernel) ?_
          refine zr_icmp_ne hC dL_late_140 (tgt := 195) (by decide) (fun c => absurd c (not_not_intro rfl)) (fun c_140 => ?_)
          refine zr_aload_n hC dL_late_143 rfl ?_
          refine zr_iload_n hC dL_late_144 rfl ?_
          refine zs_callV hC (b := 0) [_] [] dL_late_145 ml_L_70 mtX8_come tX8_come (by decide) (by decide) (by decide) rfl rfl (by decide) (by decide +kernel) (Nat.le_of_ble_eq_true rfl) rfl ?_
          refine ⟨A, _, rfl, hc, hg, fun S hc _ => ?_⟩
          rw [fcom ho ⟨a0o, a1o⟩] at hc ⊢
          have hg := hg.kp.set (D := dset A.1 1 o 1) (hg.1.come a0o)
          obtain ⟨C, dfC⟩ : ∃ N, N = gset (gkp A) (dset A.1 1 o 1) := ⟨_, rfl⟩
          rw [← dfC] at hc hg
          have hC1 : C.1 = dset A.1 1 o 1 := by rw [dfC, gset_1]
          have hC2 : C.1 = laC G.1 m o := by rw [hC1, hA1]
          have hcc : cms (dset A.1 1 o 1) = cms C.1 := by rw [hC1]
          rw [hcc, hC2, one_cms ho p2]
          rw [← hC2] at p1 p2 p3 p4
          dsimp only [Option.toList, List.cons_append, List.nil_append]
          refine zk_iconst hC dL_late_148 (v := nI 1) (by decide +kernel) ?_
          refine zr_icmp_ne hC dL_late_149 (tgt := 195) (by decide) (fun c => absurd c (by decide +kernel)) (fun c_149 => ?_)
          refine zr_aload_n hC dL_late_152 rfl ?_
          refine zs_callV hC (b := 0) [] [] dL_late_153 ml_L_76 mtX8_batch tX8_batch (by decide) (by decide) (by decide) rfl rfl (by decide) (by decide +kernel) (Nat.le_of_ble_eq_true rfl) rfl ?_
          refine ⟨C, rfl, hc, hg, fun S hc _ => ?_⟩
          rw [fbat p1] at hc ⊢
          have hg := hg.kp.set (D := btc C.1) (p3.btc p1)
          obtain ⟨E, dfE⟩ : ∃ N, N = gset (gkp C) (btc C.1) := ⟨_, rfl⟩
          rw [← dfE] at hc hg
          have hE1 : E.1 = btc C.1 := by rw [dfE, gset_1]
          obtain ⟨⟨q1, q2, q3, q4⟩, -, -⟩ := bq p3 p1
          have n4 := one_ge4 p3 (bt_BT p3) (p3.btc1 p1) ho p2.1
          have n8 := one_eight p3 (bt_BT p3) ho p2
          have g6 : btc C.1 6 = btB C.1 6 := btc_f (by decide) (by decide)
          rw [← g6] at n4 n8
          have hdr : btc C.1 6 3 = G.1 6 3 := by rw [q4, hC1, dset_ff _ _ _ (show 6 ≠ 1 by decide), hA1, dset_ff _ _ _ (show 6 ≠ 2 by decide)]
          rw [← hE1] at p4 hdr n4 n8
          have p5 := p4
          obtain ⟨b1, b2, b3, b4, b5, b6, b7, ⟨b8, b9, b10⟩, b11, b12⟩ := p5
          have hsm : sm (E.1 0) 1 ≠ 0 := sm_of hm (bn_root _ (b1.ok.lt hm) b3)
          rw [← hE1]
          obtain ⟨U, hU⟩ : ∃ U, E.1 6 1 - E.1 3 m = U := ⟨_, rfl⟩
          have hby1 := hby_lt32 (D := E.1) (m := m) (E.1 6 0)
          have hgm := hg.1.made
          have hgw := hg.1.written
          have hgp : ∀ j, j < 16 → j ≠ m → E.1 0 j ≠ 0 → hd E.1 j (key E.1 1) = true := fun j hj e z => (b2.2.2.1 j hj ⟨z, b5 j hj e⟩).2 1 (by decide) (bn_root _ (b1.ok.lt hj) z)
          dsimp only [Option.toList, List.cons_append, List.nil_append]
          refine zk_iconst hC dL_late_156 (v := nI 4) (by decide +kernel) ?_
          refine zr_icmp_lt hC dL_late_157 (tgt := 195) (by decide) (fun c => absurd c (nI_nlt (by omega) (by omega))) (fun c_157 => ?_)
          refine zr_aload_n hC dL_late_160 rfl ?_
          refine zk_bipush hC dL_late_161 (v := nI 7) (by decide +kernel) ?_
          refine zs_callV hC (b := 0) [_] [] dL_late_163 ml_L_37 mtX8_count tX8_count (by decide) (by decide) (by decide) rfl rfl (by decide) (by decide +kernel) (Nat.le_of_ble_eq_true rfl) rfl ?_
          refine ⟨E, _, rfl, hc, hg, fun S hc _ => ?_⟩
          rw [fc_7o b1 hm b3 b11 hgp]
          dsimp only [Option.toList, List.cons_append, List.nil_append]
          refine zk_iconst hC dL_late_166 (v := nI 1) (by decide +kernel) ?_
          refine zr_iload_n hC dL_late_167 rfl ?_
          refine zn_ishl hC dL_late_168 (z_shl1 m (by omega)) ?_
          refine zr_icmp_ne hC dL_late_169 (tgt := 195) (by decide) (fun c => absurd c (not_not_intro rfl)) (fun c_169 => ?_)
          refine zr_aload_n hC dL_late_172 rfl ?_
          refine zr_iload_n hC dL_late_173 rfl ?_
          refine zk_iconst hC dL_late_174 (v := nI 2) (by decide +kernel) ?_
          refine zs_callV hC (b := 0) [_, _] [] dL_late_175 ml_L_91 mtX8_member tX8_member (by decide) (by decide) (by decide) rfl rfl (by decide) (by decide +kernel) (Nat.le_of_ble_eq_true rfl) rfl ?_
          refine ⟨E, _, _, rfl, hc, hg, fun S hc _ => ?_⟩
          rw [fmem2 hm, if_neg hsm, b11, show zb false = nI 0 from rfl]
          dsimp only [Option.toList, List.cons_append, List.nil_append]
          refine zr_if_ne hC dL_late_178 (tgt := 195) (by decide) (fun c => absurd c (by decide +kernel)) (fun c_178 => ?_)
          refine zr_aload_n hC dL_late_181 rfl ?_
          refine zr_iload_n hC dL_late_182 rfl ?_
          refine zk_iconst hC dL_late_183 (v := nI 4) (by decide +kernel) ?_
          refine zs_callV hC (b := 0) [_, _] [] dL_late_184 ml_L_91 mtX8_member tX8_member (by decide) (by decide) (by decide) rfl rfl (by decide) (by decide +kernel) (Nat.le_of_ble_eq_true rfl) rfl ?_
          refine ⟨E, _, _, rfl, hc, hg, fun S hc _ => ?_⟩
          rw [fmem4 hm, if_pos b3, hU]
          dsimp only [Option.toList, List.cons_append, List.nil_append]
          refine zk_iconst hC dL_late_187 (v := nI 4) (by decide +kernel) ?_
          refine zr_icmp_lt hC dL_late_188 (tgt := 195) (by decide) (fun c => absurd c (nI_nlt (by omega) (by omega))) (fun c_188 => ?_)
          refine zk_iconst hC dL_late_191 (v := nI 1) (by decide +kernel) ?_
          refine zr_goto hC dL_late_192 (tgt := 196) (by decide) ?_
          refine zr_istore hC dL_late_196 (by decide) ?_
          refine zr_aload_n hC dL_late_198 rfl ?_
          refine zr_iload_n hC dL_late_199 rfl ?_
          refine zk_iconst hC dL_late_200 (v := nI 4) (by decide +kernel) ?_
          refine zs_callV hC (b := 0) [_, _] [] dL_late_201 ml_L_91 mtX8_member tX8_member (by decide) (by decide) (by decide) rfl rfl (by decide) (by decide +kernel) (Nat.le_of_ble_eq_true rfl) rfl ?_
          refine ⟨E, _, _, rfl, hc, hg, fun S hc _ => ?_⟩
          rw [fmem4 hm, if_pos b3, hU]
          dsimp only [Option.toList, List.cons_append, List.nil_append]
          refine zr_istore hC dL_late_204 (by decide) ?_
          refine zr_aload_n hC dL_late_206 rfl ?_
          refine zr_iload_n hC dL_late_207 rfl ?_
          refine zk_iconst hC dL_late_208 (v := nI 1) (by decide +kernel) ?_
          refine zs_callV hC (b := 0) [_, _] [] dL_late_209 ml_L_91 mtX8_member tX8_member (by decide) (by decide) (by decide) rfl rfl (by decide) (by decide +kernel) (Nat.le_of_ble_eq_true rfl) rfl ?_
          refine ⟨E, _, _, rfl, hc, hg, fun S hc _ => ?_⟩
          rw [fmem1 hm]
          dsimp only [Option.toList, List.cons_append, List.nil_append]
          refine zr_istore hC dL_late_212 (by decide) ?_
          refine zr_iload_n hC dL_late_214 rfl ?_
          refine zk_iconst hC dL_late_215 (v := nI 4) (by decide +kernel) ?_
          refine zn_ishr hC dL_late_216 (z_shrk hx (show 4 < 32 by decide)) ?_
          refine zk_iconst hC dL_late_217 (v := nI 1) (by decide +kernel) ?_
          refine zn_iand hC dL_late_218 (z_bit1 x 4) ?_
          cases hx4 : x.testBit 4 with
          | false =>
            rw [show zb false = nI 0 from rfl]
            refine zr_if_ne hC dL_late_219 (tgt := 304) (by decide) (fun c => absurd c (by decide +kernel)) (fun c_219 => ?_)
            refine zr_aload_n hC dL_late_222 rfl ?_
            refine zr_iload_n hC dL_late_223 rfl ?_
            refine zk_iconst hC dL_late_224 (v := nI 0) (by decide +kernel) ?_
            refine zs_callV hC (b := 0) [_, _] [] dL_late_225 ml_L_105 mtX8_late tX8_late (by decide) (by decide) (by decide) rfl rfl (by decide) (by decide +kernel) (Nat.le_of_ble_eq_true rfl) rfl ?_
            refine ⟨E, _, _, rfl, hc, hg, fun S hc _ => ?_⟩
            rw [fwak hm b4] at hc ⊢
            have hg := hg.kp.set (D := rdm m (dset E.1 2 m 0)) ((hg.1.wake).rdm hm)
            obtain ⟨F, dfF⟩ : ∃ N, N = gset (gkp E) (rdm m (dset E.1 2 m 0)) := ⟨_, rfl⟩
            rw [← dfF] at hc hg
            have hF1 : F.1 = rdm m (dset E.1 2 m 0) := by rw [dfF, gset_1]
            obtain ⟨w1, ⟨w2, w3⟩, w4, w5, w6, w7⟩ := la_wake hm p4
            obtain ⟨g, hgo⟩ : ∃ g, (rds m (E.1 3 m) (dset E.1 2 m 0) (E.1 6 1 - E.1 3 m)).2 = g := ⟨_, rfl⟩
            rw [hgo] at w2 w3 w4 ⊢
            rw [← hF1] at w1 w4 w5 w6 w7
            rw [hU] at w3
            dsimp only [Option.toList, List.cons_append, List.nil_append]
            refine zr_istore hC dL_late_228 (by decide) ?_
            refine zr_iload hC dL_late_230 rfl ?_
            refine zr_if_eq hC dL_late_232 (tgt := 302) (by decide) (fun c => absurd c (by decide +kernel)) (fun c_232 => ?_)
            refine zr_iload hC dL_late_235 rfl ?_
            refine zk_iconst hC dL_late_237 (v := nI 1) (by decide +kernel) ?_
            refine zr_icmp_lt hC dL_late_238 (tgt := 302) (by decide) (fun c => absurd c (nI_nlt (by omega) (by omega))) (fun c_238 => ?_)
            refine zr_iload hC dL_late_241 rfl ?_
            refine zr_iload hC dL_late_243 rfl ?_
            refine zr_icmp_gt hC dL_late_245 (tgt := 302) (by decide) (fun c => absurd c (nI_nlt (by omega) (by omega))) (fun c_245 => ?_)
            refine zr_aload_n hC dL_late_248 rfl ?_
            refine zr_iload_n hC dL_late_249 rfl ?_
            refine zk_iconst hC dL_late_250 (v := nI 1) (by decide +kernel) ?_
            refine zs_callV hC (b := 0) [_, _] [] dL_late_251 ml_L_91 mtX8_member tX8_member (by decide) (by decide) (by decide) rfl rfl (by decide) (by decide +kernel) (Nat.le_of_ble_eq_true rfl) rfl ?_
            refine ⟨F, _, _, rfl, hc, hg, fun S hc _ => ?_⟩
            rw [fmem1 hm, w7, w4]
            dsimp only [Option.toList, List.cons_append, List.nil_append]
            refine zr_iload hC dL_late_254 rfl ?_
            refine zr_iload hC dL_late_256 rfl ?_
            refine zn_iadd hC dL_late_258 (nI_add _ _) ?_
            refine zr_icmp_ne hC dL_late_259 (tgt := 302) (by decide) (fun c => absurd c (not_not_intro rfl)) (fun c_259 => ?_)
            refine zr_aload_n hC dL_late_262 rfl ?_
            refine zk_bipush hC dL_late_263 (v := nI 7) (by decide +kernel) ?_
            refine zs_callV hC (b := 0) [_] [] dL_late_265 ml_L_37 mtX8_count tX8_count (by decide) (by decide) (by decide) rfl rfl (by decide) (by decide +kernel) (Nat.le_of_ble_eq_true rfl) rfl ?_
            refine ⟨F, _, rfl, hc, hg, fun S hc _ => ?_⟩
            rw [fc_7w w1]
            dsimp only [Option.toList, List.cons_append, List.nil_append]
            refine zr_if_ne hC dL_late_268 (tgt := 302) (by decide) (fun c => absurd c (by decide +kernel)) (fun c_268 => ?_)
            refine zr_aload_n hC dL_late_271 rfl ?_
            refine zr_iload_n hC dL_late_272 rfl ?_
            refine zk_iconst hC dL_late_273 (v := nI 4) (by decide +kernel) ?_
            refine zs_callV hC (b := 0) [_, _] [] dL_late_274 ml_L_91 mtX8_member tX8_member (by decide) (by decide) (by decide) rfl rfl (by decide) (by decide +kernel) (Nat.le_of_ble_eq_true rfl) rfl ?_
            refine ⟨F, _, _, rfl, hc, hg, fun S hc _ => ?_⟩
            rw [fmem4 hm, w6, if_pos b3, w5, w7, Nat.sub_self]
            dsimp only [Option.toList, List.cons_append, List.nil_append]
            refine zr_if_ne hC dL_late_277 (tgt := 302) (by decide) (fun c => absurd c (by decide +kernel)) (fun c_277 => ?_)
            refine zr_aload_n hC dL_late_280 rfl ?_
            refine zk_iconst hC dL_late_281 (v := nI 3) (by decide +kernel) ?_
            refine zs_callV hC (b := 0) [_] [] dL_late_282 ml_L_37 mtX8_count tX8_count (by decide) (by decide) (by decide) rfl rfl (by decide) (by decide +kernel) (Nat.le_of_ble_eq_true rfl) rfl ?_
            refine ⟨F, _, rfl, hc, hg, fun S hc _ => ?_⟩
            rw [fc_3, ws_sls w1]
            dsimp only [Option.toList, List.cons_append, List.nil_append]
            refine zr_if_ne hC dL_late_285 (tgt := 302) (by decide) (fun c => absurd c (by decide +kernel)) (fun c_285 => ?_)
            refine zr_aload_n hC dL_late_288 rfl ?_
            refine zr_iload_n hC dL_late_289 rfl ?_
            refine zs_callV hC (b := 0) [_] [] dL_late_290 ml_L_107 mtX8_mend tX8_mend (by decide) (by decide) (by decide) rfl rfl (by decide) (by decide +kernel) (Nat.le_of_ble_eq_true rfl) rfl ?_
            refine ⟨F, _, rfl, hc, hg, fun S hc _ => ?_⟩
            rw [fmndN hm (mrf_not (w1.all hm (by rw [w6]; exact b3)))] at hc ⊢
            dsimp only [Option.toList, List.cons_append, List.nil_append]
            refine zk_bipush hC dL_late_293 (v := (-2)) (by decide +kernel) ?_
            refine zr_icmp_ne hC dL_late_295 (tgt := 302) (by decide) (fun c => absurd c (not_not_intro rfl)) (fun c_295 => ?_)
            refine zk_iconst hC dL_late_298 (v := nI 1) (by decide +kernel) ?_
            refine zr_goto hC dL_late_299 (tgt := 303) (by decide) ?_
            exact zr_zreturn hC hE dL_late_303 (by first | exact Or.inl rfl | exact Or.inr rfl) (hr _ _ (hQ _ _ hc hg w1 (by rw [w7]; exact hdr)))
          | true =>
            rw [show zb true = nI 1 from rfl]
            refine zr_if_ne hC dL_late_219 (tgt := 304) (by decide) (fun c_219 => ?_) (fun c => absurd c (by decide +kernel))
            refine zr_iload hC dL_late_304 rfl ?_
            refine zr_if_eq hC dL_late_306 (tgt := 385) (by decide) (fun c => absurd c (by decide +kernel)) (fun c_306 => ?_)
            refine zr_aload_n hC dL_late_309 rfl ?_
            refine zr_iload_n hC dL_late_310 rfl ?_
            refine zk_iconst hC dL_late_311 (v := nI 1) (by decide +kernel) ?_
            refine zs_callV hC (b := 0) [_, _] [] dL_late_312 ml_L_110 mtX8_lose tX8_lose (by decide) (by decide) (by decide) rfl rfl (by decide) (by decide +kernel) (Nat.le_of_ble_eq_true rfl) rfl ?_
            refine ⟨E, _, _, rfl, hc, hg, fun S hc _ => ?_⟩
            rw [flos hm (by decide) (by decide) b4] at hc ⊢
            have hg := hg.kp.set (D := dset E.1 3 m (E.1 3 m + min 1 (E.1 6 1 - E.1 3 m))) (hg.1.lose (fun _ => by omega))
            obtain ⟨L, dfL⟩ : ∃ N, N = gset (gkp E) (dset E.1 3 m (E.1 3 m + min 1 (E.1 6 1 - E.1 3 m))) := ⟨_, rfl⟩
            rw [← dfL] at hc hg
            have hL1 : L.1 = dset E.1 3 m (E.1 3 m + min 1 (E.1 6 1 - E.1 3 m)) := by rw [dfL, gset_1]
            have l3 : L.1 3 m = E.1 3 m + 1 := by rw [hL1, dset_at]; omega
            have l3o : ∀ j, j ≠ m → L.1 3 j = E.1 3 j := fun j e => by rw [hL1, dset_k _ _ _ e]
            have lf : ∀ f, f ≠ 3 → L.1 f = E.1 f := fun f a => by rw [hL1, dset_ff _ _ _ a]
            have l61 := congrFun (lf 6 (by decide)) 1
            rw [show min 1 (E.1 6 1 - E.1 3 m) = 1 by omega]
            dsimp only [Option.toList, List.cons_append, List.nil_append]
            refine zk_iconst hC dL_late_315 (v := nI 1) (by decide +kernel) ?_
            refine zr_icmp_ne hC dL_late_316 (tgt := 385) (by decide) (fun c => absurd c (by decide +kernel)) (fun c_316 => ?_)
            refine zr_aload_n hC dL_late_319 rfl ?_
            refine zr_iload_n hC dL_late_320 rfl ?_
            refine zk_iconst hC dL_late_321 (v := nI 4) (by decide +kernel) ?_
            refine zs_callV hC (b := 0) [_, _] [] dL_late_322 ml_L_91 mtX8_member tX8_member (by decide) (by decide) (by decide) rfl rfl (by decide) (by decide +kernel) (Nat.le_of_ble_eq_true rfl) rfl ?_
            refine ⟨L, _, _, rfl, hc, hg, fun S hc _ => ?_⟩
            rw [fmem4 hm, lf 0 (by decide), if_pos b3, lf 6 (by decide), l3, show E.1 6 1 - (E.1 3 m + 1) = U - 1 by omega]
            dsimp only [Option.toList, List.cons_append, List.nil_append]
            refine zr_iload hC dL_late_325 rfl ?_
            refine zk_iconst hC dL_late_327 (v := nI 1) (by decide +kernel) ?_
            refine zn_isub hC dL_late_328 (pk_sub (by omega)) ?_
            refine zr_icmp_ne hC dL_late_329 (tgt := 385) (by decide) (fun c => absurd c (not_not_intro rfl)) (fun c_329 => ?_)
            refine zr_aload_n hC dL_late_332 rfl ?_
            refine zr_iload_n hC dL_late_333 rfl ?_
            refine zk_bipush hC dL_late_334 (v := nI 40) (by decide +kernel) ?_
            refine zs_callV hC (b := 0) [_, _] [] dL_late_336 ml_L_110 mtX8_lose tX8_lose (by decide) (by decide) (by decide) rfl rfl (by decide) (by decide +kernel) (Nat.le_of_ble_eq_true rfl) rfl ?_
            refine ⟨L, _, _, rfl, hc, hg, fun S hc _ => ?_⟩
            rw [flos hm (by decide) (by decide) (by rw [lf 2 (by decide)]; exact b4)] at hc ⊢
            have hg := hg.kp.set (D := dset L.1 3 m (L.1 3 m + min 40 (L.1 6 1 - L.1 3 m))) (hg.1.lose (fun _ => by omega))
            obtain ⟨P, dfP⟩ : ∃ N, N = gset (gkp L) (dset L.1 3 m (L.1 3 m + min 40 (L.1 6 1 - L.1 3 m))) := ⟨_, rfl⟩
            rw [← dfP] at hc hg
            have hP1 : P.1 = dset L.1 3 m (L.1 3 m + min 40 (L.1 6 1 - L.1 3 m)) := by rw [dfP, gset_1]
            rw [show min 40 (L.1 6 1 - L.1 3 m) = U - 1 by rw [lf 6 (by decide), l3]; omega]
            have r3 : P.1 3 m = E.1 6 1 := by rw [hP1, dset_at, lf 6 (by decide), l3]; omega
            have r3o : ∀ j, j ≠ m → P.1 3 j = E.1 3 j := fun j e => by rw [hP1, dset_k _ _ _ e]; exact l3o j e
            have rf : ∀ f, f ≠ 3 → P.1 f = E.1 f := fun f a => by rw [hP1, dset_ff _ _ _ a]; exact lf f a
            dsimp only [Option.toList, List.cons_append, List.nil_append]
            refine zr_iload hC dL_late_339 rfl ?_
            refine zk_iconst hC dL_late_341 (v := nI 1) (by decide +kernel) ?_
            refine zn_isub hC dL_late_342 (pk_sub (by omega)) ?_
            refine zk_bipush hC dL_late_343 (v := nI 40) (by decide +kernel) ?_
            refine zr_icmp_le hC dL_late_345 (tgt := 353) (by decide) (fun c_345 => ?_) (fun c => absurd c (not_not_intro (nI_le (by omega) (by omega))))
            refine zr_iload hC dL_late_353 rfl ?_
            refine zk_iconst hC dL_late_355 (v := nI 1) (by decide +kernel) ?_
            refine zn_isub hC dL_late_356 (pk_sub (by omega)) ?_
            refine zr_icmp_ne hC dL_late_357 (tgt := 385) (by decide) (fun c => absurd c (not_not_intro rfl)) (fun c_357 => ?_)
            refine zr_aload_n hC dL_late_360 rfl ?_
            refine zr_iload_n hC dL_late_361 rfl ?_
            refine zk_iconst hC dL_late_362 (v := nI 0) (by decide +kernel) ?_
            refine zs_callV hC (b := 0) [_, _] [] dL_late_363 ml_L_105 mtX8_late tX8_late (by decide) (by decide) (by decide) rfl rfl (by decide) (by decide +kernel) (Nat.le_of_ble_eq_true rfl) rfl ?_
            refine ⟨P, _, _, rfl, hc, hg, fun S hc _ => ?_⟩
            rw [fwak hm (by rw [rf 2 (by decide)]; exact b4)] at hc ⊢
            have hg := hg.kp.set (D := rdm m (dset P.1 2 m 0)) ((hg.1.wake).rdm hm)
            obtain ⟨M, dfM⟩ : ∃ N, N = gset (gkp P) (rdm m (dset P.1 2 m 0)) := ⟨_, rfl⟩
            rw [← dfM] at hc hg
            have hM1 : M.1 = rdm m (dset P.1 2 m 0) := by rw [dfM, gset_1]
            obtain ⟨u1, u2, u3⟩ := rdm_nil (T := dset P.1 2 m 0) (m := m) (by rw [dset_ff _ _ _ (by decide), dset_ff _ _ _ (by decide), r3, rf 6 (by decide)])
            rw [dset_ff _ _ _ (show 3 ≠ 2 by decide), dset_ff _ _ _ (show 6 ≠ 2 by decide)] at u1
            rw [u1]
            rw [← hM1] at u2 u3
            have mf : ∀ f, f ≠ 2 → f ≠ 3 → M.1 f = E.1 f := fun f a b => by rw [u2 f b, dset_ff _ _ _ a]; exact rf f b
            have mlk := la_lack hm p4 hg.1 mf (fun j hj => by
              rw [u2 2 (by decide)]
              by_cases e : j = m
              · rw [e]; exact dset_at _ _ _ _
              · rw [dset_k _ _ _ e, rf 2 (by decide)]; exact b5 j hj e) (by rw [u3, dset_ff _ _ _ (by decide)]; exact r3) (fun j e => by rw [u3, dset_ff _ _ _ (by decide)]; exact r3o j e)
            have m6 := mf 6 (by decide) (by decide)
            obtain ⟨v1, ⟨v2, v3⟩, v4, v5⟩ := mend_ok hm mlk (by rw [m6]; omega) (by rw [m6]; omega)
            have mlk2 := mlk
            obtain ⟨k1, k2, k3, k4, k5, k6, k7, k8, k9, k10⟩ := mlk2
            dsimp only [Option.toList, List.cons_append, List.nil_append]
            refine zr_if_ne hC dL_late_366 (tgt := 385) (by decide) (fun c => absurd c (by decide +kernel)) (fun c_366 => ?_)
            refine zr_aload_n hC dL_late_369 rfl ?_
            refine zk_bipush hC dL_late_370 (v := nI 7) (by decide +kernel) ?_
            refine zs_callV hC (b := 0) [_] [] dL_late_372 ml_L_37 mtX8_count tX8_count (by decide) (by decide) (by decide) rfl rfl (by decide) (by decide +kernel) (Nat.le_of_ble_eq_true rfl) rfl ?_
            refine ⟨M, _, rfl, hc, hg, fun S hc _ => ?_⟩
            rw [fc_7o k1 hm k9 k10 (fun j hj e z => k8 j hj e 1 (by decide) (bn_root _ (k1.ok.lt hj) z))]
            dsimp only [Option.toList, List.cons_append, List.nil_append]
            refine zk_iconst hC dL_late_375 (v := nI 1) (by decide +kernel) ?_
            refine zr_iload_n hC dL_late_376 rfl ?_
            refine zn_ishl hC dL_late_377 (z_shl1 m (by omega)) ?_
            refine zr_icmp_ne hC dL_late_378 (tgt := 385) (by decide) (fun c => absurd c (not_not_intro rfl)) (fun c_378 => ?_)
            refine zk_iconst hC dL_late_381 (v := nI 1) (by decide +kernel) ?_
            refine zr_goto hC dL_late_382 (tgt := 386) (by decide) ?_
            refine zr_istore hC dL_late_386 (by decide) ?_
            refine zr_aload_n hC dL_late_388 rfl ?_
            refine zk_iconst hC dL_late_389 (v := nI 5) (by decide +kernel) ?_
            refine zs_callV hC (b := 0) [_] [] dL_late_390 ml_L_37 mtX8_count tX8_count (by decide) (by decide) (by decide) rfl rfl (by decide) (by decide +kernel) (Nat.le_of_ble_eq_true rfl) rfl ?_
            refine ⟨M, _, rfl, hc, hg, fun S hc _ => ?_⟩
            rw [fc_5]
            dsimp only [Option.toList, List.cons_append, List.nil_append]
            refine zr_istore hC dL_late_393 (by decide) ?_
            refine zr_aload_n hC dL_late_395 rfl ?_
            refine zr_iload_n hC dL_late_396 rfl ?_
            refine zs_callV hC (b := 0) [_] [] dL_late_397 ml_L_107 mtX8_mend tX8_mend (by decide) (by decide) (by decide) rfl rfl (by decide) (by decide +kernel) (Nat.le_of_ble_eq_true rfl) rfl ?_
            refine ⟨M, _, rfl, hc, hg, fun S hc _ => ?_⟩
            rw [fmnd hm v1] at hc ⊢
            have hg := hg.kp.set (D := mnd m M.1) (hg.1.mnd hm v1)
            obtain ⟨R, dfR⟩ : ∃ N, N = gset (gkp M) (mnd m M.1) := ⟨_, rfl⟩
            rw [← dfR] at hc hg
            have hR1 : R.1 = mnd m M.1 := by rw [dfR, gset_1]
            rw [← hR1] at v2 v3 v4 v5
            rw [← hR1]
            obtain ⟨T, hT⟩ : ∃ T, R.1 6 1 - M.1 6 1 = T := ⟨_, rfl⟩
            rw [hT]
            have hRw := hg.1.written
            have h0R : R.1 0 m ≠ 0 := by
              have e1 : R.1 0 = M.1 0 := by
                rw [hR1]
                show rda (mnl m 4 (M.1 0 m / 2) M.1) 16 0 = _
                rw [rda_f (by decide) (by decide) 16]
                exact (mnl_Q 4 _ M.1 ltE.rf).1.1 0 (by decide) (by decide) (by decide) (by decide)
              rw [e1]; exact k9
            dsimp only [Option.toList, List.cons_append, List.nil_append]
            refine zr_istore hC dL_late_400 (by decide) ?_
            refine zr_iload hC dL_late_402 rfl ?_
            refine zr_if_eq hC dL_late_404 (tgt := 488) (by decide) (fun c => absurd c (by decide +kernel)) (fun c_404 => ?_)
            refine zr_iload hC dL_late_407 rfl ?_
            refine zk_iconst hC dL_late_409 (v := nI 1) (by decide +kernel) ?_
            refine zr_icmp_lt hC dL_late_410 (tgt := 488) (by decide) (fun c => absurd c (nI_nlt (by omega) (by omega))) (fun c_410 => ?_)
            refine zr_iload hC dL_late_413 rfl ?_
            refine zk_iconst hC dL_late_415 (v := nI 4) (by decide +kernel) ?_
            refine zr_icmp_gt hC dL_late_416 (tgt := 488) (by decide) (fun c => absurd c (nI_nlt (by omega) (by omega))) (fun c_416 => ?_)
            refine zr_aload_n hC dL_late_419 rfl ?_
            refine zk_iconst hC dL_late_420 (v := nI 5) (by decide +kernel) ?_
            refine zs_callV hC (b := 0) [_] [] dL_late_421 ml_L_37 mtX8_count tX8_count (by decide) (by decide) (by decide) rfl rfl (by decide) (by decide +kernel) (Nat.le_of_ble_eq_true rfl) rfl ?_
            refine ⟨R, _, rfl, hc, hg, fun S hc _ => ?_⟩
            rw [fc_5, show R.1 6 1 = M.1 6 1 + T by omega]
            dsimp only [Option.toList, List.cons_append, List.nil_append]
            refine zr_iload hC dL_late_424 rfl ?_
            refine zr_iload hC dL_late_426 rfl ?_
            refine zn_iadd hC dL_late_428 (nI_add _ _) ?_
            refine zr_icmp_ne hC dL_late_429 (tgt := 488) (by decide) (fun c => absurd c (not_not_intro rfl)) (fun c_429 => ?_)
            refine zr_aload_n hC dL_late_432 rfl ?_
            refine zr_iload hC dL_late_433 rfl ?_
            refine zk_iconst hC dL_late_435 (v := nI 2) (by decide +kernel) ?_
            refine zs_callV hC (b := 0) [_, _] [] dL_late_436 ml_L_67 mtX8_letter tX8_letter (by decide) (by decide) (by decide) rfl rfl (by decide) (by decide +kernel) (Nat.le_of_ble_eq_true rfl) rfl ?_
            refine ⟨R, _, _, rfl, hc, hg, fun S hc _ => ?_⟩
            rw [flet2 hg (by omega), v4]
            dsimp only [Option.toList, List.cons_append, List.nil_append]
            refine zk_bipush hC dL_late_439 (v := (-4)) (by decide +kernel) ?_
            refine zr_icmp_ne hC dL_late_441 (tgt := 488) (by decide) (fun c => absurd c (not_not_intro rfl)) (fun c_441 => ?_)
            refine zr_aload_n hC dL_late_444 rfl ?_
            refine zk_bipush hC dL_late_445 (v := nI 7) (by decide +kernel) ?_
            refine zs_callV hC (b := 0) [_] [] dL_late_447 ml_L_37 mtX8_count tX8_count (by decide) (by decide) (by decide) rfl rfl (by decide) (by decide +kernel) (Nat.le_of_ble_eq_true rfl) rfl ?_
            refine ⟨R, _, rfl, hc, hg, fun S hc _ => ?_⟩
            rw [fc_7w v5]
            dsimp only [Option.toList, List.cons_append, List.nil_append]
            refine zr_if_ne hC dL_late_450 (tgt := 488) (by decide) (fun c => absurd c (by decide +kernel)) (fun c_450 => ?_)
            refine zr_aload_n hC dL_late_453 rfl ?_
            refine zr_iload_n hC dL_late_454 rfl ?_
            refine zk_iconst hC dL_late_455 (v := nI 2) (by decide +kernel) ?_
            refine zs_callV hC (b := 0) [_, _] [] dL_late_456 ml_L_91 mtX8_member tX8_member (by decide) (by decide) (by decide) rfl rfl (by decide) (by decide +kernel) (Nat.le_of_ble_eq_true rfl) rfl ?_
            refine ⟨R, _, _, rfl, hc, hg, fun S hc _ => ?_⟩
            rw [fmem2 hm, if_neg (sm_of hm (bn_root _ (v5.1.ok.lt hm) h0R)), v5.grp hm h0R, show zb true = nI 1 from rfl]
            dsimp only [Option.toList, List.cons_append, List.nil_append]
            refine zk_iconst hC dL_late_459 (v := nI 1) (by decide +kernel) ?_
            refine zr_icmp_ne hC dL_late_460 (tgt := 488) (by decide) (fun c => absurd c (by decide +kernel)) (fun c_460 => ?_)
            refine zr_aload_n hC dL_late_463 rfl ?_
            refine zr_iload_n hC dL_late_464 rfl ?_
            refine zs_callV hC (b := 0) [_] [] dL_late_465 ml_L_107 mtX8_mend tX8_mend (by decide) (by decide) (by decide) rfl rfl (by decide) (by decide +kernel) (Nat.le_of_ble_eq_true rfl) rfl ?_
            refine ⟨R, _, rfl, hc, hg, fun S hc _ => ?_⟩
            rw [fmndN hm (mrf_not (v5.all hm h0R))] at hc ⊢
            dsimp only [Option.toList, List.cons_append, List.nil_append]
            refine zk_bipush hC dL_late_468 (v := (-2)) (by decide +kernel) ?_
            refine zr_icmp_ne hC dL_late_470 (tgt := 488) (by decide) (fun c => absurd c (not_not_intro rfl)) (fun c_470 => ?_)
            refine zr_aload_n hC dL_late_473 rfl ?_
            refine zr_iload_n hC dL_late_474 rfl ?_
            refine zk_iconst hC dL_late_475 (v := nI 1) (by decide +kernel) ?_
            refine zs_callV hC (b := 0) [_, _] [] dL_late_476 ml_L_110 mtX8_lose tX8_lose (by decide) (by decide) (by decide) rfl rfl (by decide) (by decide +kernel) (Nat.le_of_ble_eq_true rfl) rfl ?_
            refine ⟨R, _, _, rfl, hc, hg, fun S hc _ => ?_⟩
            rw [flosN hm (by decide) (by decide) (by rw [v5.2.2.2 m hm]; decide)] at hc ⊢
            dsimp only [Option.toList, List.cons_append, List.nil_append]
            refine zk_bipush hC dL_late_479 (v := (-2)) (by decide +kernel) ?_
            refine zr_icmp_ne hC dL_late_481 (tgt := 488) (by decide) (fun c => absurd c (not_not_intro rfl)) (fun c_481 => ?_)
            refine zk_iconst hC dL_late_484 (v := nI 1) (by decide +kernel) ?_
            refine zr_goto hC dL_late_485 (tgt := 489) (by decide) ?_
            exact zr_zreturn hC hE dL_late_489 (by first | exact Or.inl rfl | exact Or.inr rfl) (hr _ _ (hQ _ _ hc hg v5 (by rw [hR1, mnd_63, m6]; exact hdr)))
        · refine zk_iconst hC dL_late_42 (v := nI 1) (by decide +kernel) ?_
          exact zr_zreturn hC hE dL_late_43 (by first | exact Or.inl rfl | exact Or.inr rfl) (hr _ _ (hQ _ _ hc hg hw rfl))
