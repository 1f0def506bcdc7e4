/-! THE MODEL: shifts, letters, reads -/
theorem pcn_0iff {lf : Nat → Nat} (h : lfok lf) {j : Nat} (h1 : 16 ≤ j) (h2 : j < 32) : pcn 16 (sm lf j) = 0 ↔ ∀ m, m < 16 → lf m ≠ j := by
  constructor
  · intro hp m hm e
    have := pcn_zero 16 hp m hm
    rw [sm_bit hm, e, bn_self (by omega)] at this
    cases this
  · intro hn
    have hs : sm lf j = 0 := dm_zero.mpr fun m hm => by
      cases hb : bn (lf m) j with
      | false => rfl
      | true => exact absurd ((bn_leaf _ (h.lt hm) j h2 h1).mp hb) (hn m hm)
    rw [hs]
    decide
theorem pcn_sm0 {lf : Nat → Nat} {v : Nat} : pcn 16 (sm lf v) = 0 ↔ sm lf v = 0 := by
  constructor
  · intro h
    exact dm_zero.mpr fun m hm => by rw [← sm_bit hm]; exact pcn_zero 16 h m hm
  · intro h; rw [h]; decide
theorem mvC_fr2 {K : Nat → Bool} {x0 : zM3} (h0 : mvI K x0 0 x0) (hK : ∀ m, m < 16 → K m = true → x0.1 m = 0) (hX : ∀ j, 16 ≤ j → j < 32 → x0.2.1 j = true → ∀ m, m < 16 → x0.1 m ≠ j) : ∀ n, n ≤ 16 → ∀ j, 16 ≤ j → j < 32 → ((mvC K x0 n).2.1 j = true ↔ x0.2.1 j = true ∧ ∀ m, m < 16 → (mvC K x0 n).1 m ≠ j)
  | 0, _, j, h1, h2 => ⟨fun h => ⟨h, hX j h1 h2 h⟩, fun h => h.1⟩
  | n + 1, hn, j, h1, h2 => by
    obtain ⟨i1, i2, i3, i4, i5⟩ := mvC_I h0 hK n (by omega)
    have ih := mvC_fr2 h0 hK hX n (by omega) j h1 h2
    obtain ⟨-, -, k3, -, -⟩ := mvC_I h0 hK (n + 1) hn
    constructor
    · intro h
      refine ⟨?_, (k3 j h).2⟩
      unfold mvC stC at h
      split at h
      · simp only [Bool.and_eq_true] at h
        exact (ih.mp h.1).1
      · exact (ih.mp h).1
    · rintro ⟨ha, hb⟩
      unfold mvC stC at hb ⊢
      split at hb
      next hp =>
        rw [if_pos hp]
        have hl : nlf (mvC K x0 n).1 (mvC K x0 n).2.1 ≠ j := fun q => hb n (by omega) (by
          show fup _ n _ n = j
          rw [fup_at]; exact q)
        have hx0 : (mvC K x0 n).1 n = 0 := by
          have := i4 n (by omega)
          rw [if_neg (by omega)] at this
          rw [this]; exact hK n (by omega) hp
        have hnb : ∀ m, m < 16 → (mvC K x0 n).1 m ≠ j := fun m hm q => by
          by_cases e : m = n
          · rw [e, hx0] at q; omega
          · exact hb m hm (by
              show fup _ n _ m = j
              rw [fup_ne _ _ e]; exact q)
        simp only [Bool.and_eq_true, Bool.not_eq_true', beq_eq_false_iff_ne]
        exact ⟨ih.mpr ⟨ha, hnb⟩, fun q => hl q.symm⟩
      next hp =>
        rw [if_neg hp]
        exact ih.mpr ⟨ha, hb⟩
set_option maxHeartbeats 4000000 in
set_option maxRecDepth 100000 in
theorem l9_shA {C : zCx} {τ : Nat → ClassId} {ι : Nat → Nat} (hC : zOK C τ (zrm 3 0 0) yX9_shifts.cls cX9_shifts 4) {S0 : zS} {x y : Int32} (k : ∀ S' lv, CH S' (fun _ => false) → FR S' (fun _ => false) → zfrm 248 250 S0 S' → zsub lv [(0, .ref 245), (1, .int x), (2, .int y)] → zR C τ ι 4 0 0 28 lv [] (zcells S')) : ∀ (d i : Nat) (S : zS), i + d = 32 → (∀ v, v < i → S.1 248 v = zb false ∧ S.1 249 v = zb false) → zfrm 248 250 S0 S → zR C τ ι 4 0 0 2 [(0, .ref 245), (1, .int x), (2, .int y), (3, .int (nI i))] [] (zcells S) := by
  intro d
  induction d with
  | zero =>
    intro i S hi hP hF
    refine zr_iload_n hC dX9_shifts_2 rfl ?_
    refine zk_bipush hC dX9_shifts_3 (v := nI 32) (by decide +kernel) ?_
    refine zr_icmp_ge hC dX9_shifts_5 (tgt := 28) (by decide) (fun c_5 => ?_) (fun c => absurd c (not_not_intro (nI_le (by omega) (by omega))))
    exact k S _ (fun v hv => (hP v (by omega)).1) (fun v hv => (hP v (by omega)).2) hF ⟨rfl, rfl, rfl, trivial⟩
  | succ d ih =>
    intro i S hi hP hF
    refine zr_iload_n hC dX9_shifts_2 rfl ?_
    refine zk_bipush hC dX9_shifts_3 (v := nI 32) (by decide +kernel) ?_
    refine zr_icmp_ge hC dX9_shifts_5 (tgt := 28) (by decide) (fun c => absurd c (nI_ge (by omega) (by omega))) (fun c_5 => ?_)
    refine zr_aload_n hC dX9_shifts_8 rfl ?_
    refine zs_getr hC dX9_shifts_9 fl_X9_16 (a := 245) (r := 248) rfl (by decide) ?_
    refine zr_iload_n hC dX9_shifts_12 rfl ?_
    refine zk_iconst hC dX9_shifts_13 (v := nI 0) (by decide +kernel) ?_
    refine zs_zast hC dX9_shifts_14 (a := 248) (n := 32) rfl (by decide) (by decide) (j := i) rfl (by omega) (Or.inl rfl) ?_
    refine zr_aload_n hC dX9_shifts_15 rfl ?_
    refine zs_getr hC dX9_shifts_16 fl_X9_20 (a := 245) (r := 249) rfl (by decide) ?_
    refine zr_iload_n hC dX9_shifts_19 rfl ?_
    refine zk_iconst hC dX9_shifts_20 (v := nI 0) (by decide +kernel) ?_
    refine zs_zast hC dX9_shifts_21 (a := 249) (n := 32) rfl (by decide) (by decide) (j := i) rfl (by omega) (Or.inl rfl) ?_
    refine zn_iinc hC dX9_shifts_22 rfl (by decide) (zk_inc _ 1) ?_
    refine zr_goto hC dX9_shifts_25 (tgt := 2) (by decide) ?_
    refine zR_sub [(0, .ref 245), (1, .int x), (2, .int y), (3, .int (nI (i + 1)))] ⟨rfl, rfl, rfl, rfl, trivial⟩ (ih (i + 1) _ (by omega) (fun v hv => ?_) ((hF.put (by decide) (by decide)).put (by decide) (by decide)))
    by_cases q : v = i
    · subst q; rw [zput_at, zput_ne _ _ (by decide), zput_at]; exact ⟨rfl, rfl⟩
    · rw [zput_ne _ _ (by decide), zput_k _ _ q, zput_k _ _ q, zput_ne _ _ (by decide)]; exact hP v (by omega)
set_option maxHeartbeats 4000000 in
set_option maxRecDepth 100000 in
theorem l9_shB {C : zCx} {τ : Nat → ClassId} {ι : Nat → Nat} (hC : zOK C τ (zrm 3 0 0) yX9_shifts.cls cX9_shifts 4) {S0 : zS} {x y : Int32} {lf : Nat → Nat} (hk : lfok lf) (k : ∀ S' lv, SE S' (mvL (bt x) lf 16).1 → CH S' (fun v => (mvL (bt x) lf 16).2.2.testBit v) → FR S' (mvL (bt x) lf 16).2.1 → zfrm 247 250 S0 S' → zsub lv [(0, .ref 245), (1, .int x), (2, .int y)] → zR C τ ι 4 0 0 79 lv [] (zcells S')) : ∀ (d i : Nat) (S : zS), i + d = 16 → SE S (mvL (bt x) lf i).1 → CH S (fun v => (mvL (bt x) lf i).2.2.testBit v) → FR S (mvL (bt x) lf i).2.1 → zfrm 247 250 S0 S → zR C τ ι 4 0 0 30 [(0, .ref 245), (1, .int x), (2, .int y), (3, .int (nI i))] [] (zcells S) := by
  intro d
  induction d with
  | zero =>
    intro i S hi hS hC1 hFr hF
    refine zr_iload_n hC dX9_shifts_30 rfl ?_
    refine zk_bipush hC dX9_shifts_31 (v := nI 16) (by decide +kernel) ?_
    refine zr_icmp_ge hC dX9_shifts_33 (tgt := 79) (by decide) (fun c_33 => ?_) (fun c => absurd c (not_not_intro (nI_le (by omega) (by omega))))
    obtain rfl : i = 16 := (by omega)
    exact k S _ hS hC1 hFr hF ⟨rfl, rfl, rfl, trivial⟩
  | succ d ih =>
    intro i S hi hS hC1 hFr hF
    refine zr_iload_n hC dX9_shifts_30 rfl ?_
    refine zk_bipush hC dX9_shifts_31 (v := nI 16) (by decide +kernel) ?_
    refine zr_icmp_ge hC dX9_shifts_33 (tgt := 79) (by decide) (fun c => absurd c (nI_ge (by omega) (by omega))) (fun c_33 => ?_)
    refine zr_iload_n hC dX9_shifts_36 rfl ?_
    refine zr_iload_n hC dX9_shifts_37 rfl ?_
    refine zs_callS hC [_, _] [] dX9_shifts_38 ml_X9_72 mtX9_has tX9_has (by decide) (by decide) (by decide) rfl (Nat.le_of_ble_eq_true rfl) rfl ?_
    refine ⟨_, i, rfl, by omega, fun r e => ?_⟩
    rcases e with ⟨rfl, hx⟩ | ⟨rfl, hx⟩
    · have hlt : (mvL (bt x) lf i).1 i < 32 := by rw [mvL_out _ _ i (Nat.le_refl _)]; exact hk.lt (by omega)
      dsimp only [Option.toList, List.cons_append, List.nil_append]
      refine zr_if_eq hC dX9_shifts_41 (tgt := 73) (by decide) (fun c => absurd c (by decide +kernel)) (fun c_41 => ?_)
      refine zr_aload_n hC dX9_shifts_44 rfl ?_
      refine zs_getr hC dX9_shifts_45 fl_X9_20 (a := 245) (r := 249) rfl (by decide) ?_
      refine zr_aload_n hC dX9_shifts_48 rfl ?_
      refine zs_getr hC dX9_shifts_49 fl_X9_13 (a := 245) (r := 247) rfl (by decide) ?_
      refine zr_iload_n hC dX9_shifts_52 rfl ?_
      refine zv_iald hC dX9_shifts_53 (a := 247) (n := 16) rfl (by decide) (by decide) (j := i) rfl (by omega) (hS i (by omega)) ?_
      refine zk_iconst hC dX9_shifts_54 (v := nI 1) (by decide +kernel) ?_
      refine zs_zast hC dX9_shifts_55 (a := 249) (n := 32) rfl (by decide) (by decide) (j := (mvL (bt x) lf i).1 i) rfl hlt (Or.inr rfl) ?_
      refine zr_aload_n hC dX9_shifts_56 rfl ?_
      refine zr_aload_n hC dX9_shifts_57 rfl ?_
      refine zs_getr hC dX9_shifts_58 fl_X9_13 (a := 245) (r := 247) rfl (by decide) ?_
      refine zr_iload_n hC dX9_shifts_61 rfl ?_
      refine zv_iald hC dX9_shifts_62 (a := 247) (n := 16) rfl (by decide) (by decide) (j := i) rfl (by omega) ((congrFun (zput_ne _ _ (by decide)) i).trans (hS i (by omega))) ?_
      refine zs_callV hC (b := 245) [_] [] dX9_shifts_63 ml_X9_90 mtX9_marks tX9_marks (by decide) (by decide) (by decide) rfl rfl (by decide) (by decide +kernel) (Nat.le_of_ble_eq_true rfl) rfl ?_
      refine ⟨(mvL (bt x) lf i).1 i, _, rfl, hlt, hC1.fr (zput_ne _ _ (by decide)), fun S1 hm1 hm2 => ?_⟩
      dsimp only [Option.toList, List.nil_append]
      refine zr_aload_n hC dX9_shifts_66 rfl ?_
      refine zs_getr hC dX9_shifts_67 fl_X9_13 (a := 245) (r := 247) rfl (by decide) ?_
      refine zr_iload_n hC dX9_shifts_70 rfl ?_
      refine zk_iconst hC dX9_shifts_71 (v := nI 0) (by decide +kernel) ?_
      refine zs_iast hC dX9_shifts_72 (a := 247) (n := 16) rfl (by decide) (by decide) (j := i) rfl (by omega) ?_
      refine zn_iinc hC dX9_shifts_73 rfl (by decide) (zk_inc _ 1) ?_
      refine zr_goto hC dX9_shifts_76 (tgt := 30) (by decide) ?_
      refine zR_sub [(0, .ref 245), (1, .int x), (2, .int y), (3, .int (nI (i + 1)))] ⟨rfl, rfl, rfl, rfl, trivial⟩ (ih (i + 1) _ (by omega) ?_ ?_ ?_ (((hF.put (by decide) (by decide)).tr (hm2.up (by decide) (by decide))).put (by decide) (by decide)))
      · intro m hm
        simp only [mvL, stL, hx, if_true]
        by_cases q : m = i
        · subst q; rw [zput_at, fup_at]
        · rw [zput_k _ _ q, fup_ne _ _ q, hm2.1 247 (by decide), zput_ne _ _ (by decide)]; exact hS m hm
      · intro v hv
        rw [zput_ne _ _ (by decide), hm1 v hv]
        simp only [mvL, stL, hx, if_true, Nat.testBit_or, pth_bit]
      · intro v hv
        rw [zput_ne _ _ (by decide), hm2.1 249 (by decide)]
        simp only [mvL, stL, hx, if_true]
        by_cases q : v = (mvL (bt x) lf i).1 i
        · subst q; rw [zput_at]; simp [zb]
        · rw [zput_k _ _ q, hFr v hv, beq_eq_false_iff_ne.mpr q, Bool.or_false]
    · dsimp only [Option.toList, List.cons_append, List.nil_append]
      refine zr_if_eq hC dX9_shifts_41 (tgt := 73) (by decide) (fun c_41 => ?_) (fun c => absurd c (by decide +kernel))
      refine zn_iinc hC dX9_shifts_73 rfl (by decide) (zk_inc _ 1) ?_
      refine zr_goto hC dX9_shifts_76 (tgt := 30) (by decide) ?_
      refine zR_sub [(0, .ref 245), (1, .int x), (2, .int y), (3, .int (nI (i + 1)))] ⟨rfl, rfl, rfl, rfl, trivial⟩ (ih (i + 1) S (by omega) ?_ ?_ ?_ hF)
      · simpa [mvL, stL, hx] using hS
      · simpa [mvL, stL, hx] using hC1
      · simpa [mvL, stL, hx] using hFr
set_option maxHeartbeats 4000000 in
set_option maxRecDepth 100000 in
theorem l9_shC {C : zCx} {τ : Nat → ClassId} {ι : Nat → Nat} (hC : zOK C τ (zrm 3 0 0) yX9_shifts.cls cX9_shifts 4) {S0 : zS} {y : Int32} {X0 : zM3} (h0 : mvI (bt y) X0 0 X0) (hK : ∀ m, m < 16 → bt y m = true → X0.1 m = 0) (hX : ∀ j, 16 ≤ j → j < 32 → X0.2.1 j = true → ∀ m, m < 16 → X0.1 m ≠ j) (k : ∀ S' lv, SE S' (mvC (bt y) X0 16).1 → CH S' (fun v => (mvC (bt y) X0 16).2.2.testBit v) → zfrm 247 250 S0 S' → zR C τ ι 4 0 0 133 lv [] (zcells S')) : ∀ (d i : Nat) (S : zS), i + d = 16 → SE S (mvC (bt y) X0 i).1 → CH S (fun v => (mvC (bt y) X0 i).2.2.testBit v) → FR S X0.2.1 → zfrm 247 250 S0 S → zR C τ ι 4 0 0 81 [(0, .ref 245), (2, .int y), (3, .int (nI i))] [] (zcells S) := by
  intro d
  induction d with
  | zero =>
    intro i S hi hS hC1 hFr hF
    refine zr_iload_n hC dX9_shifts_81 rfl ?_
    refine zk_bipush hC dX9_shifts_82 (v := nI 16) (by decide +kernel) ?_
    refine zr_icmp_ge hC dX9_shifts_84 (tgt := 133) (by decide) (fun c_84 => ?_) (fun c => absurd c (not_not_intro (nI_le (by omega) (by omega))))
    obtain rfl : i = 16 := (by omega)
    exact k S _ hS hC1 hF
  | succ d ih =>
    intro i S hi hS hC1 hFr hF
    refine zr_iload_n hC dX9_shifts_81 rfl ?_
    refine zk_bipush hC dX9_shifts_82 (v := nI 16) (by decide +kernel) ?_
    refine zr_icmp_ge hC dX9_shifts_84 (tgt := 133) (by decide) (fun c => absurd c (nI_ge (by omega) (by omega))) (fun c_84 => ?_)
    refine zr_iload_n hC dX9_shifts_87 rfl ?_
    refine zr_iload_n hC dX9_shifts_88 rfl ?_
    refine zs_callS hC [_, _] [] dX9_shifts_89 ml_X9_72 mtX9_has tX9_has (by decide) (by decide) (by decide) rfl (Nat.le_of_ble_eq_true rfl) rfl ?_
    refine ⟨_, i, rfl, by omega, fun r e => ?_⟩
    rcases e with ⟨rfl, hx⟩ | ⟨rfl, hx⟩
    · obtain ⟨i1, i2, i3, i4, i5⟩ := mvC_I h0 hK i (by omega)
      have hin := nlf_in (lf := (mvC (bt y) X0 i).1) (fr := (mvC (bt y) X0 i).2.1) (fun j _ hj => (i3 j hj).1)
      dsimp only [Option.toList, List.cons_append, List.nil_append]
      refine zr_if_eq hC dX9_shifts_92 (tgt := 127) (by decide) (fun c => absurd c (by decide +kernel)) (fun c_92 => ?_)
      refine zr_aload_n hC dX9_shifts_95 rfl ?_
      refine zs_getr hC dX9_shifts_96 fl_X9_13 (a := 245) (r := 247) rfl (by decide) ?_
      refine zr_iload_n hC dX9_shifts_99 rfl ?_
      refine zr_aload_n hC dX9_shifts_100 rfl ?_
      refine zs_callV hC (b := 245) [] [_, _] dX9_shifts_101 ml_X9_94 mtX9_leafFor tX9_leafFor (by decide) (by decide) (by decide) rfl rfl (by decide) (by decide +kernel) (Nat.le_of_ble_eq_true rfl) rfl ?_
      refine ⟨(mvC (bt y) X0 i).1, X0.2.1, rfl, hS, fun m hm => i1.lt hm, hFr, ?_⟩
      rw [lfs_is (fr := (mvC (bt y) X0 i).2.1) (fun j q1 q2 => by rw [mvC_fr2 h0 hK hX i (by omega) j q1 q2, pcn_0iff i1 q1 q2]) 16 (Nat.le_refl _) (fun j hj => by
        cases hb : (mvC (bt y) X0 i).2.1 j with
        | false => rfl
        | true => have := (i3 j hb).1; omega)]
      dsimp only [Option.toList, List.cons_append, List.nil_append]
      refine zs_iast hC dX9_shifts_104 (a := 247) (n := 16) rfl (by decide) (by decide) (j := i) rfl (by omega) ?_
      refine zr_aload_n hC dX9_shifts_105 rfl ?_
      refine zs_getr hC dX9_shifts_106 fl_X9_16 (a := 245) (r := 248) rfl (by decide) ?_
      refine zr_aload_n hC dX9_shifts_109 rfl ?_
      refine zs_getr hC dX9_shifts_110 fl_X9_13 (a := 245) (r := 247) rfl (by decide) ?_
      refine zr_iload_n hC dX9_shifts_113 rfl ?_
      refine zv_iald hC dX9_shifts_114 (a := 247) (n := 16) rfl (by decide) (by decide) (j := i) rfl (by omega) (zput_at _ _ _ _) ?_
      refine zk_iconst hC dX9_shifts_115 (v := nI 1) (by decide +kernel) ?_
      refine zs_zast hC dX9_shifts_116 (a := 248) (n := 32) rfl (by decide) (by decide) (j := nlf (mvC (bt y) X0 i).1 (mvC (bt y) X0 i).2.1) rfl hin.2 (Or.inr rfl) ?_
      refine zr_aload_n hC dX9_shifts_117 rfl ?_
      refine zr_aload_n hC dX9_shifts_118 rfl ?_
      refine zs_getr hC dX9_shifts_119 fl_X9_13 (a := 245) (r := 247) rfl (by decide) ?_
      refine zr_iload_n hC dX9_shifts_122 rfl ?_
      refine zv_iald hC dX9_shifts_123 (a := 247) (n := 16) rfl (by decide) (by decide) (j := i) rfl (by omega) ((congrFun (zput_ne _ _ (by decide)) _).trans (zput_at _ _ _ _)) ?_
      refine zs_callV hC (b := 245) [_] [] dX9_shifts_124 ml_X9_90 mtX9_marks tX9_marks (by decide) (by decide) (by decide) rfl rfl (by decide) (by decide +kernel) (Nat.le_of_ble_eq_true rfl) rfl ?_
      refine ⟨nlf (mvC (bt y) X0 i).1 (mvC (bt y) X0 i).2.1, fun v => (mvC (bt y) X0 i).2.2.testBit v || v == nlf (mvC (bt y) X0 i).1 (mvC (bt y) X0 i).2.1, rfl, hin.2, fun v hv => ?_, fun S1 hm1 hm2 => ?_⟩
      · by_cases q : v = nlf (mvC (bt y) X0 i).1 (mvC (bt y) X0 i).2.1
        · subst q; rw [zput_at]; simp [zb]
        · rw [zput_k _ _ q, zput_ne _ _ (by decide), hC1 v hv]
          show zb _ = zb (_ || v == nlf (mvC (bt y) X0 i).1 (mvC (bt y) X0 i).2.1)
          rw [beq_eq_false_iff_ne.mpr q, Bool.or_false]
      dsimp only [Option.toList, List.nil_append]
      refine zn_iinc hC dX9_shifts_127 rfl (by decide) (zk_inc _ 1) ?_
      refine zr_goto hC dX9_shifts_130 (tgt := 81) (by decide) ?_
      refine zR_sub [(0, .ref 245), (2, .int y), (3, .int (nI (i + 1)))] ⟨rfl, rfl, rfl, trivial⟩ (ih (i + 1) _ (by omega) ?_ ?_ ?_ (((hF.put (by decide) (by decide)).put (by decide) (by decide)).tr (hm2.up (by decide) (by decide))))
      · intro m hm
        simp only [mvC, stC, hx, if_true]
        rw [hm2.1 247 (by decide), zput_ne _ _ (by decide)]
        by_cases q : m = i
        · subst q; rw [zput_at, fup_at]
        · rw [zput_k _ _ q, fup_ne _ _ q]; exact hS m hm
      · intro v hv
        rw [hm1 v hv]
        simp only [mvC, stC, hx, if_true, Nat.testBit_or, pth_bit]
        congr 1
        rw [Bool.or_assoc]
        congr 1
        rw [show bnf 5 (nlf (mvC (bt y) X0 i).1 (mvC (bt y) X0 i).2.1) v = bn (nlf (mvC (bt y) X0 i).1 (mvC (bt y) X0 i).2.1) v from rfl, bn_half _ hin.2 v hv]
        by_cases q : v = nlf (mvC (bt y) X0 i).1 (mvC (bt y) X0 i).2.1
        · subst q; simp; left; omega
        · have q2 : ¬ nlf (mvC (bt y) X0 i).1 (mvC (bt y) X0 i).2.1 = v := fun z => q z.symm
          rw [beq_eq_false_iff_ne.mpr q, beq_eq_false_iff_ne.mpr q2]; rfl
      · exact (hFr.fr ((hm2.1 249 (by decide)).trans ((zput_ne _ _ (by decide)).trans (zput_ne _ _ (by decide)))))
    · dsimp only [Option.toList, List.cons_append, List.nil_append]
      refine zr_if_eq hC dX9_shifts_92 (tgt := 127) (by decide) (fun c_92 => ?_) (fun c => absurd c (by decide +kernel))
      refine zn_iinc hC dX9_shifts_127 rfl (by decide) (zk_inc _ 1) ?_
      refine zr_goto hC dX9_shifts_130 (tgt := 81) (by decide) ?_
      refine zR_sub [(0, .ref 245), (2, .int y), (3, .int (nI (i + 1)))] ⟨rfl, rfl, rfl, trivial⟩ (ih (i + 1) S (by omega) ?_ ?_ hFr hF)
      · simpa [mvC, stC, hx] using hS
      · simpa [mvC, stC, hx] using hC1
def spX9_shifts : zSp := fun av S Q => ∃ (x y : Int32) (lf : Nat → Nat), av = [.ref 245, .int x, .int y] ∧ SE S lf ∧ lfok lf ∧ lfin lf ∧ (∀ m, m < 16 → bt x m = true → 16 ≤ lf m) ∧ (∀ m, m < 16 → bt y m = true → lf m = 0) ∧ ∀ S', SE S' (mv lf (bt x) (bt y)).1 → CH S' (fun v => (mv lf (bt x) (bt y)).2.2.testBit v) → zfrm 247 250 S S' → Q none S'
set_option maxHeartbeats 4000000 in
set_option maxRecDepth 100000 in
theorem tX9_shifts : zM yX9_shifts cX9_shifts 4 none 3 spX9_shifts := by
  refine zM.of (by decide) (by decide) (fun av S Q h => by obtain ⟨x, y, lf, rfl, hS, hk, hi, hx16, hy0, hQ⟩ := h; exact Nat.le_of_ble_eq_true rfl) (fun C τ ι av S Q Qr h hr hC hE => ?_)
  obtain ⟨x, y, lf, rfl, hS, hk, hi, hx16, hy0, hQ⟩ := h
  show zR C τ ι _ 0 0 0 [(0, .ref 245), (1, .int x), (2, .int y)] [] _
  refine zk_iconst hC dX9_shifts_0 (v := nI 0) (by decide +kernel) ?_
  refine zr_istore_n hC dX9_shifts_1 (by decide) ?_
  refine zR_sub [(0, .ref 245), (1, .int x), (2, .int y), (3, .int (nI 0))] ⟨rfl, rfl, rfl, rfl, trivial⟩ (l9_shA (S0 := S) hC (fun S1 lv a1 a2 a3 a4 => ?_) 32 0 S (by omega) (fun v hv => absurd hv (Nat.not_lt_zero v)) zfrm.rf)
  obtain ⟨v0, v1, v2, -⟩ := a4
  refine zk_iconst hC dX9_shifts_28 (v := nI 0) (by decide +kernel) ?_
  refine zr_istore_n hC dX9_shifts_29 (by decide) ?_
  refine zR_sub [(0, .ref 245), (1, .int x), (2, .int y), (3, .int (nI 0))] ⟨zlk_set (show 0 ≠ 3 by decide) v0, zlk_set (show 1 ≠ 3 by decide) v1, zlk_set (show 2 ≠ 3 by decide) v2, rfl, trivial⟩ (l9_shB (S0 := S) hC hk (fun S2 lv b1 b2 b3 b4 b5 => ?_) 16 0 S1 (by omega) (hS.fr (a3.1 _ (by decide))) (fun v hv => (a1 v hv).trans (by simp [mvL])) a2 (a3.up (by decide) (by decide)))
  obtain ⟨w0, -, w2, -⟩ := b5
  refine zk_iconst hC dX9_shifts_79 (v := nI 0) (by decide +kernel) ?_
  refine zr_istore_n hC dX9_shifts_80 (by decide) ?_
  have hI0 := mvL_I (K := bt y) hk hi hx16
  refine zR_sub [(0, .ref 245), (2, .int y), (3, .int (nI 0))] ⟨zlk_set (show 0 ≠ 3 by decide) w0, zlk_set (show 2 ≠ 3 by decide) w2, rfl, trivial⟩ (l9_shC (S0 := S) (X0 := mvL (bt x) lf 16) hC hI0 (fun m hm q => ?_) (fun j q1 q2 q3 => (hI0.2.2.1 j q3).2) (fun S3 lv c1 c2 c3 => zr_vreturn hC hE dX9_shifts_133 (hr _ _ (hQ _ c1 c2 c3))) 16 0 S2 (by omega) b1 b2 b3 b4)
  rw [mvL_at, hy0 m hm q]
  split <;> rfl
set_option maxHeartbeats 4000000 in
set_option maxRecDepth 100000 in
theorem l9_letters {C : zCx} {τ : Nat → ClassId} {ι : Nat → Nat} (hC : zOK C τ (zrm 2 0 0) yX9_letters.cls cX9_letters 3) {S : zS} {lf : Nat → Nat} {c : Nat} (hS : SE S lf) (hlf : ∀ m, m < 16 → lf m < 32) (hC1 : CH S (fun v => c.testBit v)) (k : ∀ lv, zlk 1 lv = some (.int (nI (ltr lf c 15))) → zR C τ ι 3 0 0 61 lv [] (zcells S)) : ∀ (d i : Nat), i + d = 15 → zR C τ ι 3 0 0 4 [(0, .ref 245), (1, .int (nI (ltr lf c i))), (2, .int (nI (i + 1)))] [] (zcells S) := by
  intro d
  induction d with
  | zero =>
    intro i hi
    refine zr_iload_n hC dX9_letters_4 rfl ?_
    refine zk_bipush hC dX9_letters_5 (v := nI 16) (by decide +kernel) ?_
    refine zr_icmp_ge hC dX9_letters_7 (tgt := 61) (by decide) (fun c_7 => ?_) (fun c => absurd c (not_not_intro (nI_le (by omega) (by omega))))
    exact k _ (by obtain rfl : i = 15 := (by omega); rfl)
  | succ d ih =>
    intro i hi
    refine zr_iload_n hC dX9_letters_4 rfl ?_
    refine zk_bipush hC dX9_letters_5 (v := nI 16) (by decide +kernel) ?_
    refine zr_icmp_ge hC dX9_letters_7 (tgt := 61) (by decide) (fun c => absurd c (nI_ge (by omega) (by omega))) (fun c_7 => ?_)
    refine zr_aload_n hC dX9_letters_10 rfl ?_
    refine zs_getr hC dX9_letters_11 fl_X9_16 (a := 245) (r := 248) rfl (by decide) ?_
    refine zr_iload_n hC dX9_letters_14 rfl ?_
    refine zv_zald hC dX9_letters_15 (a := 248) (n := 32) rfl (by decide) (by decide) (j := i + 1) rfl (by omega) (hC1 (i + 1) (by omega)) ?_
    refine zr_if_eq hC dX9_letters_16 (tgt := 55) (by decide) (fun c_16 => ?_) (fun c_16 => ?_)
    · have hl : ltr lf c (i + 1) = ltr lf c i := by rw [ltr, if_neg (by rw [show c.testBit (i + 1) = false from (zb_eq0 _).mp c_16]; decide), Nat.add_zero]
      refine zn_iinc hC dX9_letters_55 rfl (by decide) (zk_inc _ 1) ?_
      refine zr_goto hC dX9_letters_58 (tgt := 4) (by decide) ?_
      exact zR_sub [(0, .ref 245), (1, .int (nI (ltr lf c (i + 1)))), (2, .int (nI (i + 1 + 1)))] ⟨rfl, zlk_eq rfl hl.symm, rfl, trivial⟩ (ih (i + 1) (by omega))
    · have hb : c.testBit (i + 1) = true := (zb_ne0 _).mp c_16
      refine zr_iload_n hC dX9_letters_19 rfl ?_
      refine zr_aload_n hC dX9_letters_20 rfl ?_
      refine zk_iconst hC dX9_letters_21 (v := nI 2) (by decide +kernel) ?_
      refine zr_iload_n hC dX9_letters_22 rfl ?_
      refine zn_imul hC dX9_letters_23 (pk_mul _ _) ?_
      refine zs_callV hC (b := 245) [_] [_] dX9_letters_24 ml_X9_87 mtX9_seated tX9_seated (by decide) (by decide) (by decide) rfl rfl (by decide) (by decide +kernel) (Nat.le_of_ble_eq_true rfl) rfl ?_
      refine ⟨2 * (i + 1), lf, rfl, by omega, hS, hlf, ?_⟩
      dsimp only [Option.toList, List.cons_append, List.nil_append]
      refine zr_if_le hC dX9_letters_27 (tgt := 34) (by decide) (fun c_27 => ?_) (fun c_27 => ?_)
      · have z1 : sm lf (2 * (i + 1)) = 0 := pcn_sm0.mp (by rcases Nat.eq_zero_or_pos (pcn 16 (sm lf (2 * (i + 1)))) with q | q; exact q; exact absurd c_27 (nI_nle q (Nat.lt_of_le_of_lt (pcn_le _ 16) (by decide))))
        refine zk_iconst hC dX9_letters_34 (v := nI 0) (by decide +kernel) ?_
        refine zr_aload_n hC dX9_letters_35 rfl ?_
        refine zk_iconst hC dX9_letters_36 (v := nI 2) (by decide +kernel) ?_
        refine zr_iload_n hC dX9_letters_37 rfl ?_
        refine zn_imul hC dX9_letters_38 (pk_mul _ _) ?_
        refine zk_iconst hC dX9_letters_39 (v := nI 1) (by decide +kernel) ?_
        refine zn_iadd hC dX9_letters_40 (nI_add _ _) ?_
        refine zs_callV hC (b := 245) [_] [_, _] dX9_letters_41 ml_X9_87 mtX9_seated tX9_seated (by decide) (by decide) (by decide) rfl rfl (by decide) (by decide +kernel) (Nat.le_of_ble_eq_true rfl) rfl ?_
        refine ⟨2 * (i + 1) + 1, lf, rfl, by omega, hS, hlf, ?_⟩
        dsimp only [Option.toList, List.cons_append, List.nil_append]
        refine zr_if_le hC dX9_letters_44 (tgt := 51) (by decide) (fun c_44 => ?_) (fun c_44 => ?_)
        · have z2 : sm lf (2 * (i + 1) + 1) = 0 := pcn_sm0.mp (by rcases Nat.eq_zero_or_pos (pcn 16 (sm lf (2 * (i + 1) + 1))) with q | q; exact q; exact absurd c_44 (nI_nle q (Nat.lt_of_le_of_lt (pcn_le _ 16) (by decide))))
          refine zk_iconst hC dX9_letters_51 (v := nI 0) (by decide +kernel) ?_
          refine zn_iadd hC dX9_letters_52 (v := nI 0) (by decide +kernel) ?_
          refine zn_iadd hC dX9_letters_53 (nI_add _ _) ?_
          have hl := (show ltr lf c (i + 1) = ltr lf c i + ((if sm lf (2 * (i + 1)) = 0 then 0 else 1) + (if sm lf (2 * (i + 1) + 1) = 0 then 0 else 1)) by rw [ltr, if_pos hb])
          simp only [z1, z2, if_true, if_false] at hl
          refine zr_istore_n hC dX9_letters_54 (by decide) ?_
          refine zn_iinc hC dX9_letters_55 rfl (by decide) (zk_inc _ 1) ?_
          refine zr_goto hC dX9_letters_58 (tgt := 4) (by decide) ?_
          exact zR_sub [(0, .ref 245), (1, .int (nI (ltr lf c (i + 1)))), (2, .int (nI (i + 1 + 1)))] ⟨rfl, zlk_eq rfl hl.symm, rfl, trivial⟩ (ih (i + 1) (by omega))
        · have z2 : sm lf (2 * (i + 1) + 1) ≠ 0 := fun q => c_44 (by rw [pcn_sm0.mpr q]; decide)
          refine zk_iconst hC dX9_letters_47 (v := nI 1) (by decide +kernel) ?_
          refine zr_goto hC dX9_letters_48 (tgt := 52) (by decide) ?_
          refine zn_iadd hC dX9_letters_52 (v := nI 1) (by decide +kernel) ?_
          refine zn_iadd hC dX9_letters_53 (nI_add _ _) ?_
          have hl := (show ltr lf c (i + 1) = ltr lf c i + ((if sm lf (2 * (i + 1)) = 0 then 0 else 1) + (if sm lf (2 * (i + 1) + 1) = 0 then 0 else 1)) by rw [ltr, if_pos hb])
          simp only [z1, z2, if_true, if_false] at hl
          refine zr_istore_n hC dX9_letters_54 (by decide) ?_
          refine zn_iinc hC dX9_letters_55 rfl (by decide) (zk_inc _ 1) ?_
          refine zr_goto hC dX9_letters_58 (tgt := 4) (by decide) ?_
          exact zR_sub [(0, .ref 245), (1, .int (nI (ltr lf c (i + 1)))), (2, .int (nI (i + 1 + 1)))] ⟨rfl, zlk_eq rfl hl.symm, rfl, trivial⟩ (ih (i + 1) (by omega))
      · have z1 : sm lf (2 * (i + 1)) ≠ 0 := fun q => c_27 (by rw [pcn_sm0.mpr q]; decide)
        refine zk_iconst hC dX9_letters_30 (v := nI 1) (by decide +kernel) ?_
        refine zr_goto hC dX9_letters_31 (tgt := 35) (by decide) ?_
        refine zr_aload_n hC dX9_letters_35 rfl ?_
        refine zk_iconst hC dX9_letters_36 (v := nI 2) (by decide +kernel) ?_
        refine zr_iload_n hC dX9_letters_37 rfl ?_
        refine zn_imul hC dX9_letters_38 (pk_mul _ _) ?_
        refine zk_iconst hC dX9_letters_39 (v := nI 1) (by decide +kernel) ?_
        refine zn_iadd hC dX9_letters_40 (nI_add _ _) ?_
        refine zs_callV hC (b := 245) [_] [_, _] dX9_letters_41 ml_X9_87 mtX9_seated tX9_seated (by decide) (by decide) (by decide) rfl rfl (by decide) (by decide +kernel) (Nat.le_of_ble_eq_true rfl) rfl ?_
        refine ⟨2 * (i + 1) + 1, lf, rfl, by omega, hS, hlf, ?_⟩
        dsimp only [Option.toList, List.cons_append, List.nil_append]
        refine zr_if_le hC dX9_letters_44 (tgt := 51) (by decide) (fun c_44 => ?_) (fun c_44 => ?_)
        · have z2 : sm lf (2 * (i + 1) + 1) = 0 := pcn_sm0.mp (by rcases Nat.eq_zero_or_pos (pcn 16 (sm lf (2 * (i + 1) + 1))) with q | q; exact q; exact absurd c_44 (nI_nle q (Nat.lt_of_le_of_lt (pcn_le _ 16) (by decide))))
          refine zk_iconst hC dX9_letters_51 (v := nI 0) (by decide +kernel) ?_
          refine zn_iadd hC dX9_letters_52 (v := nI 1) (by decide +kernel) ?_
          refine zn_iadd hC dX9_letters_53 (nI_add _ _) ?_
          have hl := (show ltr lf c (i + 1) = ltr lf c i + ((if sm lf (2 * (i + 1)) = 0 then 0 else 1) + (if sm lf (2 * (i + 1) + 1) = 0 then 0 else 1)) by rw [ltr, if_pos hb])
          simp only [z1, z2, if_true, if_false] at hl
          refine zr_istore_n hC dX9_letters_54 (by decide) ?_
          refine zn_iinc hC dX9_letters_55 rfl (by decide) (zk_inc _ 1) ?_
          refine zr_goto hC dX9_letters_58 (tgt := 4) (by decide) ?_
          exact zR_sub [(0, .ref 245), (1, .int (nI (ltr lf c (i + 1)))), (2, .int (nI (i + 1 + 1)))] ⟨rfl, zlk_eq rfl hl.symm, rfl, trivial⟩ (ih (i + 1) (by omega))
        · have z2 : sm lf (2 * (i + 1) + 1) ≠ 0 := fun q => c_44 (by rw [pcn_sm0.mpr q]; decide)
          refine zk_iconst hC dX9_letters_47 (v := nI 1) (by decide +kernel) ?_
          refine zr_goto hC dX9_letters_48 (tgt := 52) (by decide) ?_
          refine zn_iadd hC dX9_letters_52 (v := nI 2) (by decide +kernel) ?_
          refine zn_iadd hC dX9_letters_53 (nI_add _ _) ?_
          have hl := (show ltr lf c (i + 1) = ltr lf c i + ((if sm lf (2 * (i + 1)) = 0 then 0 else 1) + (if sm lf (2 * (i + 1) + 1) = 0 then 0 else 1)) by rw [ltr, if_pos hb])
          simp only [z1, z2, if_true, if_false] at hl
          refine zr_istore_n hC dX9_letters_54 (by decide) ?_
          refine zn_iinc hC dX9_letters_55 rfl (by decide) (zk_inc _ 1) ?_
          refine zr_goto hC dX9_letters_58 (tgt := 4) (by decide) ?_
          exact zR_sub [(0, .ref 245), (1, .int (nI (ltr lf c (i + 1)))), (2, .int (nI (i + 1 + 1)))] ⟨rfl, zlk_eq rfl hl.symm, rfl, trivial⟩ (ih (i + 1) (by omega))
def spX9_letters : zSp := fun av S Q => ∃ (lf : Nat → Nat) (c : Nat), av = [.ref 245] ∧ SE S lf ∧ (∀ m, m < 16 → lf m < 32) ∧ CH S (fun v => c.testBit v) ∧ Q (some (.int (nI (ltr lf c 15)))) S
set_option maxHeartbeats 4000000 in
set_option maxRecDepth 100000 in
theorem tX9_letters : zM yX9_letters cX9_letters 3 (some .int) 2 spX9_letters := by
  refine zM.of (by decide) (by decide) (fun av S Q h => by obtain ⟨lf, c, rfl, hS, hlf, hC1, hQ⟩ := h; exact Nat.le_of_ble_eq_true rfl) (fun C τ ι av S Q Qr h hr hC hE => ?_)
  obtain ⟨lf, c, rfl, hS, hlf, hC1, hQ⟩ := h
  show zR C τ ι _ 0 0 0 [(0, .ref 245)] [] _
  refine zk_iconst hC dX9_letters_0 (v := nI 0) (by decide +kernel) ?_
  refine zr_istore_n hC dX9_letters_1 (by decide) ?_
  refine zk_iconst hC dX9_letters_2 (v := nI 1) (by decide +kernel) ?_
  refine zr_istore_n hC dX9_letters_3 (by decide) ?_
  refine zR_sub [(0, .ref 245), (1, .int (nI (ltr lf c 0))), (2, .int (nI (0 + 1)))] ⟨rfl, rfl, rfl, trivial⟩ (l9_letters hC hS hlf hC1 (fun lv h => ?_) 15 0 (by omega))
  refine zr_iload_n hC dX9_letters_61 h ?_
  exact zr_ireturn hC hE dX9_letters_62 (hr _ _ hQ)
set_option maxHeartbeats 4000000 in
set_option maxRecDepth 100000 in
theorem l9_reads {C : zCx} {τ : Nat → ClassId} {ι : Nat → Nat} (hC : zOK C τ (zrm 2 0 0) yX9_reads.cls cX9_reads 4) {S0 : zS} {D : zD} {m i0 : Nat} (hok : RDok D) (hm : m < 16) (hi0 : i0 ≤ D 6 1) (k : ∀ S' lv, MW (S'.1 246) (rds m i0 D (D 6 1 - i0)).1 → zfrm 246 247 S0 S' → zsub lv [(0, .ref 245), (1, .int (nI m)), (2, .int (nI (rds m i0 D (D 6 1 - i0)).2))] → zR C τ ι 4 0 0 74 lv [] (zcells S')) : ∀ (d j : Nat) (S : zS), j + d = D 6 1 - i0 → MW (S.1 246) (rds m i0 D j).1 → zfrm 246 247 S0 S → zR C τ ι 4 0 0 9 [(0, .ref 245), (1, .int (nI m)), (2, .int (nI (rds m i0 D j).2)), (3, .int (nI (i0 + j)))] [] (zcells S) := by
  intro d
  induction d with
  | zero =>
    intro j S hj hM hF
    have e6 : (rds m i0 D j).1 6 = D 6 := rds_f (by decide) j
    have h60 := hM.made
    have h61 := hM.writ
    rw [e6] at h61
    have hw : S.1 246 1 = nI (D 6 1) := by have := hM.1.1.2.1; rwa [e6] at this
    have hR : RDok (rds m i0 D j).1 := hok.fs (fun f hf => rds_f hf j)
    refine zr_iload_n hC dX9_reads_9 rfl ?_
    refine zr_aload_n hC dX9_reads_10 rfl ?_
    refine zs_getr hC dX9_reads_11 fl_X9_7 (a := 245) (r := 246) rfl (by decide) ?_
    refine zk_iconst hC dX9_reads_14 (v := nI 1) (by decide +kernel) ?_
    refine zv_iald hC dX9_reads_15 (a := 246) (n := 752) rfl (by decide) (by decide) (j := 1) rfl (by decide) (hw) ?_
    refine zr_icmp_ge hC dX9_reads_16 (tgt := 74) (by decide) (fun c_16 => ?_) (fun c => absurd c (not_not_intro (nI_le (by omega) (by omega))))
    obtain rfl : j = D 6 1 - i0 := (by omega)
    exact k S _ hM hF ⟨rfl, rfl, rfl, trivial⟩
  | succ d ih =>
    intro j S hj hM hF
    have e6 : (rds m i0 D j).1 6 = D 6 := rds_f (by decide) j
    have h60 := hM.made
    have h61 := hM.writ
    rw [e6] at h61
    have hw : S.1 246 1 = nI (D 6 1) := by have := hM.1.1.2.1; rwa [e6] at this
    have hR : RDok (rds m i0 D j).1 := hok.fs (fun f hf => rds_f hf j)
    have hi1 : i0 + j < (rds m i0 D j).1 6 1 := by rw [e6]; omega
    have hin := hR.2.2.1 (i0 + j) hi1
    refine zr_iload_n hC dX9_reads_9 rfl ?_
    refine zr_aload_n hC dX9_reads_10 rfl ?_
    refine zs_getr hC dX9_reads_11 fl_X9_7 (a := 245) (r := 246) rfl (by decide) ?_
    refine zk_iconst hC dX9_reads_14 (v := nI 1) (by decide +kernel) ?_
    refine zv_iald hC dX9_reads_15 (a := 246) (n := 752) rfl (by decide) (by decide) (j := 1) rfl (by decide) (hw) ?_
    refine zr_icmp_ge hC dX9_reads_16 (tgt := 74) (by decide) (fun c => absurd c (nI_ge (by omega) (by omega))) (fun c_16 => ?_)
    refine zr_aload_n hC dX9_reads_19 rfl ?_
    refine zr_iload_n hC dX9_reads_20 rfl ?_
    refine zr_aload_n hC dX9_reads_21 rfl ?_
    refine zr_iload_n hC dX9_reads_22 rfl ?_
    refine zs_callV hC (b := 245) [_] [_, _] dX9_reads_23 ml_X9_114 mtX9_underOf tX9_underOf (by decide) (by decide) (by decide) rfl rfl (by decide) (by decide +kernel) (Nat.le_of_ble_eq_true rfl) rfl ?_
    refine ⟨i0 + j, _, rfl, hi1, hM, ?_⟩
    dsimp only [Option.toList, List.cons_append, List.nil_append]
    refine zs_callV hC (b := 245) [_, _] [] dX9_reads_26 ml_X9_117 mtX9_holds tX9_holds (by decide) (by decide) (by decide) rfl rfl (by decide) (by decide +kernel) (Nat.le_of_ble_eq_true rfl) rfl ?_
    refine ⟨m, _, _, rfl, hm, hin.2, hM, fun r e => ?_⟩
    rcases e with ⟨rfl, hx⟩ | ⟨rfl, hx⟩
    · dsimp only [Option.toList, List.cons_append, List.nil_append]
      refine zr_if_eq hC dX9_reads_29 (tgt := 68) (by decide) (fun c => absurd c (by decide +kernel)) (fun c_29 => ?_)
      refine zr_aload_n hC dX9_reads_32 rfl ?_
      refine zr_iload_n hC dX9_reads_33 rfl ?_
      refine zr_aload_n hC dX9_reads_34 rfl ?_
      refine zr_iload_n hC dX9_reads_35 rfl ?_
      refine zs_callV hC (b := 245) [_] [_, _] dX9_reads_36 ml_X9_120 mtX9_inOf tX9_inOf (by decide) (by decide) (by decide) rfl rfl (by decide) (by decide +kernel) (Nat.le_of_ble_eq_true rfl) rfl ?_
      refine ⟨i0 + j, _, rfl, hi1, hM, ?_⟩
      dsimp only [Option.toList, List.cons_append, List.nil_append]
      refine zs_callV hC (b := 245) [_, _] [] dX9_reads_39 ml_X9_117 mtX9_holds tX9_holds (by decide) (by decide) (by decide) rfl rfl (by decide) (by decide +kernel) (Nat.le_of_ble_eq_true rfl) rfl ?_
      refine ⟨m, _, _, rfl, hm, hin.1, hM, fun r e => ?_⟩
      rcases e with ⟨rfl, hy⟩ | ⟨rfl, hy⟩
      · dsimp only [Option.toList, List.cons_append, List.nil_append]
        refine zr_if_ne hC dX9_reads_42 (tgt := 68) (by decide) (fun c_42 => ?_) (fun c => absurd c (by decide +kernel))
        refine zn_iinc hC dX9_reads_68 rfl (by decide) (zk_inc _ 1) ?_
        refine zr_goto hC dX9_reads_71 (tgt := 9) (by decide) ?_
        first | exact zR_sub [(0, .ref 245), (1, .int (nI m)), (2, .int (nI (rds m i0 D (j + 1)).2)), (3, .int (nI (i0 + (j + 1))))] ⟨rfl, rfl, by rw [rds_no1 hx]; rfl, rfl, trivial⟩ (ih (j + 1) _ (by omega) (by rw [rds_no1 hx]; exact hM) hF) | exact zR_sub [(0, .ref 245), (1, .int (nI m)), (2, .int (nI (rds m i0 D (j + 1)).2)), (3, .int (nI (i0 + (j + 1))))] ⟨rfl, rfl, by rw [rds_no2 hy]; rfl, rfl, trivial⟩ (ih (j + 1) _ (by omega) (by rw [rds_no2 hy]; exact hM) hF) | exact zR_sub [(0, .ref 245), (1, .int (nI m)), (2, .int (nI (rds m i0 D (j + 1)).2)), (3, .int (nI (i0 + (j + 1))))] ⟨rfl, rfl, by rw [rds_yes hx hy]; rfl, rfl, trivial⟩ (ih (j + 1) _ (by omega) (by rw [rds_yes hx hy, zput_arr]; exact hM.h9 hin.1) (hF.put (by decide) (by decide)))
      · dsimp only [Option.toList, List.cons_append, List.nil_append]
        refine zr_if_ne hC dX9_reads_42 (tgt := 68) (by decide) (fun c => absurd c (by decide +kernel)) (fun c_42 => ?_)
        refine zr_aload_n hC dX9_reads_45 rfl ?_
        refine zs_getr hC dX9_reads_46 fl_X9_7 (a := 245) (r := 246) rfl (by decide) ?_
        refine zk_sipush hC dX9_reads_49 (v := nI 330) (by decide +kernel) ?_
        refine zr_aload_n hC dX9_reads_52 rfl ?_
        refine zr_iload_n hC dX9_reads_53 rfl ?_
        refine zs_callV hC (b := 245) [_] [_, _] dX9_reads_54 ml_X9_120 mtX9_inOf tX9_inOf (by decide) (by decide) (by decide) rfl rfl (by decide) (by decide +kernel) (Nat.le_of_ble_eq_true rfl) rfl ?_
        refine ⟨i0 + j, _, rfl, hi1, hM, ?_⟩
        dsimp only [Option.toList, List.cons_append, List.nil_append]
        refine zn_iadd hC dX9_reads_57 (nI_add _ _) ?_
        refine zr_dup2 hC dX9_reads_58 rfl rfl ?_
        refine zv_iald hC dX9_reads_59 (a := 246) (n := 752) rfl (by decide) (by decide) (j := 330 + (rds m i0 D j).1 10 (i0 + j)) rfl (by omega) (hM.hold hin.1) ?_
        refine zk_iconst hC dX9_reads_60 (v := nI 1) (by decide +kernel) ?_
        refine zr_iload_n hC dX9_reads_61 rfl ?_
        refine zn_ishl hC dX9_reads_62 (z_shl1 m (by omega)) ?_
        refine zn_ior hC dX9_reads_63 (fa_or _ _) ?_
        refine zs_iast hC dX9_reads_64 (a := 246) (n := 752) rfl (by decide) (by decide) (j := 330 + (rds m i0 D j).1 10 (i0 + j)) rfl (by omega) ?_
        refine zn_iinc hC dX9_reads_65 rfl (by decide) (zk_inc _ 1) ?_
        refine zn_iinc hC dX9_reads_68 rfl (by decide) (zk_inc _ 1) ?_
        refine zr_goto hC dX9_reads_71 (tgt := 9) (by decide) ?_
        first | exact zR_sub [(0, .ref 245), (1, .int (nI m)), (2, .int (nI (rds m i0 D (j + 1)).2)), (3, .int (nI (i0 + (j + 1))))] ⟨rfl, rfl, by rw [rds_no1 hx]; rfl, rfl, trivial⟩ (ih (j + 1) _ (by omega) (by rw [rds_no1 hx]; exact hM) hF) | exact zR_sub [(0, .ref 245), (1, .int (nI m)), (2, .int (nI (rds m i0 D (j + 1)).2)), (3, .int (nI (i0 + (j + 1))))] ⟨rfl, rfl, by rw [rds_no2 hy]; rfl, rfl, trivial⟩ (ih (j + 1) _ (by omega) (by rw [rds_no2 hy]; exact hM) hF) | exact zR_sub [(0, .ref 245), (1, .int (nI m)), (2, .int (nI (rds m i0 D (j + 1)).2)), (3, .int (nI (i0 + (j + 1))))] ⟨rfl, rfl, by rw [rds_yes hx hy]; rfl, rfl, trivial⟩ (ih (j + 1) _ (by omega) (by rw [rds_yes hx hy, zput_arr]; exact hM.h9 hin.1) (hF.put (by decide) (by decide)))
    · dsimp only [Option.toList, List.cons_append, List.nil_append]
      refine zr_if_eq hC dX9_reads_29 (tgt := 68) (by decide) (fun c_29 => ?_) (fun c => absurd c (by decide +kernel))
      refine zn_iinc hC dX9_reads_68 rfl (by decide) (zk_inc _ 1) ?_
      refine zr_goto hC dX9_reads_71 (tgt := 9) (by decide) ?_
      first | exact zR_sub [(0, .ref 245), (1, .int (nI m)), (2, .int (nI (rds m i0 D (j + 1)).2)), (3, .int (nI (i0 + (j + 1))))] ⟨rfl, rfl, by rw [rds_no1 hx]; rfl, rfl, trivial⟩ (ih (j + 1) _ (by omega) (by rw [rds_no1 hx]; exact hM) hF) | exact zR_sub [(0, .ref 245), (1, .int (nI m)), (2, .int (nI (rds m i0 D (j + 1)).2)), (3, .int (nI (i0 + (j + 1))))] ⟨rfl, rfl, by rw [rds_no2 hy]; rfl, rfl, trivial⟩ (ih (j + 1) _ (by omega) (by rw [rds_no2 hy]; exact hM) hF) | exact zR_sub [(0, .ref 245), (1, .int (nI m)), (2, .int (nI (rds m i0 D (j + 1)).2)), (3, .int (nI (i0 + (j + 1))))] ⟨rfl, rfl, by rw [rds_yes hx hy]; rfl, rfl, trivial⟩ (ih (j + 1) _ (by omega) (by rw [rds_yes hx hy, zput_arr]; exact hM.h9 hin.1) (hF.put (by decide) (by decide)))
def spX9_reads : zSp := fun av S Q => ∃ (m : Nat) (D : zD), av = [.ref 245, .int (nI m)] ∧ m < 16 ∧ MW (S.1 246) D ∧ RDok D ∧ D 3 m ≤ D 6 1 ∧ ∀ S', MW (S'.1 246) (rdm m D) → zfrm 246 247 S S' → Q (some (.int (nI (rds m (D 3 m) D (D 6 1 - D 3 m)).2))) S'
set_option maxHeartbeats 4000000 in
set_option maxRecDepth 100000 in
theorem tX9_reads : zM yX9_reads cX9_reads 4 (some .int) 2 spX9_reads := by
  refine zM.of (by decide) (by decide) (fun av S Q h => by obtain ⟨m, D, rfl, hm, hM, hok, h3m, hQ⟩ := h; exact Nat.le_of_ble_eq_true rfl) (fun C τ ι av S Q Qr h hr hC hE => ?_)
  obtain ⟨m, D, rfl, hm, hM, hok, h3m, hQ⟩ := h
  show zR C τ ι _ 0 0 0 [(0, .ref 245), (1, .int (nI m))] [] _
  refine zk_iconst hC dX9_reads_0 (v := nI 0) (by decide +kernel) ?_
  refine zr_istore_n hC dX9_reads_1 (by decide) ?_
  refine zr_aload_n hC dX9_reads_2 rfl ?_
  refine zr_iload_n hC dX9_reads_3 rfl ?_
  refine zk_iconst hC dX9_reads_4 (v := nI 2) (by decide +kernel) ?_
  refine zs_callV hC (b := 245) [_, _] [] dX9_reads_5 ml_X9_64 mtX9_of tX9_of (by decide) (by decide) (by decide) rfl rfl (by decide) (by decide +kernel) (Nat.le_of_ble_eq_true rfl) rfl ?_
  refine ⟨m, 2, rfl, hm, by decide, ?_⟩
  rw [show S.1 246 (4 + 6 * m + 2) = nI (D 3 m) from hM.mem hm (by decide)]
  dsimp only [Option.toList, List.cons_append, List.nil_append]
  refine zr_istore_n hC dX9_reads_8 (by decide) ?_
  refine zR_sub [(0, .ref 245), (1, .int (nI m)), (2, .int (nI (rds m (D 3 m) D 0).2)), (3, .int (nI (D 3 m + 0)))] ⟨rfl, rfl, rfl, rfl, trivial⟩ (l9_reads (S0 := S) hC hok hm h3m (fun S1 lv h1 h2 h3 => ?_) (D 6 1 - D 3 m) 0 S (by omega) hM zfrm.rf)
  have hw : S1.1 246 1 = nI (D 6 1) := by have := h1.1.1.2.1; rwa [rds_f (by decide)] at this
  refine zR_sub [(0, .ref 245), (1, .int (nI m)), (2, .int (nI (rds m (D 3 m) D (D 6 1 - D 3 m)).2))] h3 ?_
  refine zr_aload_n hC dX9_reads_74 rfl ?_
  refine zr_iload_n hC dX9_reads_75 rfl ?_
  refine zk_iconst hC dX9_reads_76 (v := nI 2) (by decide +kernel) ?_
  refine zr_aload_n hC dX9_reads_77 rfl ?_
  refine zs_getr hC dX9_reads_78 fl_X9_7 (a := 245) (r := 246) rfl (by decide) ?_
  refine zk_iconst hC dX9_reads_81 (v := nI 1) (by decide +kernel) ?_
  refine zv_iald hC dX9_reads_82 (a := 246) (n := 752) rfl (by decide) (by decide) (j := 1) rfl (by decide) (hw) ?_
  refine zs_callV hC (b := 245) [_, _, _] [] dX9_reads_83 ml_X9_104 mtX9_put tX9_put (by decide) (by decide) (by decide) rfl rfl (by decide) (by decide +kernel) (Nat.le_of_ble_eq_true rfl) rfl ?_
  refine ⟨m, 2, _, rfl, hm, by decide, ?_⟩
  dsimp only [Option.toList, List.nil_append]
  refine zr_iload_n hC dX9_reads_86 rfl ?_
  exact zr_ireturn hC hE dX9_reads_87 (hr _ _ (hQ _ (by rw [zput_arr]; exact h1.put (w := 2) hm (by decide) ⟨fun q => absurd q (by decide), fun q => absurd q (by decide), fun q => absurd q (by decide)⟩) (h2.put (by decide) (by decide))))
set_option maxHeartbeats 4000000 in
set_option maxRecDepth 100000 in
theorem l9_readAll {C : zCx} {τ : Nat → ClassId} {ι : Nat → Nat} (hC : zOK C τ (zrm 3 0 0) yX9_readAll.cls cX9_readAll 2) {S0 : zS} {D : zD} (hok : RDok D) (k : ∀ S' lv, MW (S'.1 246) (rda D 16) → zfrm 246 247 S0 S' → zR C τ ι 2 0 0 37 lv [] (zcells S')) : ∀ (d i : Nat) (S : zS), i + d = 16 → MW (S.1 246) (rda D i) → zfrm 246 247 S0 S → zR C τ ι 2 0 0 2 [(0, .ref 245), (1, .int (nI i))] [] (zcells S) := by
  intro d
  induction d with
  | zero =>
    intro i S hi hM hF
    refine zr_iload_n hC dX9_readAll_2 rfl ?_
    refine zk_bipush hC dX9_readAll_3 (v := nI 16) (by decide +kernel) ?_
    refine zr_icmp_ge hC dX9_readAll_5 (tgt := 37) (by decide) (fun c_5 => ?_) (fun c => absurd c (not_not_intro (nI_le (by omega) (by omega))))
    obtain rfl : i = 16 := (by omega)
    exact k S _ hM hF
  | succ d ih =>
    intro i S hi hM hF
    have hR := rda_RD hok i
    refine zr_iload_n hC dX9_readAll_2 rfl ?_
    refine zk_bipush hC dX9_readAll_3 (v := nI 16) (by decide +kernel) ?_
    refine zr_icmp_ge hC dX9_readAll_5 (tgt := 37) (by decide) (fun c => absurd c (nI_ge (by omega) (by omega))) (fun c_5 => ?_)
    refine zr_aload_n hC dX9_readAll_8 rfl ?_
    refine zr_iload_n hC dX9_readAll_9 rfl ?_
    refine zs_callV hC (b := 245) [_] [] dX9_readAll_10 ml_X9_68 mtX9_sits tX9_sits (by decide) (by decide) (by decide) rfl rfl (by decide) (by decide +kernel) (Nat.le_of_ble_eq_true rfl) rfl ?_
    refine ⟨i, _, rfl, by omega, hM, fun r e => ?_⟩
    rcases e with ⟨rfl, hx⟩ | ⟨rfl, hx⟩
    · dsimp only [Option.toList, List.cons_append, List.nil_append]
      refine zr_if_eq hC dX9_readAll_13 (tgt := 31) (by decide) (fun c => absurd c (by decide +kernel)) (fun c_13 => ?_)
      refine zr_aload_n hC dX9_readAll_16 rfl ?_
      refine zr_iload_n hC dX9_readAll_17 rfl ?_
      refine zk_iconst hC dX9_readAll_18 (v := nI 1) (by decide +kernel) ?_
      refine zs_callV hC (b := 245) [_, _] [] dX9_readAll_19 ml_X9_64 mtX9_of tX9_of (by decide) (by decide) (by decide) rfl rfl (by decide) (by decide +kernel) (Nat.le_of_ble_eq_true rfl) rfl ?_
      refine ⟨i, 1, rfl, by omega, by decide, ?_⟩
      rw [show S.1 246 (4 + 6 * i + 1) = nI (rda D i 2 i) from hM.mem (show i < 16 by omega) (by decide)]
      dsimp only [Option.toList, List.cons_append, List.nil_append]
      refine zr_if_ne hC dX9_readAll_22 (tgt := 31) (by decide) (fun c_22 => ?_) (fun c_22 => ?_)
      · have hno : ¬ (rda D i 0 i ≠ 0 ∧ rda D i 2 i = 0) := fun q => c_22 (by rw [q.2]; rfl)
        refine zn_iinc hC dX9_readAll_31 rfl (by decide) (zk_inc _ 1) ?_
        refine zr_goto hC dX9_readAll_34 (tgt := 2) (by decide) ?_
        first | exact zR_sub [(0, .ref 245), (1, .int (nI (i + 1)))] ⟨rfl, rfl, trivial⟩ (ih (i + 1) _ (by omega) (by rw [rda, if_pos ⟨hx, hz⟩]; exact h1) (hF.tr h2)) | exact zR_sub [(0, .ref 245), (1, .int (nI (i + 1)))] ⟨rfl, rfl, trivial⟩ (ih (i + 1) _ (by omega) (by rw [rda, if_neg hno]; exact hM) hF)
      · have hz : rda D i 2 i = 0 := (z_ne0 (by have := hM.lt2 (show i < 16 by omega); omega)).mp c_22
        refine zr_aload_n hC dX9_readAll_25 rfl ?_
        refine zr_iload_n hC dX9_readAll_26 rfl ?_
        refine zs_callV hC (b := 245) [_] [] dX9_readAll_27 ml_X9_123 mtX9_reads tX9_reads (by decide) (by decide) (by decide) rfl rfl (by decide) (by decide +kernel) (Nat.le_of_ble_eq_true rfl) rfl ?_
        refine ⟨i, _, rfl, by omega, hM, hR, hR.2.2.2.2 i (by omega) hx, fun S1 h1 h2 => ?_⟩
        dsimp only [Option.toList, List.cons_append, List.nil_append]
        refine zr_pop hC dX9_readAll_30 rfl ?_
        refine zn_iinc hC dX9_readAll_31 rfl (by decide) (zk_inc _ 1) ?_
        refine zr_goto hC dX9_readAll_34 (tgt := 2) (by decide) ?_
        first | exact zR_sub [(0, .ref 245), (1, .int (nI (i + 1)))] ⟨rfl, rfl, trivial⟩ (ih (i + 1) _ (by omega) (by rw [rda, if_pos ⟨hx, hz⟩]; exact h1) (hF.tr h2)) | exact zR_sub [(0, .ref 245), (1, .int (nI (i + 1)))] ⟨rfl, rfl, trivial⟩ (ih (i + 1) _ (by omega) (by rw [rda, if_neg hno]; exact hM) hF)
    · have hno : ¬ (rda D i 0 i ≠ 0 ∧ rda D i 2 i = 0) := fun q => q.1 hx
      dsimp only [Option.toList, List.cons_append, List.nil_append]
      refine zr_if_eq hC dX9_readAll_13 (tgt := 31) (by decide) (fun c_13 => ?_) (fun c => absurd c (by decide +kernel))
      refine zn_iinc hC dX9_readAll_31 rfl (by decide) (zk_inc _ 1) ?_
      refine zr_goto hC dX9_readAll_34 (tgt := 2) (by decide) ?_
      first | exact zR_sub [(0, .ref 245), (1, .int (nI (i + 1)))] ⟨rfl, rfl, trivial⟩ (ih (i + 1) _ (by omega) (by rw [rda, if_pos ⟨hx, hz⟩]; exact h1) (hF.tr h2)) | exact zR_sub [(0, .ref 245), (1, .int (nI (i + 1)))] ⟨rfl, rfl, trivial⟩ (ih (i + 1) _ (by omega) (by rw [rda, if_neg hno]; exact hM) hF)
def spX9_readAll : zSp := fun av S Q => ∃ D : zD, av = [.ref 245] ∧ MW (S.1 246) D ∧ RDok D ∧ ∀ S', MW (S'.1 246) (rda D 16) → zfrm 246 247 S S' → Q none S'
set_option maxHeartbeats 4000000 in
set_option maxRecDepth 100000 in
theorem tX9_readAll : zM yX9_readAll cX9_readAll 2 none 3 spX9_readAll := by
  refine zM.of (by decide) (by decide) (fun av S Q h => by obtain ⟨D, rfl, hM, hok, hQ⟩ := h; exact Nat.le_of_ble_eq_true rfl) (fun C τ ι av S Q Qr h hr hC hE => ?_)
  obtain ⟨D, rfl, hM, hok, hQ⟩ := h
  show zR C τ ι _ 0 0 0 [(0, .ref 245)] [] _
  refine zk_iconst hC dX9_readAll_0 (v := nI 0) (by decide +kernel) ?_
  refine zr_istore_n hC dX9_readAll_1 (by decide) ?_
  exact zR_sub [(0, .ref 245), (1, .int (nI 0))] ⟨rfl, rfl, trivial⟩ (l9_readAll (S0 := S) hC hok (fun S1 lv h1 h2 => zr_vreturn hC hE dX9_readAll_37 (hr _ _ (hQ _ h1 h2))) 16 0 S (by omega) hM zfrm.rf)
def spX9_refusal : zSp := fun av S Q => ∃ D : zD, av = [.ref 245] ∧ MW (S.1 246) D ∧ Q (some (.int (brf D))) S
set_option maxHeartbeats 4000000 in
set_option maxRecDepth 100000 in
theorem tX9_refusal : zM yX9_refusal cX9_refusal 1 (some .int) 3 spX9_refusal := by
  refine zM.of (by decide) (by decide) (fun av S Q h => by obtain ⟨D, rfl, hM, hQ⟩ := h; exact Nat.le_of_ble_eq_true rfl) (fun C τ ι av S Q Qr h hr hC hE => ?_)
  obtain ⟨D, rfl, hM, hQ⟩ := h
  show zR C τ ι _ 0 0 0 [(0, .ref 245)] [] _
  refine zr_aload_n hC dX9_refusal_0 rfl ?_
  refine zk_iconst hC dX9_refusal_1 (v := nI 3) (by decide +kernel) ?_
  refine zk_iconst hC dX9_refusal_2 (v := nI 1) (by decide +kernel) ?_
  refine zs_callV hC (b := 245) [_, _] [] dX9_refusal_3 ml_X9_108 mtX9_those tX9_those (by decide) (by decide) (by decide) rfl rfl (by decide) (by decide +kernel) (Nat.le_of_ble_eq_true rfl) rfl ?_
  refine ⟨3, 1, D, rfl, Or.inr (Or.inr rfl), by decide, hM, ?_⟩
  show zR C τ ι _ 0 0 _ _ _ _
  dsimp only [Option.toList, List.cons_append, List.nil_append]
  refine zr_if_ne hC dX9_refusal_6 (tgt := 23) (by decide) (fun c_6 => ?_) (fun c_6 => ?_)
  · have c_6 : cms D ≠ 0 := fun q => c_6 (by show nI (cms D) = 0; rw [q]; rfl)
    refine zr_aload_n hC dX9_refusal_23 rfl ?_
    refine zs_callV hC (b := 245) [] [] dX9_refusal_24 ml_X9_126 mtX9_isFull tX9_isFull (by decide) (by decide) (by decide) rfl rfl (by decide) (by decide +kernel) (Nat.le_of_ble_eq_true rfl) rfl ?_
    refine ⟨D, rfl, hM, fun r e => ?_⟩
    rcases e with ⟨rfl, hx⟩ | ⟨rfl, hx⟩
    · have hf : ful D = -3 := if_pos hx
      dsimp only [Option.toList, List.cons_append, List.nil_append]
      refine zr_if_eq hC dX9_refusal_27 (tgt := 35) (by decide) (fun c => absurd c (by decide +kernel)) (fun c_27 => ?_)
      refine zk_bipush hC dX9_refusal_30 (v := (-3)) (by decide +kernel) ?_
      refine zr_goto hC dX9_refusal_32 (tgt := 36) (by decide) ?_
      exact zr_ireturn hC hE dX9_refusal_36 (hr _ _ (by first | (rw [show brf D = -2 from if_pos ⟨c_6, c_15⟩] at hQ; exact hQ) | (rw [show brf D = ful D from if_neg (fun q => c_6 q.1), hf] at hQ; exact hQ) | (rw [show brf D = ful D from if_neg (fun q => c_15 q.2), hf] at hQ; exact hQ)))
    · have hf : ful D = nI 0 := if_neg hx
      dsimp only [Option.toList, List.cons_append, List.nil_append]
      refine zr_if_eq hC dX9_refusal_27 (tgt := 35) (by decide) (fun c_27 => ?_) (fun c => absurd c (by decide +kernel))
      refine zk_iconst hC dX9_refusal_35 (v := nI 0) (by decide +kernel) ?_
      exact zr_ireturn hC hE dX9_refusal_36 (hr _ _ (by first | (rw [show brf D = -2 from if_pos ⟨c_6, c_15⟩] at hQ; exact hQ) | (rw [show brf D = ful D from if_neg (fun q => c_6 q.1), hf] at hQ; exact hQ) | (rw [show brf D = ful D from if_neg (fun q => c_15 q.2), hf] at hQ; exact hQ)))
  · have c_6 : cms D = 0 := (z_ne0 (Nat.lt_trans (dm_lt _) (by decide))).mp c_6
    refine zr_aload_n hC dX9_refusal_9 rfl ?_
    refine zk_iconst hC dX9_refusal_10 (v := nI 3) (by decide +kernel) ?_
    refine zk_iconst hC dX9_refusal_11 (v := nI 2) (by decide +kernel) ?_
    refine zs_callV hC (b := 245) [_, _] [] dX9_refusal_12 ml_X9_108 mtX9_those tX9_those (by decide) (by decide) (by decide) rfl rfl (by decide) (by decide +kernel) (Nat.le_of_ble_eq_true rfl) rfl ?_
    refine ⟨3, 2, D, rfl, Or.inr (Or.inr rfl), by decide, hM, ?_⟩
    dsimp only [Option.toList, List.cons_append, List.nil_append]
    refine zr_if_ne hC dX9_refusal_15 (tgt := 23) (by decide) (fun c_15 => ?_) (fun c_15 => ?_)
    · have c_15 : lvs D ≠ 0 := fun q => c_15 (by show nI (lvs D) = 0; rw [q]; rfl)
      refine zr_aload_n hC dX9_refusal_23 rfl ?_
      refine zs_callV hC (b := 245) [] [] dX9_refusal_24 ml_X9_126 mtX9_isFull tX9_isFull (by decide) (by decide) (by decide) rfl rfl (by decide) (by decide +kernel) (Nat.le_of_ble_eq_true rfl) rfl ?_
      refine ⟨D, rfl, hM, fun r e => ?_⟩
      rcases e with ⟨rfl, hx⟩ | ⟨rfl, hx⟩
      · have hf : ful D = -3 := if_pos hx
        dsimp only [Option.toList, List.cons_append, List.nil_append]
        refine zr_if_eq hC dX9_refusal_27 (tgt := 35) (by decide) (fun c => absurd c (by decide +kernel)) (fun c_27 => ?_)
        refine zk_bipush hC dX9_refusal_30 (v := (-3)) (by decide +kernel) ?_
        refine zr_goto hC dX9_refusal_32 (tgt := 36) (by decide) ?_
        exact zr_ireturn hC hE dX9_refusal_36 (hr _ _ (by first | (rw [show brf D = -2 from if_pos ⟨c_6, c_15⟩] at hQ; exact hQ) | (rw [show brf D = ful D from if_neg (fun q => c_6 q.1), hf] at hQ; exact hQ) | (rw [show brf D = ful D from if_neg (fun q => c_15 q.2), hf] at hQ; exact hQ)))
      · have hf : ful D = nI 0 := if_neg hx
        dsimp only [Option.toList, List.cons_append, List.nil_append]
        refine zr_if_eq hC dX9_refusal_27 (tgt := 35) (by decide) (fun c_27 => ?_) (fun c => absurd c (by decide +kernel))
        refine zk_iconst hC dX9_refusal_35 (v := nI 0) (by decide +kernel) ?_
        exact zr_ireturn hC hE dX9_refusal_36 (hr _ _ (by first | (rw [show brf D = -2 from if_pos ⟨c_6, c_15⟩] at hQ; exact hQ) | (rw [show brf D = ful D from if_neg (fun q => c_6 q.1), hf] at hQ; exact hQ) | (rw [show brf D = ful D from if_neg (fun q => c_15 q.2), hf] at hQ; exact hQ)))
    · have c_15 : lvs D = 0 := (z_ne0 (Nat.lt_trans (dm_lt _) (by decide))).mp c_15
      refine zk_bipush hC dX9_refusal_18 (v := (-2)) (by decide +kernel) ?_
      refine zr_goto hC dX9_refusal_20 (tgt := 36) (by decide) ?_
      exact zr_ireturn hC hE dX9_refusal_36 (hr _ _ (by first | (rw [show brf D = -2 from if_pos ⟨c_6, c_15⟩] at hQ; exact hQ) | (rw [show brf D = ful D from if_neg (fun q => c_6 q.1), hf] at hQ; exact hQ) | (rw [show brf D = ful D from if_neg (fun q => c_15 q.2), hf] at hQ; exact hQ)))
