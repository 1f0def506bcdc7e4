theorem mvL_out (P : Nat → Bool) (lf : Nat → Nat) {j : Nat} : ∀ n, n ≤ j → (mvL P lf n).1 j = lf j
  | 0, _ => rfl
  | n + 1, h => by
    unfold mvL stL
    split
    · show fup _ n 0 j = _
      rw [fup_ne _ _ (by omega)]
      exact mvL_out P lf n (by omega)
    · exact mvL_out P lf n (by omega)
theorem mvL_fr (P : Nat → Bool) (lf : Nat → Nat) (h : ∀ m, m < 16 → P m = true → 16 ≤ lf m) : ∀ n, n ≤ 16 → ∀ j, (mvL P lf n).2.1 j = true → 16 ≤ j
  | 0, _, j, hj => by cases hj
  | n + 1, hn, j, hj => by
    unfold mvL stL at hj
    split at hj
    next hp =>
      simp only [Bool.or_eq_true, beq_iff_eq] at hj
      rcases hj with hj | hj
      · exact mvL_fr P lf h n (by omega) j hj
      · rw [hj, mvL_out P lf n (by omega)]
        exact h n (by omega) hp
    next => exact mvL_fr P lf h n (by omega) j hj
theorem mvC_out (P : Nat → Bool) (x : zM3) {j : Nat} : ∀ n, n ≤ j → (mvC P x n).1 j = x.1 j
  | 0, _ => rfl
  | n + 1, h => by
    unfold mvC stC
    split
    · show fup _ n _ j = _
      rw [fup_ne _ _ (by omega)]
      exact mvC_out P x n (by omega)
    · exact mvC_out P x n (by omega)
theorem mvC_fr (P : Nat → Bool) (x : zM3) (h : ∀ j, x.2.1 j = true → 16 ≤ j) : ∀ n j, (mvC P x n).2.1 j = true → 16 ≤ j
  | 0, j, hj => h j hj
  | n + 1, j, hj => by
    unfold mvC stC at hj
    split at hj
    next hp =>
      simp only [Bool.and_eq_true] at hj
      exact mvC_fr P x h n j hj.1
    next => exact mvC_fr P x h n j hj
theorem mvL_0 (P : Nat → Bool) (lf : Nat → Nat) {j : Nat} : ∀ n, j < n → (mvL P lf n).1 j = if P j then 0 else lf j
  | 0, h => by omega
  | n + 1, h => by
    unfold mvL stL
    by_cases hj : j = n
    · subst hj
      split
      next hp => show fup _ j 0 j = _; rw [fup_at]
      next hp => exact mvL_out P lf j (Nat.le_refl _)
    · split
      next hp =>
        show fup _ n 0 j = _
        rw [fup_ne _ _ hj]
        exact mvL_0 P lf n (by omega)
      next hp => exact mvL_0 P lf n (by omega)
set_option maxHeartbeats 4000000 in
set_option maxRecDepth 100000 in
theorem l5_mvL_2 {C : zCx} {τ : Nat → ClassId} {ι : Nat → Nat} (hC : zOK C τ (zrm 2 0 0) yX5_move.cls cX5_move 7) {x y : Int32} {lf : Nat → Nat} (hx16 : ∀ m, m < 16 → bt x m = true → 16 ≤ lf m) : ∀ (n i : Nat) (S : zS), i + n = 16 → SR S 2 (mvL (bt x) lf i).1 → (∀ S' lv, SR S' 2 (mvL (bt x) lf 16).1 → zfrm 3 5 S S' → zsub lv [(0, .ref 2), (2, .int y), (3, .int (nI (mvL (bt x) lf 16).2.2)), (4, .int (nI (dmn (mvL (bt x) lf 16).2.1 32)))] → zR C τ ι 7 0 0 64 lv [] (zcells S')) → zR C τ ι 7 0 0 8 [(0, .ref 2), (1, .int x), (2, .int y), (3, .int (nI (mvL (bt x) lf i).2.2)), (4, .int (nI (dmn (mvL (bt x) lf i).2.1 32))), (5, .int (nI i))] [] (zcells S) := by
  intro n
  induction n with
  | zero =>
    intro i S hi hS k
    have hi : i = 16 := by omega
    subst hi
    refine zr_iload hC dX5_move_8 rfl ?_
    refine zk_bipush hC dX5_move_10 (v := nI 16) (by decide +kernel) ?_
    refine zr_icmp_ge hC dX5_move_12 (tgt := 64) (by decide) (fun c_12 => ?_) (fun c => absurd c (not_not_intro (nI_le (by omega) (by omega))))
    exact k S _ hS zfrm.rf ⟨rfl, rfl, rfl, rfl, trivial⟩
  | succ n ih =>
    intro i S hi hS k
    refine zr_iload hC dX5_move_8 rfl ?_
    refine zk_bipush hC dX5_move_10 (v := nI 16) (by decide +kernel) ?_
    refine zr_icmp_ge hC dX5_move_12 (tgt := 64) (by decide) (fun c => absurd c (nI_ge (by omega) (by omega))) (fun c_12 => ?_)
    refine zr_iload_n hC dX5_move_15 rfl ?_
    refine zr_iload hC dX5_move_16 rfl ?_
    refine zs_callSN hC [_, _] [] dX5_move_18 mn_X5_30 mtX8_has tX8_has (by decide) (by decide) (by decide) rfl (Nat.le_of_ble_eq_true rfl) rfl ?_
    refine ⟨_, i, rfl, by omega, fun r e => ?_⟩
    rcases e with ⟨rfl, hx⟩ | ⟨rfl, hx⟩
    · dsimp only [Option.toList, List.cons_append, List.nil_append]
      refine zr_if_eq hC dX5_move_21 (tgt := 58) (by decide) (fun c => absurd c (by decide +kernel)) (fun c_21 => ?_)
      refine zr_aload_n hC dX5_move_24 rfl ?_
      refine zs_getr hC dX5_move_25 fl_X5_9 (a := 2) (r := 3) rfl (by decide) ?_
      refine zr_iload hC dX5_move_28 rfl ?_
      refine zs_iald hC dX5_move_30 (a := 3) (n := 16) rfl (by decide) (by decide) (j := _) rfl (by omega) ?_
      rw [hS.1 i (by omega)]
      refine zr_istore hC dX5_move_31 (by decide) ?_
      refine zr_aload_n hC dX5_move_33 rfl ?_
      refine zr_iload hC dX5_move_34 rfl ?_
      refine zs_callV hC (b := 2) [_] [] dX5_move_36 ml_X5_34 mtX5_stand tX5_stand (by decide) (by decide) (by decide) rfl rfl (by decide) (by decide +kernel) (Nat.le_of_ble_eq_true rfl) rfl ?_
      refine ⟨_, i, _, rfl, Or.inl rfl, by omega, hS, fun S1 h1 h2 => ?_⟩
      dsimp only [Option.toList, List.nil_append]
      refine zr_iload hC dX5_move_39 rfl ?_
      refine zk_iconst hC dX5_move_41 (v := nI 1) (by decide +kernel) ?_
      refine zr_iload hC dX5_move_42 rfl ?_
      refine zn_ishl hC dX5_move_44 (z_shl1 _ (hS.2.2 i (by omega))) ?_
      refine zn_ior hC dX5_move_45 (fa_or _ _) ?_
      refine zr_istore hC dX5_move_46 (by decide) ?_
      refine zr_iload_n hC dX5_move_48 rfl ?_
      refine zr_iload hC dX5_move_49 rfl ?_
      refine zk_iconst hC dX5_move_51 (v := nI 2) (by decide +kernel) ?_
      refine zn_idiv hC dX5_move_52 (by decide +kernel) (z_half (Nat.lt_trans (hS.2.2 i (by omega)) (by decide))) ?_
      refine zs_callS hC [_] [_] dX5_move_53 ml_X5_38 mtX5_pathFrom tX5_pathFrom (by decide) (by decide) (by decide) rfl (Nat.le_of_ble_eq_true rfl) rfl ?_
      refine ⟨_, rfl, Nat.lt_of_le_of_lt (Nat.div_le_self _ _) (hS.2.2 i (by omega)), ?_⟩
      dsimp only [Option.toList, List.cons_append, List.nil_append]
      refine zn_ior hC dX5_move_56 (fa_or _ _) ?_
      refine zr_istore_n hC dX5_move_57 (by decide) ?_
      refine zn_iinc hC dX5_move_58 rfl (by decide) (zk_inc _ 1) ?_
      refine zr_goto hC dX5_move_61 (tgt := 8) (by decide) ?_
      refine zR_sub [(0, .ref 2), (1, .int x), (2, .int y), (3, .int (nI (mvL (bt x) lf (i + 1)).2.2)), (4, .int (nI (dmn (mvL (bt x) lf (i + 1)).2.1 32))), (5, .int (nI (i + 1)))] ⟨rfl, rfl, rfl, zlk_eq rfl ?_, zlk_eq rfl ?_, rfl, trivial⟩ (ih (i + 1) _ (by omega) ?_ (fun S2 lv g1 g2 g3 => k S2 lv g1 (h2.tr g2) g3))
      · simp [mvL, stL, hx]
      · rw [dmn_or (hS.2.2 i (by omega))]; simp [mvL, stL, hx]
      · simpa [mvL, stL, hx] using h1
    · dsimp only [Option.toList, List.cons_append, List.nil_append]
      refine zr_if_eq hC dX5_move_21 (tgt := 58) (by decide) (fun c_21 => ?_) (fun c => absurd c (by decide +kernel))
      refine zn_iinc hC dX5_move_58 rfl (by decide) (zk_inc _ 1) ?_
      refine zr_goto hC dX5_move_61 (tgt := 8) (by decide) ?_
      refine zR_sub [(0, .ref 2), (1, .int x), (2, .int y), (3, .int (nI (mvL (bt x) lf (i + 1)).2.2)), (4, .int (nI (dmn (mvL (bt x) lf (i + 1)).2.1 32))), (5, .int (nI (i + 1)))] ⟨rfl, rfl, rfl, zlk_eq rfl ?_, zlk_eq rfl ?_, rfl, trivial⟩ (ih (i + 1) _ (by omega) ?_ k)
      · simp [mvL, stL, hx]
      · simp [mvL, stL, hx]
      · simpa [mvL, stL, hx] using hS
set_option maxHeartbeats 4000000 in
set_option maxRecDepth 100000 in
theorem l5_mvC_2 {C : zCx} {τ : Nat → ClassId} {ι : Nat → Nat} (hC : zOK C τ (zrm 2 0 0) yX5_move.cls cX5_move 7) {y : Int32} {X : zM3} (hfr : ∀ j, X.2.1 j = true → 16 ≤ j) (h0 : ∀ m, m < 16 → bt y m = true → X.1 m = 0) : ∀ (n i : Nat) (S : zS), i + n = 16 → SR S 2 (mvC (bt y) X i).1 → (∀ S' lv, SR S' 2 (mvC (bt y) X 16).1 → zfrm 3 5 S S' → zlk 3 lv = some (.int (nI (mvC (bt y) X 16).2.2)) → zR C τ ι 7 0 0 135 lv [] (zcells S')) → zR C τ ι 7 0 0 67 [(0, .ref 2), (2, .int y), (3, .int (nI (mvC (bt y) X i).2.2)), (4, .int (nI (dmn (mvC (bt y) X i).2.1 32))), (5, .int (nI i))] [] (zcells S) := by
  intro n
  induction n with
  | zero =>
    intro i S hi hS k
    have hi : i = 16 := by omega
    subst hi
    refine zr_iload hC dX5_move_67 rfl ?_
    refine zk_bipush hC dX5_move_69 (v := nI 16) (by decide +kernel) ?_
    refine zr_icmp_ge hC dX5_move_71 (tgt := 135) (by decide) (fun c_71 => ?_) (fun c => absurd c (not_not_intro (nI_le (by omega) (by omega))))
    exact k S _ hS zfrm.rf rfl
  | succ n ih =>
    intro i S hi hS k
    have hnf : ∀ i, 16 ≤ nlf (mvC (bt y) X i).1 (mvC (bt y) X i).2.1 ∧ nlf (mvC (bt y) X i).1 (mvC (bt y) X i).2.1 < 32 := fun i => nlf_in fun j _ hj => mvC_fr _ _ hfr i j hj
    refine zr_iload hC dX5_move_67 rfl ?_
    refine zk_bipush hC dX5_move_69 (v := nI 16) (by decide +kernel) ?_
    refine zr_icmp_ge hC dX5_move_71 (tgt := 135) (by decide) (fun c => absurd c (nI_ge (by omega) (by omega))) (fun c_71 => ?_)
    refine zr_iload_n hC dX5_move_74 rfl ?_
    refine zr_iload hC dX5_move_75 rfl ?_
    refine zs_callSN hC [_, _] [] dX5_move_77 mn_X5_30 mtX8_has tX8_has (by decide) (by decide) (by decide) rfl (Nat.le_of_ble_eq_true rfl) rfl ?_
    refine ⟨_, i, rfl, by omega, fun r e => ?_⟩
    rcases e with ⟨rfl, hx⟩ | ⟨rfl, hx⟩
    · dsimp only [Option.toList, List.cons_append, List.nil_append]
      refine zr_if_eq hC dX5_move_80 (tgt := 129) (by decide) (fun c => absurd c (by decide +kernel)) (fun c_80 => ?_)
      refine zr_iload hC dX5_move_83 rfl ?_
      refine zr_if_ne hC dX5_move_85 (tgt := 95) (by decide) (fun c_85 => ?_) (fun c_85 => ?_)
      · rw [z_eq0 (dmn_lt32 (by omega))] at c_85
        have hnl : nlf (mvC (bt y) X i).1 (mvC (bt y) X i).2.1 = fa_first (mvC (bt y) X i).2.1 32 := if_neg c_85
        refine zr_iload hC dX5_move_95 rfl ?_
        refine zs_callS hC [_] [] dX5_move_97 ml_X5_46 mtJ6_numberOfTrailingZeros_0f7a4 tJ6_numberOfTrailingZeros_0f7a4 (by decide) (by decide) (by decide) rfl (Nat.le_of_ble_eq_true rfl) rfl ?_
        have hf := hnf i
        have hj : fa_first (mvC (bt y) X i).2.1 32 < 32 := by have := hnf i; rw [hnl] at this; exact this.2
        refine ⟨_, fa_first (mvC (bt y) X i).2.1 32, rfl, by rw [← hnl]; exact (hnf i).1, hj, dmn_lt32 (by omega), by rw [dmn_bit, fa_first_yes _ _ hj, decide_eq_true hj]; rfl, fun j hj2 => by rw [dmn_bit, fa_first_no _ _ j hj2, Bool.and_false], ?_⟩
        rw [← hnl]
        dsimp only [Option.toList, List.cons_append, List.nil_append]
        refine zr_istore hC dX5_move_100 (by decide) ?_
        refine zr_aload_n hC dX5_move_102 rfl ?_
        refine zr_iload hC dX5_move_103 rfl ?_
        refine zr_iload hC dX5_move_105 rfl ?_
        refine zs_callV hC (b := 2) [_, _] [] dX5_move_107 ml_X5_51 mtX5_sit tX5_sit (by decide) (by decide) (by decide) rfl rfl (by decide) (by decide +kernel) (Nat.le_of_ble_eq_true rfl) rfl ?_
        refine ⟨_, i, nlf (mvC (bt y) X i).1 (mvC (bt y) X i).2.1, _, rfl, Or.inl rfl, by omega, (hnf i).2, hS, ?_, fun S1 h1 h2 => ?_⟩
        · rw [mvC_out _ _ i (Nat.le_refl _)]; exact h0 i (by omega) hx
        dsimp only [Option.toList, List.nil_append]
        refine zr_iload hC dX5_move_110 rfl ?_
        refine zk_iconst hC dX5_move_112 (v := nI 1) (by decide +kernel) ?_
        refine zr_iload hC dX5_move_113 rfl ?_
        refine zn_ishl hC dX5_move_115 (z_shl1 _ (hnf i).2) ?_
        refine zk_iconst hC dX5_move_116 (v := (-1)) (by decide +kernel) ?_
        refine zr_ixor hC dX5_move_117 ?_
        refine zn_iand hC dX5_move_118 (z_andn _ _) ?_
        refine zr_istore hC dX5_move_119 (by decide) ?_
        refine zr_iload_n hC dX5_move_121 rfl ?_
        refine zr_iload hC dX5_move_122 rfl ?_
        refine zs_callS hC [_] [_] dX5_move_124 ml_X5_38 mtX5_pathFrom tX5_pathFrom (by decide) (by decide) (by decide) rfl (Nat.le_of_ble_eq_true rfl) rfl ?_
        refine ⟨_, rfl, (hnf i).2, ?_⟩
        dsimp only [Option.toList, List.cons_append, List.nil_append]
        refine zn_ior hC dX5_move_127 (fa_or _ _) ?_
        refine zr_istore_n hC dX5_move_128 (by decide) ?_
        refine zn_iinc hC dX5_move_129 rfl (by decide) (zk_inc _ 1) ?_
        refine zr_goto hC dX5_move_132 (tgt := 67) (by decide) ?_
        refine zR_sub [(0, .ref 2), (2, .int y), (3, .int (nI (mvC (bt y) X (i + 1)).2.2)), (4, .int (nI (dmn (mvC (bt y) X (i + 1)).2.1 32))), (5, .int (nI (i + 1)))] ⟨rfl, rfl, zlk_eq rfl ?_, zlk_eq rfl ?_, rfl, trivial⟩ (ih (i + 1) _ (by omega) ?_ (fun S2 lv g1 g2 g3 => k S2 lv g1 (h2.tr g2) g3))
        · simp [mvC, stC, hx]
        · rw [dmn_an (by omega)]; simp [mvC, stC, hx]
        · simpa [mvC, stC, hx] using h1
      · rw [z_eq0 (dmn_lt32 (by omega))] at c_85
        have hnl : nlf (mvC (bt y) X i).1 (mvC (bt y) X i).2.1 = emp (mvC (bt y) X i).1 := if_pos c_85
        refine zr_aload_n hC dX5_move_88 rfl ?_
        refine zs_callV hC (b := 2) [] [] dX5_move_89 ml_X5_42 mtX5_emptiestLeaf tX5_emptiestLeaf (by decide) (by decide) (by decide) rfl rfl (by decide) (by decide +kernel) (Nat.le_of_ble_eq_true rfl) rfl ?_
        refine ⟨_, _, rfl, Or.inl rfl, hS, ?_⟩
        rw [← hnl]
        dsimp only [Option.toList, List.cons_append, List.nil_append]
        refine zr_goto hC dX5_move_92 (tgt := 100) (by decide) ?_
        refine zr_istore hC dX5_move_100 (by decide) ?_
        refine zr_aload_n hC dX5_move_102 rfl ?_
        refine zr_iload hC dX5_move_103 rfl ?_
        refine zr_iload hC dX5_move_105 rfl ?_
        refine zs_callV hC (b := 2) [_, _] [] dX5_move_107 ml_X5_51 mtX5_sit tX5_sit (by decide) (by decide) (by decide) rfl rfl (by decide) (by decide +kernel) (Nat.le_of_ble_eq_true rfl) rfl ?_
        refine ⟨_, i, nlf (mvC (bt y) X i).1 (mvC (bt y) X i).2.1, _, rfl, Or.inl rfl, by omega, (hnf i).2, hS, ?_, fun S1 h1 h2 => ?_⟩
        · rw [mvC_out _ _ i (Nat.le_refl _)]; exact h0 i (by omega) hx
        dsimp only [Option.toList, List.nil_append]
        refine zr_iload hC dX5_move_110 rfl ?_
        refine zk_iconst hC dX5_move_112 (v := nI 1) (by decide +kernel) ?_
        refine zr_iload hC dX5_move_113 rfl ?_
        refine zn_ishl hC dX5_move_115 (z_shl1 _ (hnf i).2) ?_
        refine zk_iconst hC dX5_move_116 (v := (-1)) (by decide +kernel) ?_
        refine zr_ixor hC dX5_move_117 ?_
        refine zn_iand hC dX5_move_118 (z_andn _ _) ?_
        refine zr_istore hC dX5_move_119 (by decide) ?_
        refine zr_iload_n hC dX5_move_121 rfl ?_
        refine zr_iload hC dX5_move_122 rfl ?_
        refine zs_callS hC [_] [_] dX5_move_124 ml_X5_38 mtX5_pathFrom tX5_pathFrom (by decide) (by decide) (by decide) rfl (Nat.le_of_ble_eq_true rfl) rfl ?_
        refine ⟨_, rfl, (hnf i).2, ?_⟩
        dsimp only [Option.toList, List.cons_append, List.nil_append]
        refine zn_ior hC dX5_move_127 (fa_or _ _) ?_
        refine zr_istore_n hC dX5_move_128 (by decide) ?_
        refine zn_iinc hC dX5_move_129 rfl (by decide) (zk_inc _ 1) ?_
        refine zr_goto hC dX5_move_132 (tgt := 67) (by decide) ?_
        refine zR_sub [(0, .ref 2), (2, .int y), (3, .int (nI (mvC (bt y) X (i + 1)).2.2)), (4, .int (nI (dmn (mvC (bt y) X (i + 1)).2.1 32))), (5, .int (nI (i + 1)))] ⟨rfl, rfl, zlk_eq rfl ?_, zlk_eq rfl ?_, rfl, trivial⟩ (ih (i + 1) _ (by omega) ?_ (fun S2 lv g1 g2 g3 => k S2 lv g1 (h2.tr g2) g3))
        · simp [mvC, stC, hx]
        · rw [dmn_an (by omega)]; simp [mvC, stC, hx]
        · simpa [mvC, stC, hx] using h1
    · dsimp only [Option.toList, List.cons_append, List.nil_append]
      refine zr_if_eq hC dX5_move_80 (tgt := 129) (by decide) (fun c_80 => ?_) (fun c => absurd c (by decide +kernel))
      refine zn_iinc hC dX5_move_129 rfl (by decide) (zk_inc _ 1) ?_
      refine zr_goto hC dX5_move_132 (tgt := 67) (by decide) ?_
      refine zR_sub [(0, .ref 2), (2, .int y), (3, .int (nI (mvC (bt y) X (i + 1)).2.2)), (4, .int (nI (dmn (mvC (bt y) X (i + 1)).2.1 32))), (5, .int (nI (i + 1)))] ⟨rfl, rfl, zlk_eq rfl ?_, zlk_eq rfl ?_, rfl, trivial⟩ (ih (i + 1) _ (by omega) ?_ k)
      · simp [mvC, stC, hx]
      · simp [mvC, stC, hx]
      · simpa [mvC, stC, hx] using hS
set_option maxHeartbeats 4000000 in
set_option maxRecDepth 100000 in
theorem l5_mvL_232 {C : zCx} {τ : Nat → ClassId} {ι : Nat → Nat} (hC : zOK C τ (zrm 2 0 0) yX5_move.cls cX5_move 7) {x y : Int32} {lf : Nat → Nat} (hx16 : ∀ m, m < 16 → bt x m = true → 16 ≤ lf m) : ∀ (n i : Nat) (S : zS), i + n = 16 → SR S 232 (mvL (bt x) lf i).1 → (∀ S' lv, SR S' 232 (mvL (bt x) lf 16).1 → zfrm 233 235 S S' → zsub lv [(0, .ref 232), (2, .int y), (3, .int (nI (mvL (bt x) lf 16).2.2)), (4, .int (nI (dmn (mvL (bt x) lf 16).2.1 32)))] → zR C τ ι 7 0 0 64 lv [] (zcells S')) → zR C τ ι 7 0 0 8 [(0, .ref 232), (1, .int x), (2, .int y), (3, .int (nI (mvL (bt x) lf i).2.2)), (4, .int (nI (dmn (mvL (bt x) lf i).2.1 32))), (5, .int (nI i))] [] (zcells S) := by
  intro n
  induction n with
  | zero =>
    intro i S hi hS k
    have hi : i = 16 := by omega
    subst hi
    refine zr_iload hC dX5_move_8 rfl ?_
    refine zk_bipush hC dX5_move_10 (v := nI 16) (by decide +kernel) ?_
    refine zr_icmp_ge hC dX5_move_12 (tgt := 64) (by decide) (fun c_12 => ?_) (fun c => absurd c (not_not_intro (nI_le (by omega) (by omega))))
    exact k S _ hS zfrm.rf ⟨rfl, rfl, rfl, rfl, trivial⟩
  | succ n ih =>
    intro i S hi hS k
    refine zr_iload hC dX5_move_8 rfl ?_
    refine zk_bipush hC dX5_move_10 (v := nI 16) (by decide +kernel) ?_
    refine zr_icmp_ge hC dX5_move_12 (tgt := 64) (by decide) (fun c => absurd c (nI_ge (by omega) (by omega))) (fun c_12 => ?_)
    refine zr_iload_n hC dX5_move_15 rfl ?_
    refine zr_iload hC dX5_move_16 rfl ?_
    refine zs_callSN hC [_, _] [] dX5_move_18 mn_X5_30 mtX8_has tX8_has (by decide) (by decide) (by decide) rfl (Nat.le_of_ble_eq_true rfl) rfl ?_
    refine ⟨_, i, rfl, by omega, fun r e => ?_⟩
    rcases e with ⟨rfl, hx⟩ | ⟨rfl, hx⟩
    · dsimp only [Option.toList, List.cons_append, List.nil_append]
      refine zr_if_eq hC dX5_move_21 (tgt := 58) (by decide) (fun c => absurd c (by decide +kernel)) (fun c_21 => ?_)
      refine zr_aload_n hC dX5_move_24 rfl ?_
      refine zs_getr hC dX5_move_25 fl_X5_9 (a := 232) (r := 233) rfl (by decide) ?_
      refine zr_iload hC dX5_move_28 rfl ?_
      refine zs_iald hC dX5_move_30 (a := 233) (n := 16) rfl (by decide) (by decide) (j := _) rfl (by omega) ?_
      rw [hS.1 i (by omega)]
      refine zr_istore hC dX5_move_31 (by decide) ?_
      refine zr_aload_n hC dX5_move_33 rfl ?_
      refine zr_iload hC dX5_move_34 rfl ?_
      refine zs_callV hC (b := 232) [_] [] dX5_move_36 ml_X5_34 mtX5_stand tX5_stand (by decide) (by decide) (by decide) rfl rfl (by decide) (by decide +kernel) (Nat.le_of_ble_eq_true rfl) rfl ?_
      refine ⟨_, i, _, rfl, Or.inr rfl, by omega, hS, fun S1 h1 h2 => ?_⟩
      dsimp only [Option.toList, List.nil_append]
      refine zr_iload hC dX5_move_39 rfl ?_
      refine zk_iconst hC dX5_move_41 (v := nI 1) (by decide +kernel) ?_
      refine zr_iload hC dX5_move_42 rfl ?_
      refine zn_ishl hC dX5_move_44 (z_shl1 _ (hS.2.2 i (by omega))) ?_
      refine zn_ior hC dX5_move_45 (fa_or _ _) ?_
      refine zr_istore hC dX5_move_46 (by decide) ?_
      refine zr_iload_n hC dX5_move_48 rfl ?_
      refine zr_iload hC dX5_move_49 rfl ?_
      refine zk_iconst hC dX5_move_51 (v := nI 2) (by decide +kernel) ?_
      refine zn_idiv hC dX5_move_52 (by decide +kernel) (z_half (Nat.lt_trans (hS.2.2 i (by omega)) (by decide))) ?_
      refine zs_callS hC [_] [_] dX5_move_53 ml_X5_38 mtX5_pathFrom tX5_pathFrom (by decide) (by decide) (by decide) rfl (Nat.le_of_ble_eq_true rfl) rfl ?_
      refine ⟨_, rfl, Nat.lt_of_le_of_lt (Nat.div_le_self _ _) (hS.2.2 i (by omega)), ?_⟩
      dsimp only [Option.toList, List.cons_append, List.nil_append]
      refine zn_ior hC dX5_move_56 (fa_or _ _) ?_
      refine zr_istore_n hC dX5_move_57 (by decide) ?_
      refine zn_iinc hC dX5_move_58 rfl (by decide) (zk_inc _ 1) ?_
      refine zr_goto hC dX5_move_61 (tgt := 8) (by decide) ?_
      refine zR_sub [(0, .ref 232), (1, .int x), (2, .int y), (3, .int (nI (mvL (bt x) lf (i + 1)).2.2)), (4, .int (nI (dmn (mvL (bt x) lf (i + 1)).2.1 32))), (5, .int (nI (i + 1)))] ⟨rfl, rfl, rfl, zlk_eq rfl ?_, zlk_eq rfl ?_, rfl, trivial⟩ (ih (i + 1) _ (by omega) ?_ (fun S2 lv g1 g2 g3 => k S2 lv g1 (h2.tr g2) g3))
      · simp [mvL, stL, hx]
      · rw [dmn_or (hS.2.2 i (by omega))]; simp [mvL, stL, hx]
      · simpa [mvL, stL, hx] using h1
    · dsimp only [Option.toList, List.cons_append, List.nil_append]
      refine zr_if_eq hC dX5_move_21 (tgt := 58) (by decide) (fun c_21 => ?_) (fun c => absurd c (by decide +kernel))
      refine zn_iinc hC dX5_move_58 rfl (by decide) (zk_inc _ 1) ?_
      refine zr_goto hC dX5_move_61 (tgt := 8) (by decide) ?_
      refine zR_sub [(0, .ref 232), (1, .int x), (2, .int y), (3, .int (nI (mvL (bt x) lf (i + 1)).2.2)), (4, .int (nI (dmn (mvL (bt x) lf (i + 1)).2.1 32))), (5, .int (nI (i + 1)))] ⟨rfl, rfl, rfl, zlk_eq rfl ?_, zlk_eq rfl ?_, rfl, trivial⟩ (ih (i + 1) _ (by omega) ?_ k)
      · simp [mvL, stL, hx]
      · simp [mvL, stL, hx]
      · simpa [mvL, stL, hx] using hS
set_option maxHeartbeats 4000000 in
set_option maxRecDepth 100000 in
theorem l5_mvC_232 {C : zCx} {τ : Nat → ClassId} {ι : Nat → Nat} (hC : zOK C τ (zrm 2 0 0) yX5_move.cls cX5_move 7) {y : Int32} {X : zM3} (hfr : ∀ j, X.2.1 j = true → 16 ≤ j) (h0 : ∀ m, m < 16 → bt y m = true → X.1 m = 0) : ∀ (n i : Nat) (S : zS), i + n = 16 → SR S 232 (mvC (bt y) X i).1 → (∀ S' lv, SR S' 232 (mvC (bt y) X 16).1 → zfrm 233 235 S S' → zlk 3 lv = some (.int (nI (mvC (bt y) X 16).2.2)) → zR C τ ι 7 0 0 135 lv [] (zcells S')) → zR C τ ι 7 0 0 67 [(0, .ref 232), (2, .int y), (3, .int (nI (mvC (bt y) X i).2.2)), (4, .int (nI (dmn (mvC (bt y) X i).2.1 32))), (5, .int (nI i))] [] (zcells S) := by
  intro n
  induction n with
  | zero =>
    intro i S hi hS k
    have hi : i = 16 := by omega
    subst hi
    refine zr_iload hC dX5_move_67 rfl ?_
    refine zk_bipush hC dX5_move_69 (v := nI 16) (by decide +kernel) ?_
    refine zr_icmp_ge hC dX5_move_71 (tgt := 135) (by decide) (fun c_71 => ?_) (fun c => absurd c (not_not_intro (nI_le (by omega) (by omega))))
    exact k S _ hS zfrm.rf rfl
  | succ n ih =>
    intro i S hi hS k
    have hnf : ∀ i, 16 ≤ nlf (mvC (bt y) X i).1 (mvC (bt y) X i).2.1 ∧ nlf (mvC (bt y) X i).1 (mvC (bt y) X i).2.1 < 32 := fun i => nlf_in fun j _ hj => mvC_fr _ _ hfr i j hj
    refine zr_iload hC dX5_move_67 rfl ?_
    refine zk_bipush hC dX5_move_69 (v := nI 16) (by decide +kernel) ?_
    refine zr_icmp_ge hC dX5_move_71 (tgt := 135) (by decide) (fun c => absurd c (nI_ge (by omega) (by omega))) (fun c_71 => ?_)
    refine zr_iload_n hC dX5_move_74 rfl ?_
    refine zr_iload hC dX5_move_75 rfl ?_
    refine zs_callSN hC [_, _] [] dX5_move_77 mn_X5_30 mtX8_has tX8_has (by decide) (by decide) (by decide) rfl (Nat.le_of_ble_eq_true rfl) rfl ?_
    refine ⟨_, i, rfl, by omega, fun r e => ?_⟩
    rcases e with ⟨rfl, hx⟩ | ⟨rfl, hx⟩
    · dsimp only [Option.toList, List.cons_append, List.nil_append]
      refine zr_if_eq hC dX5_move_80 (tgt := 129) (by decide) (fun c => absurd c (by decide +kernel)) (fun c_80 => ?_)
      refine zr_iload hC dX5_move_83 rfl ?_
      refine zr_if_ne hC dX5_move_85 (tgt := 95) (by decide) (fun c_85 => ?_) (fun c_85 => ?_)
      · rw [z_eq0 (dmn_lt32 (by omega))] at c_85
        have hnl : nlf (mvC (bt y) X i).1 (mvC (bt y) X i).2.1 = fa_first (mvC (bt y) X i).2.1 32 := if_neg c_85
        refine zr_iload hC dX5_move_95 rfl ?_
        refine zs_callS hC [_] [] dX5_move_97 ml_X5_46 mtJ6_numberOfTrailingZeros_0f7a4 tJ6_numberOfTrailingZeros_0f7a4 (by decide) (by decide) (by decide) rfl (Nat.le_of_ble_eq_true rfl) rfl ?_
        have hf := hnf i
        have hj : fa_first (mvC (bt y) X i).2.1 32 < 32 := by have := hnf i; rw [hnl] at this; exact this.2
        refine ⟨_, fa_first (mvC (bt y) X i).2.1 32, rfl, by rw [← hnl]; exact (hnf i).1, hj, dmn_lt32 (by omega), by rw [dmn_bit, fa_first_yes _ _ hj, decide_eq_true hj]; rfl, fun j hj2 => by rw [dmn_bit, fa_first_no _ _ j hj2, Bool.and_false], ?_⟩
        rw [← hnl]
        dsimp only [Option.toList, List.cons_append, List.nil_append]
        refine zr_istore hC dX5_move_100 (by decide) ?_
        refine zr_aload_n hC dX5_move_102 rfl ?_
        refine zr_iload hC dX5_move_103 rfl ?_
        refine zr_iload hC dX5_move_105 rfl ?_
        refine zs_callV hC (b := 232) [_, _] [] dX5_move_107 ml_X5_51 mtX5_sit tX5_sit (by decide) (by decide) (by decide) rfl rfl (by decide) (by decide +kernel) (Nat.le_of_ble_eq_true rfl) rfl ?_
        refine ⟨_, i, nlf (mvC (bt y) X i).1 (mvC (bt y) X i).2.1, _, rfl, Or.inr rfl, by omega, (hnf i).2, hS, ?_, fun S1 h1 h2 => ?_⟩
        · rw [mvC_out _ _ i (Nat.le_refl _)]; exact h0 i (by omega) hx
        dsimp only [Option.toList, List.nil_append]
        refine zr_iload hC dX5_move_110 rfl ?_
        refine zk_iconst hC dX5_move_112 (v := nI 1) (by decide +kernel) ?_
        refine zr_iload hC dX5_move_113 rfl ?_
        refine zn_ishl hC dX5_move_115 (z_shl1 _ (hnf i).2) ?_
        refine zk_iconst hC dX5_move_116 (v := (-1)) (by decide +kernel) ?_
        refine zr_ixor hC dX5_move_117 ?_
        refine zn_iand hC dX5_move_118 (z_andn _ _) ?_
        refine zr_istore hC dX5_move_119 (by decide) ?_
        refine zr_iload_n hC dX5_move_121 rfl ?_
        refine zr_iload hC dX5_move_122 rfl ?_
        refine zs_callS hC [_] [_] dX5_move_124 ml_X5_38 mtX5_pathFrom tX5_pathFrom (by decide) (by decide) (by decide) rfl (Nat.le_of_ble_eq_true rfl) rfl ?_
        refine ⟨_, rfl, (hnf i).2, ?_⟩
        dsimp only [Option.toList, List.cons_append, List.nil_append]
        refine zn_ior hC dX5_move_127 (fa_or _ _) ?_
        refine zr_istore_n hC dX5_move_128 (by decide) ?_
        refine zn_iinc hC dX5_move_129 rfl (by decide) (zk_inc _ 1) ?_
        refine zr_goto hC dX5_move_132 (tgt := 67) (by decide) ?_
        refine zR_sub [(0, .ref 232), (2, .int y), (3, .int (nI (mvC (bt y) X (i + 1)).2.2)), (4, .int (nI (dmn (mvC (bt y) X (i + 1)).2.1 32))), (5, .int (nI (i + 1)))] ⟨rfl, rfl, zlk_eq rfl ?_, zlk_eq rfl ?_, rfl, trivial⟩ (ih (i + 1) _ (by omega) ?_ (fun S2 lv g1 g2 g3 => k S2 lv g1 (h2.tr g2) g3))
        · simp [mvC, stC, hx]
        · rw [dmn_an (by omega)]; simp [mvC, stC, hx]
        · simpa [mvC, stC, hx] using h1
      · rw [z_eq0 (dmn_lt32 (by omega))] at c_85
        have hnl : nlf (mvC (bt y) X i).1 (mvC (bt y) X i).2.1 = emp (mvC (bt y) X i).1 := if_pos c_85
        refine zr_aload_n hC dX5_move_88 rfl ?_
        refine zs_callV hC (b := 232) [] [] dX5_move_89 ml_X5_42 mtX5_emptiestLeaf tX5_emptiestLeaf (by decide) (by decide) (by decide) rfl rfl (by decide) (by decide +kernel) (Nat.le_of_ble_eq_true rfl) rfl ?_
        refine ⟨_, _, rfl, Or.inr rfl, hS, ?_⟩
        rw [← hnl]
        dsimp only [Option.toList, List.cons_append, List.nil_append]
        refine zr_goto hC dX5_move_92 (tgt := 100) (by decide) ?_
        refine zr_istore hC dX5_move_100 (by decide) ?_
        refine zr_aload_n hC dX5_move_102 rfl ?_
        refine zr_iload hC dX5_move_103 rfl ?_
        refine zr_iload hC dX5_move_105 rfl ?_
        refine zs_callV hC (b := 232) [_, _] [] dX5_move_107 ml_X5_51 mtX5_sit tX5_sit (by decide) (by decide) (by decide) rfl rfl (by decide) (by decide +kernel) (Nat.le_of_ble_eq_true rfl) rfl ?_
        refine ⟨_, i, nlf (mvC (bt y) X i).1 (mvC (bt y) X i).2.1, _, rfl, Or.inr rfl, by omega, (hnf i).2, hS, ?_, fun S1 h1 h2 => ?_⟩
        · rw [mvC_out _ _ i (Nat.le_refl _)]; exact h0 i (by omega) hx
        dsimp only [Option.toList, List.nil_append]
        refine zr_iload hC dX5_move_110 rfl ?_
        refine zk_iconst hC dX5_move_112 (v := nI 1) (by decide +kernel) ?_
        refine zr_iload hC dX5_move_113 rfl ?_
        refine zn_ishl hC dX5_move_115 (z_shl1 _ (hnf i).2) ?_
        refine zk_iconst hC dX5_move_116 (v := (-1)) (by decide +kernel) ?_
        refine zr_ixor hC dX5_move_117 ?_
        refine zn_iand hC dX5_move_118 (z_andn _ _) ?_
        refine zr_istore hC dX5_move_119 (by decide) ?_
        refine zr_iload_n hC dX5_move_121 rfl ?_
        refine zr_iload hC dX5_move_122 rfl ?_
        refine zs_callS hC [_] [_] dX5_move_124 ml_X5_38 mtX5_pathFrom tX5_pathFrom (by decide) (by decide) (by decide) rfl (Nat.le_of_ble_eq_true rfl) rfl ?_
        refine ⟨_, rfl, (hnf i).2, ?_⟩
        dsimp only [Option.toList, List.cons_append, List.nil_append]
        refine zn_ior hC dX5_move_127 (fa_or _ _) ?_
        refine zr_istore_n hC dX5_move_128 (by decide) ?_
        refine zn_iinc hC dX5_move_129 rfl (by decide) (zk_inc _ 1) ?_
        refine zr_goto hC dX5_move_132 (tgt := 67) (by decide) ?_
        refine zR_sub [(0, .ref 232), (2, .int y), (3, .int (nI (mvC (bt y) X (i + 1)).2.2)), (4, .int (nI (dmn (mvC (bt y) X (i + 1)).2.1 32))), (5, .int (nI (i + 1)))] ⟨rfl, rfl, zlk_eq rfl ?_, zlk_eq rfl ?_, rfl, trivial⟩ (ih (i + 1) _ (by omega) ?_ (fun S2 lv g1 g2 g3 => k S2 lv g1 (h2.tr g2) g3))
        · simp [mvC, stC, hx]
        · rw [dmn_an (by omega)]; simp [mvC, stC, hx]
        · simpa [mvC, stC, hx] using h1
    · dsimp only [Option.toList, List.cons_append, List.nil_append]
      refine zr_if_eq hC dX5_move_80 (tgt := 129) (by decide) (fun c_80 => ?_) (fun c => absurd c (by decide +kernel))
      refine zn_iinc hC dX5_move_129 rfl (by decide) (zk_inc _ 1) ?_
      refine zr_goto hC dX5_move_132 (tgt := 67) (by decide) ?_
      refine zR_sub [(0, .ref 232), (2, .int y), (3, .int (nI (mvC (bt y) X (i + 1)).2.2)), (4, .int (nI (dmn (mvC (bt y) X (i + 1)).2.1 32))), (5, .int (nI (i + 1)))] ⟨rfl, rfl, zlk_eq rfl ?_, zlk_eq rfl ?_, rfl, trivial⟩ (ih (i + 1) _ (by omega) ?_ k)
      · simp [mvC, stC, hx]
      · simp [mvC, stC, hx]
      · simpa [mvC, stC, hx] using hS
theorem zlk_set {lv : List (Nat × Value)} {i j : Nat} {v w : Value} (h : i ≠ j) (hc : zlk i lv = some v) (hcat : v.category = 1 := by rfl) : zlk i (zset j w lv) = some v := by
  have key : ∀ l : List (Nat × Value), zlk i l = some v → zlk i (l.filter (fun q => !(q.1 == j) && !(q.1 + 1 == j && q.2.category == 2))) = some v := by
    intro l
    induction l with
    | nil => intro h; cases h
    | cons q l ih =>
      intro hl
      unfold zlk at hl
      split at hl
      next e =>
        cases hl
        have : (!(q.1 == j) && !(q.1 + 1 == j && q.2.category == 2)) = true := by
          rw [e]
          simp [h, hcat]
        rw [List.filter_cons, if_pos this, zlk, if_pos e]
      next e =>
        by_cases hp : (!(q.1 == j) && !(q.1 + 1 == j && q.2.category == 2)) = true
        · rw [List.filter_cons, if_pos hp, zlk, if_neg e]
          exact ih hl
        · rw [List.filter_cons, if_neg hp]
          exact ih hl
  unfold zset zlk
  rw [if_neg (Ne.symm h)]
  exact key lv hc
def spX5_move : zSp := fun av S Q => ∃ (q : Nat) (x y : Int32) (lf : Nat → Nat), av = [.ref q, .int x, .int y] ∧ zq q ∧ SR S q lf ∧ (∀ m, m < 16 → bt x m = true → 16 ≤ lf m) ∧ (∀ m, m < 16 → bt y m = true → lf m = 0) ∧ ∀ S', SR S' q (mv lf (bt x) (bt y)).1 → zfrm (q + 1) (q + 3) S S' → Q (some (.int (nI (mv lf (bt x) (bt y)).2.2))) S'
set_option maxHeartbeats 4000000 in
set_option maxRecDepth 100000 in
theorem tX5_move : zM yX5_move cX5_move 7 (some .int) 2 spX5_move := by
  refine zM.of (by decide) (by decide) (fun av S Q h => by obtain ⟨q, x, y, lf, rfl, hq, hS, hx16, hy16, hQ⟩ := h; exact Nat.le_of_ble_eq_true rfl) (fun C τ ι av S Q Qr h hr hC hE => ?_)
  obtain ⟨q, x, y, lf, rfl, hq, hS, hx16, hy16, hQ⟩ := h
  rcases hq with rfl | rfl
  · show zR C τ ι _ 0 0 0 [(0, .ref 2), (1, .int x), (2, .int y)] [] _
    refine zk_iconst hC dX5_move_0 (v := nI 0) (by decide +kernel) ?_
    refine zr_istore_n hC dX5_move_1 (by decide) ?_
    refine zk_iconst hC dX5_move_2 (v := nI 0) (by decide +kernel) ?_
    refine zr_istore hC dX5_move_3 (by decide) ?_
    refine zk_iconst hC dX5_move_5 (v := nI 0) (by decide +kernel) ?_
    refine zr_istore hC dX5_move_6 (by decide) ?_
    refine zR_sub [(0, .ref 2), (1, .int x), (2, .int y), (3, .int (nI (mvL (bt x) lf 0).2.2)), (4, .int (nI (dmn (mvL (bt x) lf 0).2.1 32))), (5, .int (nI 0))] ⟨rfl, rfl, rfl, rfl, zlk_eq rfl (dmn_zero.mpr fun _ _ => rfl).symm, rfl, trivial⟩ ?_
    refine l5_mvL_2 hC hx16 16 0 S (by decide) hS (fun S1 lv g1 g2 g3 => ?_)
    refine zk_iconst hC dX5_move_64 (v := nI 0) (by decide +kernel) ?_
    refine zr_istore hC dX5_move_65 (by decide) ?_
    refine zR_sub [(0, .ref 2), (2, .int y), (3, .int (nI (mvC (bt y) (mvL (bt x) lf 16) 0).2.2)), (4, .int (nI (dmn (mvC (bt y) (mvL (bt x) lf 16) 0).2.1 32))), (5, .int (nI 0))] ?_ ?_
    · obtain ⟨a0, a1, a2, a3, -⟩ := g3
      exact ⟨zlk_set (show 0 ≠ 5 by decide) a0, zlk_set (show 2 ≠ 5 by decide) a1, zlk_set (show 3 ≠ 5 by decide) a2, zlk_set (show 4 ≠ 5 by decide) a3, rfl, trivial⟩
    refine l5_mvC_2 hC (mvL_fr _ _ hx16 16 (by decide)) (fun m hm hy => ?_) 16 0 S1 (by decide) g1 (fun S2 lv f1 f2 f3 => ?_)
    · rw [mvL_0 _ _ 16 hm, hy16 m hm hy]; split <;> rfl
    refine zr_iload_n hC dX5_move_135 f3 ?_
    exact zr_ireturn hC hE dX5_move_136 (hr _ _ (hQ _ f1 (g2.tr f2)))
  · show zR C τ ι _ 0 0 0 [(0, .ref 232), (1, .int x), (2, .int y)] [] _
    refine zk_iconst hC dX5_move_0 (v := nI 0) (by decide +kernel) ?_
    refine zr_istore_n hC dX5_move_1 (by decide) ?_
    refine zk_iconst hC dX5_move_2 (v := nI 0) (by decide +kernel) ?_
    refine zr_istore hC dX5_move_3 (by decide) ?_
    refine zk_iconst hC dX5_move_5 (v := nI 0) (by decide +kernel) ?_
    refine zr_istore hC dX5_move_6 (by decide) ?_
    refine zR_sub [(0, .ref 232), (1, .int x), (2, .int y), (3, .int (nI (mvL (bt x) lf 0).2.2)), (4, .int (nI (dmn (mvL (bt x) lf 0).2.1 32))), (5, .int (nI 0))] ⟨rfl, rfl, rfl, rfl, zlk_eq rfl (dmn_zero.mpr fun _ _ => rfl).symm, rfl, trivial⟩ ?_
    refine l5_mvL_232 hC hx16 16 0 S (by decide) hS (fun S1 lv g1 g2 g3 => ?_)
    refine zk_iconst hC dX5_move_64 (v := nI 0) (by decide +kernel) ?_
    refine zr_istore hC dX5_move_65 (by decide) ?_
    refine zR_sub [(0, .ref 232), (2, .int y), (3, .int (nI (mvC (bt y) (mvL (bt x) lf 16) 0).2.2)), (4, .int (nI (dmn (mvC (bt y) (mvL (bt x) lf 16) 0).2.1 32))), (5, .int (nI 0))] ?_ ?_
    · obtain ⟨a0, a1, a2, a3, -⟩ := g3
      exact ⟨zlk_set (show 0 ≠ 5 by decide) a0, zlk_set (show 2 ≠ 5 by decide) a1, zlk_set (show 3 ≠ 5 by decide) a2, zlk_set (show 4 ≠ 5 by decide) a3, rfl, trivial⟩
    refine l5_mvC_232 hC (mvL_fr _ _ hx16 16 (by decide)) (fun m hm hy => ?_) 16 0 S1 (by decide) g1 (fun S2 lv f1 f2 f3 => ?_)
    · rw [mvL_0 _ _ 16 hm, hy16 m hm hy]; split <;> rfl
    refine zr_iload_n hC dX5_move_135 f3 ?_
    exact zr_ireturn hC hE dX5_move_136 (hr _ _ (hQ _ f1 (g2.tr f2)))
