/-! THE LAW'S drifts -/
theorem drt_s (G : zG) (n : Nat) : drt G (n + 1) = gset (gkp (drt G n)) (dr1 (drt G n).1) := rfl
theorem gkp_22 (G : zG) : (gkp G).2.2 = G.2.2 := rfl
theorem gkp_21 (G : zG) : (gkp G).2.1 = pkeep G.1 G.2.1 := rfl
theorem drt_img (G : zG) (n : Nat) : (drt G n).2.2 = G.2.2 := by
  induction n with
  | zero => rfl
  | succ n ih => rw [drt_s, gset_2, gkp_22, ih]
theorem drt_add (G : zG) (a b : Nat) : drt (drt G a) b = drt G (a + b) := by
  induction b with
  | zero => rfl
  | succ b ih => rw [drt_s, ih, ← Nat.add_assoc, drt_s]
theorem pkp_lt {D : zD} {p : zP} (h : p.2 < 6) : pkeep D p = (fun j => if j = p.2 then D else p.1 j, p.2 + 1) := if_pos h
theorem pkp_ge {D : zD} {p : zP} (h : ¬ p.2 < 6) : pkeep D p = (fun j => if j = 5 then D else p.1 (j + 1), 6) := if_neg h
/-- what may be undone of rows of states, kept one by one -/
theorem kept_past {X : Nat → zD} {P : Nat → zP} (hP : ∀ n, P (n + 1) = pkeep (X n) (P n)) (h6 : (P 0).2 ≤ 6) (n : Nat) : (P n).2 = min 6 ((P 0).2 + n) ∧ ∀ j, j < n → j < 6 → (P n).1 ((P n).2 - 1 - j) = X (n - 1 - j) := by
  induction n with
  | zero => exact ⟨by omega, fun j hj => absurd hj (Nat.not_lt_zero _)⟩
  | succ n ih =>
    obtain ⟨i1, i2⟩ := ih
    rw [hP]
    by_cases q : (P n).2 < 6
    · rw [pkp_lt q]
      refine ⟨by show (P n).2 + 1 = _; omega, fun j h1 h2 => ?_⟩
      show (if (P n).2 + 1 - 1 - j = (P n).2 then X n else (P n).1 ((P n).2 + 1 - 1 - j)) = _
      by_cases j0 : j = 0
      · rw [if_pos (by omega), j0]; rfl
      · rw [if_neg (by omega), show (P n).2 + 1 - 1 - j = (P n).2 - 1 - (j - 1) by omega, i2 (j - 1) (by omega) (by omega), show n + 1 - 1 - j = n - 1 - (j - 1) by omega]
    · rw [pkp_ge q]
      refine ⟨by show 6 = _; omega, fun j h1 h2 => ?_⟩
      show (if 6 - 1 - j = 5 then X n else (P n).1 (6 - 1 - j + 1)) = _
      by_cases j0 : j = 0
      · rw [if_pos (by omega), j0]; rfl
      · rw [if_neg (by omega), show 6 - 1 - j + 1 = (P n).2 - 1 - (j - 1) by omega, i2 (j - 1) (by omega) (by omega), show n + 1 - 1 - j = n - 1 - (j - 1) by omega]
theorem drt_past {G : zG} (h6 : G.2.1.2 ≤ 6) : (drt G 9).2.1.2 = 6 ∧ (drt G 9).2.1.1 0 = (drt G 3).1 := by
  obtain ⟨X, hX⟩ : ∃ X : Nat → zD, ∀ n, (drt G n).1 = X n := ⟨_, fun _ => rfl⟩
  obtain ⟨P, hP⟩ : ∃ P : Nat → zP, ∀ n, (drt G n).2.1 = P n := ⟨_, fun _ => rfl⟩
  have hs : ∀ n, P (n + 1) = pkeep (X n) (P n) := fun n => by rw [← hP, ← hX, ← hP, drt_s, gset_2, gkp_21]
  have h0 : (P 0).2 ≤ 6 := by rw [← hP]; exact h6
  obtain ⟨a, b⟩ := kept_past hs h0 9
  rw [hP, hX]
  have b5 := b 5 (by decide) (by decide)
  have e : (P 9).2 = 6 := by omega
  rw [e] at b5
  exact ⟨e, b5⟩
theorem fsee {G : zG} {s : Nat} (hs : s < 2147483648) : fSeed (nI s) G = (nI (G.1 6 3), gset G (dset G.1 6 3 s)) := by
  unfold fSeed
  rw [if_neg (nI_pos (by omega)), pk_tn (by omega)]
theorem fdri {G : zG} {n : Nat} (h1 : 1 ≤ n) (h2 : n ≤ 40) : fDrift (nI n) G = (nI (sm ((drt G n).1 0) 1), drt G n) := by
  unfold fDrift
  rw [rg_yes h1 h2 (by decide)]
theorem fres {G Y : zG} (hi : Y.2.2 = G.2.2) (him : G.2.2.1 = (true, G.1, G.2.1)) : fRestore Y = (nI 1, G) := by
  unfold fRestore
  rw [hi, him]
  rfl
theorem fund {D : zD} {p : Nat → zD} {k : Nat} {R : (Bool × zD × zP) × ((Nat → Nat) × Nat) × zH} : fUndo (D, (p, k + 1), R) = (nI k, (p k, (p, k), R)) := rfl
theorem fund0 {D : zD} {p : Nat → zD} {R : (Bool × zD × zP) × ((Nat → Nat) × Nat) × zH} : fUndo (D, (p, 0), R) = (-4, (D, (p, 0), R)) := rfl
theorem g_eta (G : zG) : G = (G.1, (G.2.1.1, G.2.1.2), G.2.2) := rfl
def spL_drifts : zSpS := fun L xs av S Q => ∃ G : zG, av = [.ref 0, .ref 245] ∧ L ≤ 260 ∧ CG S G ∧ GI G ∧ G.2.2.1 = (true, G.1, G.2.1) ∧ G.1 6 3 = 1 ∧ ∀ S', CG S' G → Q (some (.int (nI 1))) S'
set_option maxHeartbeats 400000 in
set_option maxRecDepth 100000 in
theorem tL_drifts : zMS yL_drifts cL_drifts 9 (some .boolean) 9 spL_drifts := by
  refine zMS.of (by decide) (by decide) (fun L xs av S Q h => by obtain ⟨G, rfl, hL, hc, hg, him, hd1, hQ⟩ := h; exact Nat.le_of_ble_eq_true rfl) (fun C τ ι av S Q Qr L xs h hr hC hX hE => ?_)
  obtain ⟨G, rfl, hL, hc, hg, him, hd1, hQ⟩ := h
  show zR C τ ι _ 0 0 0 [(0, .ref 0), (1, .ref 245)] [] _
  refine zr_aload_n hC dL_drifts_0 rfl ?_
  refine zk_bipush hC dL_drifts_1 (v := nI 15) (by decide +kernel) ?_
  refine zs_callSS hC hX [_, _] [] dL_drifts_3 ml_L_22 mtL_cell tL_cell (by decide) (by decide) (by decide) rfl (Nat.le_of_ble_eq_true rfl) rfl ?_
  refine ⟨15, rfl, by decide, hL, ?_⟩
  have hs2 := pcell_lt L xs 15
  obtain ⟨s, hs⟩ : ∃ s, pcell L xs 15 = s := ⟨_, rfl⟩
  rw [hs] at hs2 ⊢
  dsimp only [Option.toList, List.cons_append, List.nil_append]
  refine zr_istore_n hC dL_drifts_6 (by decide) ?_
  refine zr_aload_n hC dL_drifts_7 rfl ?_
  refine zr_iload_n hC dL_drifts_8 rfl ?_
  refine zs_callV hC (b := 0) [_] [] dL_drifts_9 ml_L_131 mtX8_seed tX8_seed (by decide) (by decide) (by decide) rfl rfl (by decide) (by decide +kernel) (Nat.le_of_ble_eq_true rfl) rfl ?_
  refine ⟨G, _, rfl, hc, hg, fun S hc _ => ?_⟩
  have hg0 := hg
  have hg := gi_seed hg (nI s)
  rw [fsee hs2] at hc hg ⊢
  rw [hd1]
  obtain ⟨K, dfK⟩ : ∃ K, K = gset G (dset G.1 6 3 s) := ⟨_, rfl⟩
  rw [← dfK] at hc hg
  have hgK := hg
  have k2 : K.2 = G.2 := by rw [dfK, gset_2]
  have k6 : K.2.1.2 ≤ 6 := by rw [k2]; exact hg0.2.1.1
  dsimp only [Option.toList, List.cons_append, List.nil_append]
  refine zr_istore_n hC dL_drifts_12 (by decide) ?_
  refine zr_aload_n hC dL_drifts_13 rfl ?_
  refine zk_bipush hC dL_drifts_14 (v := nI 9) (by decide +kernel) ?_
  refine zs_callV hC (b := 0) [_] [] dL_drifts_16 ml_L_134 mtX8_drift tX8_drift (by decide) (by decide) (by decide) rfl rfl (by decide) (by decide +kernel) (Nat.le_of_ble_eq_true rfl) rfl ?_
  refine ⟨K, _, rfl, hc, hg, fun S hc _ => ?_⟩
  have hg := gi_drift hg (nI 9)
  rw [fdri (by decide) (by decide)] at hc hg ⊢
  obtain ⟨x3, x5⟩ := drt_past k6
  have x4 : (drt K 9).2.2 = G.2.2 := by rw [drt_img, k2]
  have x6 : drt (drt K 4) 5 = drt K 9 := drt_add K 4 5
  obtain ⟨X, dfX⟩ : ∃ X, X = drt K 9 := ⟨_, rfl⟩
  rw [← dfX] at hc hg x3 x4 x5 x6 ⊢
  dsimp only [Option.toList, List.cons_append, List.nil_append]
  refine zr_istore hC dL_drifts_19 (by decide) ?_
  refine zr_aload_n hC dL_drifts_21 rfl ?_
  refine zs_callS hC [_] [] dL_drifts_22 ml_L_50 mtL_mark tL_mark (by decide) (by decide) (by decide) rfl (Nat.le_of_ble_eq_true rfl) rfl ?_
  refine ⟨X, rfl, hc, hg, fun S hc => ?_⟩
  dsimp only [Option.toList, List.cons_append, List.nil_append]
  refine zr_istore hC dL_drifts_25 (by decide) ?_
  refine zr_aload_n hC dL_drifts_27 rfl ?_
  refine zk_iconst hC dL_drifts_28 (v := nI 5) (by decide +kernel) ?_
  refine zs_callV hC (b := 0) [_] [] dL_drifts_29 ml_L_131 mtX8_seed tX8_seed (by decide) (by decide) (by decide) rfl rfl (by decide) (by decide +kernel) (Nat.le_of_ble_eq_true rfl) rfl ?_
  refine ⟨X, _, rfl, hc, hg, fun S hc _ => ?_⟩
  have hg := gi_seed hg (nI 5)
  rw [fsee (by decide)] at hc hg ⊢
  have y2 : (gset X (dset X.1 6 3 5)).2 = X.2 := rfl
  obtain ⟨Y, dfY⟩ : ∃ Y, Y = gset X (dset X.1 6 3 5) := ⟨_, rfl⟩
  rw [← dfY] at hc hg y2
  dsimp only [Option.toList, List.cons_append, List.nil_append]
  refine zr_istore hC dL_drifts_32 (by decide) ?_
  refine zr_iload_n hC dL_drifts_34 rfl ?_
  refine zk_iconst hC dL_drifts_35 (v := nI 1) (by decide +kernel) ?_
  refine zr_icmp_ne hC dL_drifts_36 (tgt := 108) (by decide) (fun c => absurd c (by decide +kernel)) (fun c_36 => ?_)
  refine zr_aload_n hC dL_drifts_39 rfl ?_
  refine zk_bipush hC dL_drifts_40 (v := nI 8) (by decide +kernel) ?_
  refine zs_callV hC (b := 0) [_] [] dL_drifts_42 ml_L_37 mtX8_count tX8_count (by decide) (by decide) (by decide) rfl rfl (by decide) (by decide +kernel) (Nat.le_of_ble_eq_true rfl) rfl ?_
  refine ⟨Y, _, rfl, hc, hg, fun S hc _ => ?_⟩
  rw [fc_8, y2, x3]
  dsimp only [Option.toList, List.cons_append, List.nil_append]
  refine zk_bipush hC dL_drifts_45 (v := nI 6) (by decide +kernel) ?_
  refine zr_icmp_ne hC dL_drifts_47 (tgt := 108) (by decide) (fun c => absurd c (by decide +kernel)) (fun c_47 => ?_)
  refine zr_aload_n hC dL_drifts_50 rfl ?_
  refine zs_callV hC (b := 0) [] [] dL_drifts_51 ml_L_60 mtX8_restore tX8_restore (by decide) (by decide) (by decide) rfl rfl (by decide) (by decide +kernel) (Nat.le_of_ble_eq_true rfl) rfl ?_
  refine ⟨Y, rfl, hc, hg, fun S hc _ => ?_⟩
  rw [fres (G := G) (by rw [y2]; exact x4) him] at hc ⊢
  dsimp only [Option.toList, List.cons_append, List.nil_append]
  refine zk_iconst hC dL_drifts_54 (v := nI 1) (by decide +kernel) ?_
  refine zr_icmp_ne hC dL_drifts_55 (tgt := 108) (by decide) (fun c => absurd c (by decide +kernel)) (fun c_55 => ?_)
  refine zr_aload_n hC dL_drifts_58 rfl ?_
  refine zr_iload_n hC dL_drifts_59 rfl ?_
  refine zs_callV hC (b := 0) [_] [] dL_drifts_60 ml_L_131 mtX8_seed tX8_seed (by decide) (by decide) (by decide) rfl rfl (by decide) (by decide +kernel) (Nat.le_of_ble_eq_true rfl) rfl ?_
  refine ⟨G, _, rfl, hc, hg0, fun S hc _ => ?_⟩
  rw [fsee hs2] at hc ⊢
  rw [hd1]
  rw [← dfK] at hc
  dsimp only [Option.toList, List.cons_append, List.nil_append]
  refine zr_iload_n hC dL_drifts_63 rfl ?_
  refine zr_icmp_ne hC dL_drifts_64 (tgt := 108) (by decide) (fun c => absurd c (by decide +kernel)) (fun c_64 => ?_)
  refine zr_aload_n hC dL_drifts_67 rfl ?_
  refine zk_iconst hC dL_drifts_68 (v := nI 4) (by decide +kernel) ?_
  refine zs_callV hC (b := 0) [_] [] dL_drifts_69 ml_L_134 mtX8_drift tX8_drift (by decide) (by decide) (by decide) rfl rfl (by decide) (by decide +kernel) (Nat.le_of_ble_eq_true rfl) rfl ?_
  refine ⟨K, _, rfl, hc, hgK, fun S hc _ => ?_⟩
  have hg4 := gi_drift hgK (nI 4)
  rw [fdri (by decide) (by decide)] at hc hg4 ⊢
  dsimp only [Option.toList, List.cons_append, List.nil_append]
  refine zr_if_lt hC dL_drifts_72 (tgt := 108) (by decide) (fun c => absurd c (nI_pos (Nat.lt_of_lt_of_le (sm_lt _ _) (Nat.le_of_ble_eq_true rfl)))) (fun c_72 => ?_)
  refine zr_aload_n hC dL_drifts_75 rfl ?_
  refine zk_iconst hC dL_drifts_76 (v := nI 5) (by decide +kernel) ?_
  refine zs_callV hC (b := 0) [_] [] dL_drifts_77 ml_L_134 mtX8_drift tX8_drift (by decide) (by decide) (by decide) rfl rfl (by decide) (by decide +kernel) (Nat.le_of_ble_eq_true rfl) rfl ?_
  refine ⟨drt K 4, _, rfl, hc, hg4, fun S hc _ => ?_⟩
  have hg := gi_drift hg4 (nI 5)
  rw [fdri (by decide) (by decide), x6] at hc hg ⊢
  dsimp only [Option.toList, List.cons_append, List.nil_append]
  refine zr_iload hC dL_drifts_80 rfl ?_
  refine zr_icmp_ne hC dL_drifts_82 (tgt := 108) (by decide) (fun c => absurd c (not_not_intro rfl)) (fun c_82 => ?_)
  refine zr_aload_n hC dL_drifts_85 rfl ?_
  refine zs_callS hC [_] [] dL_drifts_86 ml_L_50 mtL_mark tL_mark (by decide) (by decide) (by decide) rfl (Nat.le_of_ble_eq_true rfl) rfl ?_
  refine ⟨X, rfl, hc, hg, fun S hc => ?_⟩
  dsimp only [Option.toList, List.cons_append, List.nil_append]
  refine zr_iload hC dL_drifts_89 rfl ?_
  refine zr_icmp_ne hC dL_drifts_91 (tgt := 108) (by decide) (fun c => absurd c (not_not_intro rfl)) (fun c_91 => ?_)
  refine zr_aload_n hC dL_drifts_94 rfl ?_
  refine zk_iconst hC dL_drifts_95 (v := nI 5) (by decide +kernel) ?_
  refine zs_callV hC (b := 0) [_] [] dL_drifts_96 ml_L_131 mtX8_seed tX8_seed (by decide) (by decide) (by decide) rfl rfl (by decide) (by decide +kernel) (Nat.le_of_ble_eq_true rfl) rfl ?_
  refine ⟨X, _, rfl, hc, hg, fun S hc _ => ?_⟩
  have hg := gi_seed hg (nI 5)
  rw [fsee (by decide)] at hc hg ⊢
  rw [← dfY] at hc hg
  obtain ⟨p, hp⟩ : ∃ p, p = X.2.1.1 := ⟨_, rfl⟩
  obtain ⟨Y0, hY0⟩ : ∃ Y0, Y0 = Y.1 := ⟨_, rfl⟩
  have hYe : Y = (Y0, (p, 6), G.2.2) := by rw [g_eta Y, y2, x3, x4, hp, hY0]
  rw [hYe] at hc hg
  rw [← hp] at x5
  dsimp only [Option.toList, List.cons_append, List.nil_append]
  refine zr_iload hC dL_drifts_99 rfl ?_
  refine zr_icmp_ne hC dL_drifts_101 (tgt := 108) (by decide) (fun c => absurd c (not_not_intro rfl)) (fun c_101 => ?_)
  refine zk_iconst hC dL_drifts_104 (v := nI 1) (by decide +kernel) ?_
  refine zr_goto hC dL_drifts_105 (tgt := 109) (by decide) ?_
  refine zr_istore hC dL_drifts_109 (by decide) ?_
  refine zk_iconst hC dL_drifts_111 (v := nI 5) (by decide +kernel) ?_
  refine zr_istore hC dL_drifts_112 (by decide) ?_
  refine zR_sub [(0, .ref 0), (1, .ref 245), (2, .int (nI s)), (3, .int (nI 1)), (7, .int (nI 1)), (8, .int (nI 5))] ⟨rfl, rfl, rfl, rfl, rfl, rfl, trivial⟩ ?_
  refine zr_iload hC dL_drifts_114 rfl ?_
  refine zr_if_lt hC dL_drifts_116 (tgt := 146) (by decide) (fun c => absurd c (by decide +kernel)) (fun c_116 => ?_)
  refine zr_iload hC dL_drifts_119 rfl ?_
  refine zr_if_eq hC dL_drifts_121 (tgt := 146) (by decide) (fun c => absurd c (by decide +kernel)) (fun c_121 => ?_)
  refine zr_aload_n hC dL_drifts_124 rfl ?_
  refine zs_callV hC (b := 0) [] [] dL_drifts_125 ml_L_137 mtX8_undo tX8_undo (by decide) (by decide) (by decide) rfl rfl (by decide) (by decide +kernel) (Nat.le_of_ble_eq_true rfl) rfl ?_
  refine ⟨(Y0, (p, 6), G.2.2), rfl, hc, hg, fun S hc _ => ?_⟩
  have hg := gi_undo hg
  rw [fund] at hc hg ⊢
  replace hc : CG S (p 5, (p, 5), G.2.2) := hc
  dsimp only [Option.toList, List.cons_append, List.nil_append]
  refine zr_iload hC dL_drifts_128 rfl ?_
  refine zr_icmp_ne hC dL_drifts_130 (tgt := 137) (by decide) (fun c => absurd c (by decide +kernel)) (fun c_130 => ?_)
  refine zk_iconst hC dL_drifts_133 (v := nI 1) (by decide +kernel) ?_
  refine zr_goto hC dL_drifts_134 (tgt := 138) (by decide) ?_
  refine zr_istore hC dL_drifts_138 (by decide) ?_
  refine zn_iinc hC dL_drifts_140 rfl (by decide) (v := nI 4) (by decide +kernel) ?_
  refine zr_goto hC dL_drifts_143 (tgt := 114) (by decide) ?_
  refine zR_sub [(0, .ref 0), (1, .ref 245), (2, .int (nI s)), (3, .int (nI 1)), (7, .int (nI 1)), (8, .int (nI 4))] ⟨rfl, rfl, rfl, rfl, rfl, rfl, trivial⟩ ?_
  refine zr_iload hC dL_drifts_114 rfl ?_
  refine zr_if_lt hC dL_drifts_116 (tgt := 146) (by decide) (fun c => absurd c (by decide +kernel)) (fun c_116 => ?_)
  refine zr_iload hC dL_drifts_119 rfl ?_
  refine zr_if_eq hC dL_drifts_121 (tgt := 146) (by decide) (fun c => absurd c (by decide +kernel)) (fun c_121 => ?_)
  refine zr_aload_n hC dL_drifts_124 rfl ?_
  refine zs_callV hC (b := 0) [] [] dL_drifts_125 ml_L_137 mtX8_undo tX8_undo (by decide) (by decide) (by decide) rfl rfl (by decide) (by decide +kernel) (Nat.le_of_ble_eq_true rfl) rfl ?_
  refine ⟨((p 5), (p, 5), G.2.2), rfl, hc, hg, fun S hc _ => ?_⟩
  have hg := gi_undo hg
  rw [fund] at hc hg ⊢
  replace hc : CG S (p 4, (p, 4), G.2.2) := hc
  dsimp only [Option.toList, List.cons_append, List.nil_append]
  refine zr_iload hC dL_drifts_128 rfl ?_
  refine zr_icmp_ne hC dL_drifts_130 (tgt := 137) (by decide) (fun c => absurd c (by decide +kernel)) (fun c_130 => ?_)
  refine zk_iconst hC dL_drifts_133 (v := nI 1) (by decide +kernel) ?_
  refine zr_goto hC dL_drifts_134 (tgt := 138) (by decide) ?_
  refine zr_istore hC dL_drifts_138 (by decide) ?_
  refine zn_iinc hC dL_drifts_140 rfl (by decide) (v := nI 3) (by decide +kernel) ?_
  refine zr_goto hC dL_drifts_143 (tgt := 114) (by decide) ?_
  refine zR_sub [(0, .ref 0), (1, .ref 245), (2, .int (nI s)), (3, .int (nI 1)), (7, .int (nI 1)), (8, .int (nI 3))] ⟨rfl, rfl, rfl, rfl, rfl, rfl, trivial⟩ ?_
  refine zr_iload hC dL_drifts_114 rfl ?_
  refine zr_if_lt hC dL_drifts_116 (tgt := 146) (by decide) (fun c => absurd c (by decide +kernel)) (fun c_116 => ?_)
  refine zr_iload hC dL_drifts_119 rfl ?_
  refine zr_if_eq hC dL_drifts_121 (tgt := 146) (by decide) (fun c => absurd c (by decide +kernel)) (fun c_121 => ?_)
  refine zr_aload_n hC dL_drifts_124 rfl ?_
  refine zs_callV hC (b := 0) [] [] dL_drifts_125 ml_L_137 mtX8_undo tX8_undo (by decide) (by decide) (by decide) rfl rfl (by decide) (by decide +kernel) (Nat.le_of_ble_eq_true rfl) rfl ?_
  refine ⟨((p 4), (p, 4), G.2.2), rfl, hc, hg, fun S hc _ => ?_⟩
  have hg := gi_undo hg
  rw [fund] at hc hg ⊢
  replace hc : CG S (p 3, (p, 3), G.2.2) := hc
  dsimp only [Option.toList, List.cons_append, List.nil_append]
  refine zr_iload hC dL_drifts_128 rfl ?_
  refine zr_icmp_ne hC dL_drifts_130 (tgt := 137) (by decide) (fun c => absurd c (by decide +kernel)) (fun c_130 => ?_)
  refine zk_iconst hC dL_drifts_133 (v := nI 1) (by decide +kernel) ?_
  refine zr_goto hC dL_drifts_134 (tgt := 138) (by decide) ?_
  refine zr_istore hC dL_drifts_138 (by decide) ?_
  refine zn_iinc hC dL_drifts_140 rfl (by decide) (v := nI 2) (by decide +kernel) ?_
  refine zr_goto hC dL_drifts_143 (tgt := 114) (by decide) ?_
  refine zR_sub [(0, .ref 0), (1, .ref 245), (2, .int (nI s)), (3, .int (nI 1)), (7, .int (nI 1)), (8, .int (nI 2))] ⟨rfl, rfl, rfl, rfl, rfl, rfl, trivial⟩ ?_
  refine zr_iload hC dL_drifts_114 rfl ?_
  refine zr_if_lt hC dL_drifts_116 (tgt := 146) (by decide) (fun c => absurd c (by decide +kernel)) (fun c_116 => ?_)
  refine zr_iload hC dL_drifts_119 rfl ?_
  refine zr_if_eq hC dL_drifts_121 (tgt := 146) (by decide) (fun c => absurd c (by decide +kernel)) (fun c_121 => ?_)
  refine zr_aload_n hC dL_drifts_124 rfl ?_
  refine zs_callV hC (b := 0) [] [] dL_drifts_125 ml_L_137 mtX8_undo tX8_undo (by decide) (by decide) (by decide) rfl rfl (by decide) (by decide +kernel) (Nat.le_of_ble_eq_true rfl) rfl ?_
  refine ⟨((p 3), (p, 3), G.2.2), rfl, hc, hg, fun S hc _ => ?_⟩
  have hg := gi_undo hg
  rw [fund] at hc hg ⊢
  replace hc : CG S (p 2, (p, 2), G.2.2) := hc
  dsimp only [Option.toList, List.cons_append, List.nil_append]
  refine zr_iload hC dL_drifts_128 rfl ?_
  refine zr_icmp_ne hC dL_drifts_130 (tgt := 137) (by decide) (fun c => absurd c (by decide +kernel)) (fun c_130 => ?_)
  refine zk_iconst hC dL_drifts_133 (v := nI 1) (by decide +kernel) ?_
  refine zr_goto hC dL_drifts_134 (tgt := 138) (by decide) ?_
  refine zr_istore hC dL_drifts_138 (by decide) ?_
  refine zn_iinc hC dL_drifts_140 rfl (by decide) (v := nI 1) (by decide +kernel) ?_
  refine zr_goto hC dL_drifts_143 (tgt := 114) (by decide) ?_
  refine zR_sub [(0, .ref 0), (1, .ref 245), (2, .int (nI s)), (3, .int (nI 1)), (7, .int (nI 1)), (8, .int (nI 1))] ⟨rfl, rfl, rfl, rfl, rfl, rfl, trivial⟩ ?_
  refine zr_iload hC dL_drifts_114 rfl ?_
  refine zr_if_lt hC dL_drifts_116 (tgt := 146) (by decide) (fun c => absurd c (by decide +kernel)) (fun c_116 => ?_)
  refine zr_iload hC dL_drifts_119 rfl ?_
  refine zr_if_eq hC dL_drifts_121 (tgt := 146) (by decide) (fun c => absurd c (by decide +kernel)) (fun c_121 => ?_)
  refine zr_aload_n hC dL_drifts_124 rfl ?_
  refine zs_callV hC (b := 0) [] [] dL_drifts_125 ml_L_137 mtX8_undo tX8_undo (by decide) (by decide) (by decide) rfl rfl (by decide) (by decide +kernel) (Nat.le_of_ble_eq_true rfl) rfl ?_
  refine ⟨((p 2), (p, 2), G.2.2), rfl, hc, hg, fun S hc _ => ?_⟩
  have hg := gi_undo hg
  rw [fund] at hc hg ⊢
  replace hc : CG S (p 1, (p, 1), G.2.2) := hc
  dsimp only [Option.toList, List.cons_append, List.nil_append]
  refine zr_iload hC dL_drifts_128 rfl ?_
  refine zr_icmp_ne hC dL_drifts_130 (tgt := 137) (by decide) (fun c => absurd c (by decide +kernel)) (fun c_130 => ?_)
  refine zk_iconst hC dL_drifts_133 (v := nI 1) (by decide +kernel) ?_
  refine zr_goto hC dL_drifts_134 (tgt := 138) (by decide) ?_
  refine zr_istore hC dL_drifts_138 (by decide) ?_
  refine zn_iinc hC dL_drifts_140 rfl (by decide) (v := nI 0) (by decide +kernel) ?_
  refine zr_goto hC dL_drifts_143 (tgt := 114) (by decide) ?_
  refine zR_sub [(0, .ref 0), (1, .ref 245), (2, .int (nI s)), (3, .int (nI 1)), (7, .int (nI 1)), (8, .int (nI 0))] ⟨rfl, rfl, rfl, rfl, rfl, rfl, trivial⟩ ?_
  refine zr_iload hC dL_drifts_114 rfl ?_
  refine zr_if_lt hC dL_drifts_116 (tgt := 146) (by decide) (fun c => absurd c (by decide +kernel)) (fun c_116 => ?_)
  refine zr_iload hC dL_drifts_119 rfl ?_
  refine zr_if_eq hC dL_drifts_121 (tgt := 146) (by decide) (fun c => absurd c (by decide +kernel)) (fun c_121 => ?_)
  refine zr_aload_n hC dL_drifts_124 rfl ?_
  refine zs_callV hC (b := 0) [] [] dL_drifts_125 ml_L_137 mtX8_undo tX8_undo (by decide) (by decide) (by decide) rfl rfl (by decide) (by decide +kernel) (Nat.le_of_ble_eq_true rfl) rfl ?_
  refine ⟨((p 1), (p, 1), G.2.2), rfl, hc, hg, fun S hc _ => ?_⟩
  have hg := gi_undo hg
  rw [fund] at hc hg ⊢
  replace hc : CG S (p 0, (p, 0), G.2.2) := hc
  dsimp only [Option.toList, List.cons_append, List.nil_append]
  refine zr_iload hC dL_drifts_128 rfl ?_
  refine zr_icmp_ne hC dL_drifts_130 (tgt := 137) (by decide) (fun c => absurd c (by decide +kernel)) (fun c_130 => ?_)
  refine zk_iconst hC dL_drifts_133 (v := nI 1) (by decide +kernel) ?_
  refine zr_goto hC dL_drifts_134 (tgt := 138) (by decide) ?_
  refine zr_istore hC dL_drifts_138 (by decide) ?_
  refine zr_iinc hC dL_drifts_140 rfl (by decide) ?_
  refine zr_goto hC dL_drifts_143 (tgt := 114) (by decide) ?_
  refine zR_sub [(0, .ref 0), (1, .ref 245), (2, .int (nI s)), (3, .int (nI 1)), (7, .int (nI 1)), (8, .int (nI 0 + Int32.ofInt (-1)))] ⟨rfl, rfl, rfl, rfl, rfl, rfl, trivial⟩ ?_
  refine zr_iload hC dL_drifts_114 rfl ?_
  refine zr_if_lt hC dL_drifts_116 (tgt := 146) (by decide) (fun c_116 => ?_) (fun c => absurd c (not_not_intro (by decide)))
  refine zr_aload_n hC dL_drifts_146 rfl ?_
  refine zs_callS hC [_] [] dL_drifts_147 ml_L_50 mtL_mark tL_mark (by decide) (by decide) (by decide) rfl (Nat.le_of_ble_eq_true rfl) rfl ?_
  refine ⟨(p 0, (p, 0), G.2.2), rfl, hc, hg, fun S hc => ?_⟩
  rw [show ((p 0, (p, 0), G.2.2) : zG).1 = (drt K 3).1 from x5]
  dsimp only [Option.toList, List.cons_append, List.nil_append]
  refine zr_istore hC dL_drifts_150 (by decide) ?_
  refine zr_iload hC dL_drifts_152 rfl ?_
  refine zr_if_eq hC dL_drifts_154 (tgt := 212) (by decide) (fun c => absurd c (by decide +kernel)) (fun c_154 => ?_)
  refine zr_aload_n hC dL_drifts_157 rfl ?_
  refine zs_callV hC (b := 0) [] [] dL_drifts_158 ml_L_137 mtX8_undo tX8_undo (by decide) (by decide) (by decide) rfl rfl (by decide) (by decide +kernel) (Nat.le_of_ble_eq_true rfl) rfl ?_
  refine ⟨(p 0, (p, 0), G.2.2), rfl, hc, hg, fun S hc _ => ?_⟩
  rw [fund0] at hc ⊢
  dsimp only [Option.toList, List.cons_append, List.nil_append]
  refine zk_bipush hC dL_drifts_161 (v := (-4)) (by decide +kernel) ?_
  refine zr_icmp_ne hC dL_drifts_163 (tgt := 212) (by decide) (fun c => absurd c (not_not_intro rfl)) (fun c_163 => ?_)
  refine zr_aload_n hC dL_drifts_166 rfl ?_
  refine zs_callV hC (b := 0) [] [] dL_drifts_167 ml_L_60 mtX8_restore tX8_restore (by decide) (by decide) (by decide) rfl rfl (by decide) (by decide +kernel) (Nat.le_of_ble_eq_true rfl) rfl ?_
  refine ⟨(p 0, (p, 0), G.2.2), rfl, hc, hg, fun S hc _ => ?_⟩
  rw [fres (G := G) (Y := (p 0, (p, 0), G.2.2)) rfl him] at hc ⊢
  dsimp only [Option.toList, List.cons_append, List.nil_append]
  refine zk_iconst hC dL_drifts_170 (v := nI 1) (by decide +kernel) ?_
  refine zr_icmp_ne hC dL_drifts_171 (tgt := 212) (by decide) (fun c => absurd c (by decide +kernel)) (fun c_171 => ?_)
  refine zr_aload_n hC dL_drifts_174 rfl ?_
  refine zr_iload_n hC dL_drifts_175 rfl ?_
  refine zs_callV hC (b := 0) [_] [] dL_drifts_176 ml_L_131 mtX8_seed tX8_seed (by decide) (by decide) (by decide) rfl rfl (by decide) (by decide +kernel) (Nat.le_of_ble_eq_true rfl) rfl ?_
  refine ⟨G, _, rfl, hc, hg0, fun S hc _ => ?_⟩
  rw [fsee hs2] at hc ⊢
  rw [hd1]
  rw [← dfK] at hc
  dsimp only [Option.toList, List.cons_append, List.nil_append]
  refine zr_iload_n hC dL_drifts_179 rfl ?_
  refine zr_icmp_ne hC dL_drifts_180 (tgt := 212) (by decide) (fun c => absurd c (by decide +kernel)) (fun c_180 => ?_)
  refine zr_aload_n hC dL_drifts_183 rfl ?_
  refine zk_iconst hC dL_drifts_184 (v := nI 3) (by decide +kernel) ?_
  refine zs_callV hC (b := 0) [_] [] dL_drifts_185 ml_L_134 mtX8_drift tX8_drift (by decide) (by decide) (by decide) rfl rfl (by decide) (by decide +kernel) (Nat.le_of_ble_eq_true rfl) rfl ?_
  refine ⟨K, _, rfl, hc, hgK, fun S hc _ => ?_⟩
  have hg3 := gi_drift hgK (nI 3)
  rw [fdri (by decide) (by decide)] at hc hg3 ⊢
  dsimp only [Option.toList, List.cons_append, List.nil_append]
  refine zr_if_lt hC dL_drifts_188 (tgt := 212) (by decide) (fun c => absurd c (nI_pos (Nat.lt_of_lt_of_le (sm_lt _ _) (Nat.le_of_ble_eq_true rfl)))) (fun c_188 => ?_)
  refine zr_aload_n hC dL_drifts_191 rfl ?_
  refine zs_callS hC [_] [] dL_drifts_192 ml_L_50 mtL_mark tL_mark (by decide) (by decide) (by decide) rfl (Nat.le_of_ble_eq_true rfl) rfl ?_
  refine ⟨drt K 3, rfl, hc, hg3, fun S hc => ?_⟩
  dsimp only [Option.toList, List.cons_append, List.nil_append]
  refine zr_iload hC dL_drifts_195 rfl ?_
  refine zr_icmp_ne hC dL_drifts_197 (tgt := 212) (by decide) (fun c => absurd c (not_not_intro rfl)) (fun c_197 => ?_)
  refine zr_aload_n hC dL_drifts_200 rfl ?_
  refine zs_callV hC (b := 0) [] [] dL_drifts_201 ml_L_60 mtX8_restore tX8_restore (by decide) (by decide) (by decide) rfl rfl (by decide) (by decide +kernel) (Nat.le_of_ble_eq_true rfl) rfl ?_
  refine ⟨drt K 3, rfl, hc, hg3, fun S hc _ => ?_⟩
  rw [fres (G := G) (by rw [drt_img, k2]) him] at hc ⊢
  dsimp only [Option.toList, List.cons_append, List.nil_append]
  refine zk_iconst hC dL_drifts_204 (v := nI 1) (by decide +kernel) ?_
  refine zr_icmp_ne hC dL_drifts_205 (tgt := 212) (by decide) (fun c => absurd c (by decide +kernel)) (fun c_205 => ?_)
  refine zk_iconst hC dL_drifts_208 (v := nI 1) (by decide +kernel) ?_
  refine zr_goto hC dL_drifts_209 (tgt := 213) (by decide) ?_
  exact zr_zreturn hC hE dL_drifts_213 (by first | exact Or.inl rfl | exact Or.inr rfl) (hr _ _ (hQ _ hc))
