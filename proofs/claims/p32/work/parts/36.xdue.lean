/-! THE CALLS OF THE CLASS: opens, due, luck, type -/
theorem RG.is {S : zS} {f : Nat → Bool} {n k : Nat} (hk : k < n) (hn : n ≤ 232) {r : Int32} (e : (r = nI 1 ∧ ∃ j, j < n ∧ nI k = nI j ∧ f j = true) ∨ (r = nI 0 ∧ ∀ j, j < n → nI k = nI j → f j = false)) : (r = nI 1 ∧ f k = true) ∨ (r = nI 0 ∧ f k = false) := by
  rcases e with ⟨rfl, j, hj, e, h⟩ | ⟨rfl, h⟩
  · rw [nI_eq (by omega) (by omega)] at e
    subst e; exact Or.inl ⟨rfl, h⟩
  · exact Or.inr ⟨rfl, h k hk rfl⟩
def spX8_opens : zSp := fun av S Q => ∃ (G : zG) (s : Int32) (k : Int32), av = [.ref 0, .int s, .int k] ∧ CG S G ∧ GI G ∧ ∀ S', CG S' G → zfc S S' → Q (some (.int (fOpens s k G))) S'
set_option maxHeartbeats 4000000 in
set_option maxRecDepth 100000 in
theorem tX8_opens : zM yX8_opens cX8_opens 3 (some .int) 3 spX8_opens := by
  refine zM.of (by decide) (by decide) (fun av S Q h => by obtain ⟨G, s, k, rfl, hCG, hGI, hQ⟩ := h; exact Nat.le_of_ble_eq_true rfl) (fun C τ ι av S Q Qr h hr hC hE => ?_)
  obtain ⟨G, s, k, rfl, hCG, hGI, hQ⟩ := h
  show zR C τ ι _ 0 0 0 [(0, .ref 0), (1, .int s), (2, .int k)] [] _
  refine zr_iload_n hC dX8_opens_0 rfl ?_
  refine zr_if_lt hC dX8_opens_1 (tgt := 24) (by decide) (fun c_1 => ?_) (fun c_1 => ?_)
  · simp only [fOpens, mm_no (n := 65536) (Or.inl c_1)] at hQ
    refine zk_iconst hC dX8_opens_24 (v := (-1)) (by decide +kernel) ?_
    exact zr_ireturn hC hE dX8_opens_25 (hr _ _ (by first | exact hQ _ (hCG.scr hGI ((hf1.tr hf2).up (by decide) (by decide))) ((hf1.tr hf2).c (by decide)) | exact hQ _ hCG zfc.rf))
  · refine zr_iload_n hC dX8_opens_4 rfl ?_
    refine zr_ldc hC dX8_opens_5 kc_X8_205 ?_
    refine zr_icmp_ge hC dX8_opens_7 (tgt := 24) (by decide) (fun c_7 => ?_) (fun c_7 => ?_)
    · simp only [fOpens, mm_no (n := 65536) (Or.inr (show nI 65536 ≤ s from c_7))] at hQ
      refine zk_iconst hC dX8_opens_24 (v := (-1)) (by decide +kernel) ?_
      exact zr_ireturn hC hE dX8_opens_25 (hr _ _ (by first | exact hQ _ (hCG.scr hGI ((hf1.tr hf2).up (by decide) (by decide))) ((hf1.tr hf2).c (by decide)) | exact hQ _ hCG zfc.rf))
    · obtain ⟨t, ht, rfl⟩ := z_in (n := 65536) c_1 (Int32.not_le.mp c_7) (by decide)
      refine zr_aload_n hC dX8_opens_10 rfl ?_
      refine zs_getr hC dX8_opens_11 fl_X8_12 (a := 0) (r := 1) rfl (by decide) ?_
      refine zs_getr hC dX8_opens_14 fl_X8_120 (a := 1) (r := 5) rfl (by decide) ?_
      refine zr_iload_n hC dX8_opens_17 rfl ?_
      refine zs_callV hC (b := 5) [_] [] dX8_opens_18 ml_X8_166 mtX1_known tX1_known (by decide) (by decide) (by decide) rfl rfl (by decide) (by decide +kernel) (Nat.le_of_ble_eq_true rfl) rfl ?_
      have hcap : G.1 6 0 ≤ 232 := by have := hGI.1.made; omega
      refine ⟨k, G.1 6 0, rfl, hCG.1.kr.1, hcap, fun r e => ?_⟩
      rcases e with ⟨rfl, k, hk, rfl⟩ | ⟨rfl, hx⟩
      · simp only [fOpens, mm_yes ht (show 65536 < 2147483648 by decide), mm_yes hk (show G.1 6 0 < 2147483648 by omega)] at hQ
        dsimp only [Option.toList, List.cons_append, List.nil_append]
        refine zr_if_ne hC dX8_opens_21 (tgt := 26) (by decide) (fun c_21 => ?_) (fun c => absurd c (by decide +kernel))
        refine zr_aload_n hC dX8_opens_26 rfl ?_
        refine zs_getr hC dX8_opens_27 fl_X8_52 (a := 0) (r := 235) rfl (by decide) ?_
        refine zr_aload_n hC dX8_opens_30 rfl ?_
        refine zs_getr hC dX8_opens_31 fl_X8_12 (a := 0) (r := 1) rfl (by decide) ?_
        refine zs_getr hC dX8_opens_34 fl_X8_120 (a := 1) (r := 5) rfl (by decide) ?_
        refine zr_iload_n hC dX8_opens_37 rfl ?_
        refine zs_callV hC (b := 235) [_, _] [] dX8_opens_38 ml_X8_206 mtX4_take tX4_take (by decide) (by decide) (by decide) rfl rfl (by decide) (by decide +kernel) (Nat.le_of_ble_eq_true rfl) rfl ?_
        refine ⟨t, G.1, rfl, ht, hCG.1.kr, hcap, fun S1 hr1 hf1 => ?_⟩
        dsimp only [Option.toList, List.nil_append]
        refine zr_aload_n hC dX8_opens_41 rfl ?_
        refine zs_getr hC dX8_opens_42 fl_X8_52 (a := 0) (r := 235) rfl (by decide) ?_
        refine zr_aload_n hC dX8_opens_45 rfl ?_
        refine zs_getr hC dX8_opens_46 fl_X8_12 (a := 0) (r := 1) rfl (by decide) ?_
        refine zs_getr hC dX8_opens_49 fl_X8_178 (a := 1) (r := 10) rfl (by decide) ?_
        refine zs_callV hC (b := 235) [_] [] dX8_opens_52 ml_X8_210 mtX4_openAll tX4_openAll (by decide) (by decide) (by decide) rfl rfl (by decide) (by decide +kernel) (Nat.le_of_ble_eq_true rfl) rfl ?_
        refine ⟨G.1, G.1 6 0, f0 G.1 t, rfl, hCG.1.lr.kept (hf1.1 _ (by decide)) (hf1.1 _ (by decide)) (hf1.1 _ (by decide)) (hf1.1 _ (by decide)), hGI.1.written, fun i hi => ⟨(hGI.1.lets hi).1, (hGI.1.lets hi).2.1⟩, hr1, fun S2 hr2 hf2 => ?_⟩
        dsimp only [Option.toList, List.nil_append]
        refine zr_aload_n hC dX8_opens_55 rfl ?_
        refine zs_getr hC dX8_opens_56 fl_X8_52 (a := 0) (r := 235) rfl (by decide) ?_
        refine zr_iload_n hC dX8_opens_59 rfl ?_
        refine zs_callV hC (b := 235) [_] [] dX8_opens_60 ml_X8_214 mtX4_has tX4_has (by decide) (by decide) (by decide) rfl rfl (by decide) (by decide +kernel) (Nat.le_of_ble_eq_true rfl) rfl ?_
        refine ⟨_, _, G.1 6 0, rfl, hr2, fun r e => ?_⟩
        have e := RG.is (S := S2) hk hcap e
        rcases e with ⟨rfl, hy⟩ | ⟨rfl, hy⟩
        · rw [hy] at hQ
          dsimp only [Option.toList, List.cons_append, List.nil_append]
          refine zr_if_eq hC dX8_opens_63 (tgt := 70) (by decide) (fun c => absurd c (by decide +kernel)) (fun c_63 => ?_)
          refine zk_iconst hC dX8_opens_66 (v := nI 1) (by decide +kernel) ?_
          refine zr_goto hC dX8_opens_67 (tgt := 71) (by decide) ?_
          exact zr_ireturn hC hE dX8_opens_71 (hr _ _ (by first | exact hQ _ (hCG.scr hGI ((hf1.tr hf2).up (by decide) (by decide))) ((hf1.tr hf2).c (by decide)) | exact hQ _ hCG zfc.rf))
        · rw [hy] at hQ
          dsimp only [Option.toList, List.cons_append, List.nil_append]
          refine zr_if_eq hC dX8_opens_63 (tgt := 70) (by decide) (fun c_63 => ?_) (fun c => absurd c (by decide +kernel))
          refine zk_iconst hC dX8_opens_70 (v := nI 0) (by decide +kernel) ?_
          exact zr_ireturn hC hE dX8_opens_71 (hr _ _ (by first | exact hQ _ (hCG.scr hGI ((hf1.tr hf2).up (by decide) (by decide))) ((hf1.tr hf2).c (by decide)) | exact hQ _ hCG zfc.rf))
      · simp only [fOpens, mm_yes ht (show 65536 < 2147483648 by decide), mm_no hx] at hQ
        dsimp only [Option.toList, List.cons_append, List.nil_append]
        refine zr_if_ne hC dX8_opens_21 (tgt := 26) (by decide) (fun c => absurd c (by decide +kernel)) (fun c_21 => ?_)
        refine zk_iconst hC dX8_opens_24 (v := (-1)) (by decide +kernel) ?_
        exact zr_ireturn hC hE dX8_opens_25 (hr _ _ (by first | exact hQ _ (hCG.scr hGI ((hf1.tr hf2).up (by decide) (by decide))) ((hf1.tr hf2).c (by decide)) | exact hQ _ hCG zfc.rf))
theorem pl_SR {S : zS} {lf : Nat → Nat} (h : SR S 2 lf) : SR (zcpy (zcpy S (2 + 1) 0 (232 + 1) 0 16) (2 + 2) 0 (232 + 2) 0 32) 232 lf ∧ zfrm 233 235 S (zcpy (zcpy S (2 + 1) 0 (232 + 1) 0 16) (2 + 2) 0 (232 + 2) 0 32) := by
  refine ⟨⟨fun m hm => ?_, fun v a b => ?_, h.2.2⟩, fun a ha => ?_, rfl⟩
  · rw [← h.1 m hm]
    have h1 : ¬ (233 = 234 ∧ 0 ≤ m ∧ m < 0 + 32) := fun q => absurd q.1 (by decide)
    have h2 : (233 = 233 ∧ 0 ≤ m ∧ m < 0 + 16) := ⟨rfl, by omega, by omega⟩
    simp only [zcpy, if_neg h1, if_pos h2]
    simp
    intro q; omega
  · rw [← h.2.1 v a b]
    have h2 : (234 = 234 ∧ 0 ≤ v ∧ v < 0 + 32) := ⟨rfl, by omega, by omega⟩
    simp only [zcpy, if_pos h2]
    simp
    intro q; omega
  · funext k
    have h1 : ¬ (a = 234 ∧ 0 ≤ k ∧ k < 0 + 32) := fun q => by omega
    have h2 : ¬ (a = 233 ∧ 0 ≤ k ∧ k < 0 + 16) := fun q => by omega
    simp only [zcpy, if_neg h1, if_neg h2]
theorem one_bit {f : Nat → Nat} {c i m : Nat} (hm : m < 16) : bt (nI (dm (fun m => f m == c)) &&& nI (2 ^ i)) m = (m == i && f m == c) := by
  rw [fa_and, bt_nI _ _ (by omega), Nat.testBit_and, dm_b hm, Nat.testBit_two_pow]
  by_cases e : m = i
  · subst e; simp
  · have e2 : ¬ i = m := fun q => e q.symm
    simp [e, e2]
theorem no_bit {m : Nat} (hm : m < 16) : bt (nI 0) m = false := by rw [bt_nI _ _ (by omega)]; simp
theorem sgL_I {D : zD} (h : INV D) : ∀ n, n ≤ 16 → lfok (sgL D n).1 ∧ lfin (sgL D n).1 ∧ ∀ m, m < 16 → (sgL D n).1 m = if m < n ∧ D 1 m = 2 then 0 else D 0 m
  | 0, _ => ⟨h.ok, h.inj, fun m _ => (if_neg (fun q => Nat.not_lt_zero _ q.1)).symm⟩
  | n + 1, hn => by
    obtain ⟨i1, i2, i3⟩ := sgL_I h n (by omega)
    have hF := mv_F (L := fun j => j == n && D 1 j == 2) (K := fun _ => false) i1 i2 (fun m hm q => by
      simp only [Bool.and_eq_true, beq_iff_eq] at q
      rw [i3 m hm, if_neg (fun z => by omega)]
      have := h.told hm
      rcases h.leaf hm with z | z <;> omega) (fun m hm q => by cases q)
    refine ⟨hF.1, hF.2.1, fun m hm => ?_⟩
    obtain ⟨-, b, c⟩ := hF.2.2.1 m hm
    show (mv (sgL D n).1 (fun j => j == n && D 1 j == 2) (fun _ => false)).1 m = _
    by_cases q : m = n ∧ D 1 m = 2
    · rw [b rfl (by simp [q.1]; rw [← q.1]; exact q.2), if_pos ⟨by omega, q.2⟩]
    · rw [c rfl (by
        cases h1 : (m == n && D 1 m == 2) with
        | false => exact h1
        | true => simp only [Bool.and_eq_true, beq_iff_eq] at h1; exact absurd h1 q), i3 m hm]
      by_cases z : m < n ∧ D 1 m = 2
      · rw [if_pos z, if_pos ⟨by omega, z.2⟩]
      · rw [if_neg z, if_neg (fun y => by omega)]
theorem sgC_I {D : zD} (h : INV D) : ∀ n, n ≤ 16 → lfok (sgC D n).1 ∧ lfin (sgC D n).1 ∧ ∀ m, m < 16 → n ≤ m → (sgC D n).1 m = if D 1 m = 2 then 0 else D 0 m
  | 0, _ => by
    obtain ⟨i1, i2, i3⟩ := sgL_I h 16 (Nat.le_refl _)
    refine ⟨i1, i2, fun m hm _ => ?_⟩
    show (sgL D 16).1 m = _
    rw [i3 m hm]
    by_cases z : D 1 m = 2
    · rw [if_pos ⟨hm, z⟩, if_pos z]
    · rw [if_neg (fun y => z y.2), if_neg z]
  | n + 1, hn => by
    obtain ⟨i1, i2, i3⟩ := sgC_I h n (by omega)
    have hF := mv_F (L := fun _ => false) (K := fun j => j == n && D 1 j == 1) i1 i2 (fun m hm q => by cases q) (fun m hm q => by
      simp only [Bool.and_eq_true, beq_iff_eq] at q
      rw [i3 m hm (by omega), if_neg (by omega)]
      have := h.told hm
      omega)
    refine ⟨hF.1, hF.2.1, fun m hm hnm => ?_⟩
    obtain ⟨-, -, c⟩ := hF.2.2.1 m hm
    show (mv (sgC D n).1 (fun _ => false) (fun j => j == n && D 1 j == 1)).1 m = _
    have hb : (m == n) = false := beq_eq_false_iff_ne.mpr (by omega)
    rw [c (by show (m == n && D 1 m == 1) = false; rw [hb]; rfl) rfl]
    exact i3 m hm (by omega)
set_option maxHeartbeats 4000000 in
set_option maxRecDepth 100000 in
theorem l8_sgL {C : zCx} {τ : Nat → ClassId} {ι : Nat → Nat} (hC : zOK C τ (zrm 3 0 0) yX8_planSingles.cls cX8_planSingles 3) {S0 : zS} {D : zD} (hCR : CR S0 D) (hI : INV D) (k : ∀ S' lv, SR S' 232 (sgL D 16).1 → zfrm 233 235 S0 S' → zsub lv [(0, .ref 0), (1, .int (nI (sgL D 16).2))] → zR C τ ι 3 0 0 45 lv [] (zcells S')) : ∀ (n i : Nat) (S : zS), i + n = 16 → SR S 232 (sgL D i).1 → zfrm 233 235 S0 S → zR C τ ι 3 0 0 4 [(0, .ref 0), (1, .int (nI (sgL D i).2)), (2, .int (nI i))] [] (zcells S) := by
  intro n
  induction n with
  | zero =>
    intro i S hi hS hF
    refine zr_iload_n hC dX8_planSingles_4 rfl ?_
    refine zk_bipush hC dX8_planSingles_5 (v := nI 16) (by decide +kernel) ?_
    refine zr_icmp_ge hC dX8_planSingles_7 (tgt := 45) (by decide) (fun c_7 => ?_) (fun c => absurd c (not_not_intro (nI_le (by omega) (by omega))))
    exact k S _ (by rw [show 16 = i by omega]; exact hS) hF ⟨rfl, by rw [show 16 = i by omega]; rfl, trivial⟩
  | succ n ih =>
    intro i S hi hS hF
    have hP := (sgL_I hI i (by omega)).2.2
    refine zr_iload_n hC dX8_planSingles_4 rfl ?_
    refine zk_bipush hC dX8_planSingles_5 (v := nI 16) (by decide +kernel) ?_
    refine zr_icmp_ge hC dX8_planSingles_7 (tgt := 45) (by decide) (fun c => absurd c (nI_ge (by omega) (by omega))) (fun c_7 => ?_)
    refine zr_iload_n hC dX8_planSingles_10 rfl ?_
    refine zr_aload_n hC dX8_planSingles_11 rfl ?_
    refine zs_getr hC dX8_planSingles_12 fl_X8_45 (a := 0) (r := 232) rfl (by decide) ?_
    refine zr_aload_n hC dX8_planSingles_15 rfl ?_
    refine zs_getr hC dX8_planSingles_16 fl_X8_45 (a := 0) (r := 232) rfl (by decide) ?_
    refine zr_aload_n hC dX8_planSingles_19 rfl ?_
    refine zs_getr hC dX8_planSingles_20 fl_X8_12 (a := 0) (r := 1) rfl (by decide) ?_
    refine zv_geti hC dX8_planSingles_23 fl_X8_88 (a := 1) rfl (by decide) ((congrFun (hF.1 1 (by decide)) 4).trans hCR.ms.2.1) ?_
    refine zk_iconst hC dX8_planSingles_26 (v := nI 1) (by decide +kernel) ?_
    refine zr_iload_n hC dX8_planSingles_27 rfl ?_
    refine zn_ishl hC dX8_planSingles_28 (z_shl1 i (by omega)) ?_
    refine zr_iand hC dX8_planSingles_29 ?_
    refine zk_iconst hC dX8_planSingles_30 (v := nI 0) (by decide +kernel) ?_
    refine zs_callV hC (b := 232) [_, _] [_, _] dX8_planSingles_31 ml_X8_220 mtX5_move tX5_move (by decide) (by decide) (by decide) rfl rfl (by decide) (by decide +kernel) (Nat.le_of_ble_eq_true rfl) rfl ?_
    refine ⟨232, _, _, _, rfl, Or.inr rfl, hS, fun m hm q => ?_, fun m hm q => ?_, ?_⟩
    · rw [one_bit hm] at q
      simp only [Bool.and_eq_true, beq_iff_eq] at q
      rw [hP m hm, if_neg (fun z => by omega)]
      have := hI.told hm
      rcases hI.leaf hm with z | z <;> omega
    · rw [no_bit hm] at q; cases q
    rw [mv_cong (P' := fun j => j == i && D 1 j == 2) (K' := fun _ => false) (fun m hm => one_bit hm) (fun m hm => no_bit hm)]
    intro S1 hs1 hf1
    dsimp only [Option.toList, List.cons_append, List.nil_append]
    refine zs_callV hC (b := 232) [_] [_] dX8_planSingles_34 ml_X8_223 mtX5_lettersFor tX5_lettersFor (by decide) (by decide) (by decide) rfl rfl (by decide) (by decide +kernel) (Nat.le_of_ble_eq_true rfl) rfl ?_
    refine ⟨232, _, _, rfl, Or.inr rfl, hs1, ?_⟩
    dsimp only [Option.toList, List.cons_append, List.nil_append]
    refine zn_iadd hC dX8_planSingles_37 (nI_add _ _) ?_
    refine zr_istore_n hC dX8_planSingles_38 (by decide) ?_
    refine zn_iinc hC dX8_planSingles_39 rfl (by decide) (zk_inc _ 1) ?_
    refine zr_goto hC dX8_planSingles_42 (tgt := 4) (by decide) ?_
    exact zR_sub [(0, .ref 0), (1, .int (nI (sgL D (i + 1)).2)), (2, .int (nI (i + 1)))] ⟨rfl, rfl, rfl, trivial⟩ (ih (i + 1) _ (by omega) hs1 (hF.tr hf1))
set_option maxHeartbeats 4000000 in
set_option maxRecDepth 100000 in
theorem l8_sgC {C : zCx} {τ : Nat → ClassId} {ι : Nat → Nat} (hC : zOK C τ (zrm 3 0 0) yX8_planSingles.cls cX8_planSingles 3) {S0 : zS} {D : zD} (hCR : CR S0 D) (hI : INV D) (k : ∀ S' lv, SR S' 232 (sgC D 16).1 → zfrm 233 235 S0 S' → zsub lv [(0, .ref 0), (1, .int (nI (sgC D 16).2))] → zR C τ ι 3 0 0 88 lv [] (zcells S')) : ∀ (n i : Nat) (S : zS), i + n = 16 → SR S 232 (sgC D i).1 → zfrm 233 235 S0 S → zR C τ ι 3 0 0 47 [(0, .ref 0), (1, .int (nI (sgC D i).2)), (2, .int (nI i))] [] (zcells S) := by
  intro n
  induction n with
  | zero =>
    intro i S hi hS hF
    refine zr_iload_n hC dX8_planSingles_47 rfl ?_
    refine zk_bipush hC dX8_planSingles_48 (v := nI 16) (by decide +kernel) ?_
    refine zr_icmp_ge hC dX8_planSingles_50 (tgt := 88) (by decide) (fun c_50 => ?_) (fun c => absurd c (not_not_intro (nI_le (by omega) (by omega))))
    exact k S _ (by rw [show 16 = i by omega]; exact hS) hF ⟨rfl, by rw [show 16 = i by omega]; rfl, trivial⟩
  | succ n ih =>
    intro i S hi hS hF
    have hP := (sgC_I hI i (by omega)).2.2
    refine zr_iload_n hC dX8_planSingles_47 rfl ?_
    refine zk_bipush hC dX8_planSingles_48 (v := nI 16) (by decide +kernel) ?_
    refine zr_icmp_ge hC dX8_planSingles_50 (tgt := 88) (by decide) (fun c => absurd c (nI_ge (by omega) (by omega))) (fun c_50 => ?_)
    refine zr_iload_n hC dX8_planSingles_53 rfl ?_
    refine zr_aload_n hC dX8_planSingles_54 rfl ?_
    refine zs_getr hC dX8_planSingles_55 fl_X8_45 (a := 0) (r := 232) rfl (by decide) ?_
    refine zr_aload_n hC dX8_planSingles_58 rfl ?_
    refine zs_getr hC dX8_planSingles_59 fl_X8_45 (a := 0) (r := 232) rfl (by decide) ?_
    refine zk_iconst hC dX8_planSingles_62 (v := nI 0) (by decide +kernel) ?_
    refine zr_aload_n hC dX8_planSingles_63 rfl ?_
    refine zs_getr hC dX8_planSingles_64 fl_X8_12 (a := 0) (r := 1) rfl (by decide) ?_
    refine zv_geti hC dX8_planSingles_67 fl_X8_72 (a := 1) rfl (by decide) ((congrFun (hF.1 1 (by decide)) 3).trans hCR.ms.1) ?_
    refine zk_iconst hC dX8_planSingles_70 (v := nI 1) (by decide +kernel) ?_
    refine zr_iload_n hC dX8_planSingles_71 rfl ?_
    refine zn_ishl hC dX8_planSingles_72 (z_shl1 i (by omega)) ?_
    refine zr_iand hC dX8_planSingles_73 ?_
    refine zs_callV hC (b := 232) [_, _] [_, _] dX8_planSingles_74 ml_X8_220 mtX5_move tX5_move (by decide) (by decide) (by decide) rfl rfl (by decide) (by decide +kernel) (Nat.le_of_ble_eq_true rfl) rfl ?_
    refine ⟨232, _, _, _, rfl, Or.inr rfl, hS, fun m hm q => ?_, fun m hm q => ?_, ?_⟩
    · rw [no_bit hm] at q; cases q
    · rw [one_bit hm] at q
      simp only [Bool.and_eq_true, beq_iff_eq] at q
      rw [hP m hm (by omega), if_neg (by omega)]
      have := hI.told hm
      omega
    rw [mv_cong (P' := fun _ => false) (K' := fun j => j == i && D 1 j == 1) (fun m hm => no_bit hm) (fun m hm => one_bit hm)]
    intro S1 hs1 hf1
    dsimp only [Option.toList, List.cons_append, List.nil_append]
    refine zs_callV hC (b := 232) [_] [_] dX8_planSingles_77 ml_X8_223 mtX5_lettersFor tX5_lettersFor (by decide) (by decide) (by decide) rfl rfl (by decide) (by decide +kernel) (Nat.le_of_ble_eq_true rfl) rfl ?_
    refine ⟨232, _, _, rfl, Or.inr rfl, hs1, ?_⟩
    dsimp only [Option.toList, List.cons_append, List.nil_append]
    refine zn_iadd hC dX8_planSingles_80 (nI_add _ _) ?_
    refine zr_istore_n hC dX8_planSingles_81 (by decide) ?_
    refine zn_iinc hC dX8_planSingles_82 rfl (by decide) (zk_inc _ 1) ?_
    refine zr_goto hC dX8_planSingles_85 (tgt := 47) (by decide) ?_
    exact zR_sub [(0, .ref 0), (1, .int (nI (sgC D (i + 1)).2)), (2, .int (nI (i + 1)))] ⟨rfl, rfl, rfl, trivial⟩ (ih (i + 1) _ (by omega) hs1 (hF.tr hf1))
def spX8_planSingles : zSp := fun av S Q => ∃ D : zD, av = [.ref 0] ∧ CR S D ∧ INV D ∧ SR S 232 (D 0) ∧ ∀ S', zfrm 233 235 S S' → Q (some (.int (nI (sgC D 16).2))) S'
set_option maxHeartbeats 4000000 in
set_option maxRecDepth 100000 in
theorem tX8_planSingles : zM yX8_planSingles cX8_planSingles 3 (some .int) 3 spX8_planSingles := by
  refine zM.of (by decide) (by decide) (fun av S Q h => by obtain ⟨D, rfl, hCR, hI, hS, hQ⟩ := h; exact Nat.le_of_ble_eq_true rfl) (fun C τ ι av S Q Qr h hr hC hE => ?_)
  obtain ⟨D, rfl, hCR, hI, hS, hQ⟩ := h
  show zR C τ ι _ 0 0 0 [(0, .ref 0)] [] _
  refine zk_iconst hC dX8_planSingles_0 (v := nI 0) (by decide +kernel) ?_
  refine zr_istore_n hC dX8_planSingles_1 (by decide) ?_
  refine zk_iconst hC dX8_planSingles_2 (v := nI 0) (by decide +kernel) ?_
  refine zr_istore_n hC dX8_planSingles_3 (by decide) ?_
  refine zR_sub [(0, .ref 0), (1, .int (nI (sgL D 0).2)), (2, .int (nI 0))] ⟨rfl, rfl, rfl, trivial⟩ ?_
  refine l8_sgL (S0 := S) hC hCR hI (fun S1 lv h1 h2 h3 => ?_) 16 0 S (by omega) hS zfrm.rf
  obtain ⟨v0, v1, -⟩ := h3
  refine zk_iconst hC dX8_planSingles_45 (v := nI 0) (by decide +kernel) ?_
  refine zr_istore_n hC dX8_planSingles_46 (by decide) ?_
  refine zR_sub [(0, .ref 0), (1, .int (nI (sgC D 0).2)), (2, .int (nI 0))] ⟨zlk_set (show 0 ≠ 2 by decide) v0, zlk_set (show 1 ≠ 2 by decide) v1, rfl, trivial⟩ ?_
  refine l8_sgC (S0 := S) hC hCR hI (fun S2 lv g1 g2 g3 => ?_) 16 0 S1 (by omega) h1 h2
  obtain ⟨w0, w1, -⟩ := g3
  refine zr_iload_n hC dX8_planSingles_88 w1 ?_
  exact zr_ireturn hC hE dX8_planSingles_89 (hr _ _ (hQ _ g2))
def spX8_due : zSp := fun av S Q => ∃ (G : zG) (w : Int32), av = [.ref 0, .int w] ∧ CG S G ∧ GI G ∧ ∀ S', CG S' G → zfc S S' → Q (some (.int (fDue w G))) S'
set_option maxHeartbeats 4000000 in
set_option maxRecDepth 100000 in
theorem tX8_due : zM yX8_due cX8_due 2 (some .int) 4 spX8_due := by
  refine zM.of (by decide) (by decide) (fun av S Q h => by obtain ⟨G, w, rfl, hCG, hGI, hQ⟩ := h; exact Nat.le_of_ble_eq_true rfl) (fun C τ ι av S Q Qr h hr hC hE => ?_)
  obtain ⟨G, w, rfl, hCG, hGI, hQ⟩ := h
  show zR C τ ι _ 0 0 0 [(0, .ref 0), (1, .int w)] [] _
  refine zr_iload_n hC dX8_due_0 rfl ?_
  refine zr_if_lt hC dX8_due_1 (tgt := 9) (by decide) (fun c_1 => ?_) (fun c_1 => ?_)
  · simp only [fDue, mm_no (n := 2) (Or.inl c_1)] at hQ
    refine zk_iconst hC dX8_due_9 (v := (-1)) (by decide +kernel) ?_
    exact zr_ireturn hC hE dX8_due_10 (hr _ _ (by first | exact hQ _ (hCG.scr hGI ((hf1.tr hf2).up (by decide) (by decide))) ((hf1.tr hf2).c (by decide)) | exact hQ _ hCG zfc.rf))
  · refine zr_iload_n hC dX8_due_4 rfl ?_
    refine zk_iconst hC dX8_due_5 (v := nI 1) (by decide +kernel) ?_
    refine zr_icmp_le hC dX8_due_6 (tgt := 11) (by decide) (fun c_6 => ?_) (fun c_6 => ?_)
    · have hw := z_01 c_1 c_6
      rcases hw with rfl | rfl
      · simp only [fDue, mm_yes (show 0 < 2 by decide) (show 2 < 2147483648 by decide)] at hQ
        refine zr_aload_n hC dX8_due_11 rfl ?_
        refine zs_getr hC dX8_due_12 fl_X8_45 (a := 0) (r := 232) rfl (by decide) ?_
        refine zr_aload_n hC dX8_due_15 rfl ?_
        refine zs_getr hC dX8_due_16 fl_X8_12 (a := 0) (r := 1) rfl (by decide) ?_
        refine zs_getr hC dX8_due_19 fl_X8_132 (a := 1) (r := 2) rfl (by decide) ?_
        refine zs_callV hC (b := 232) [_] [] dX8_due_22 ml_X8_217 mtX5_take tX5_take (by decide) (by decide) (by decide) rfl rfl (by decide) (by decide +kernel) (Nat.le_of_ble_eq_true rfl) rfl ?_
        obtain ⟨hs1, hf1⟩ := pl_SR hCG.1.sr
        refine ⟨232, 2, rfl, SQ_232, SQ_B isB_1, ?_⟩
        generalize zcpy (zcpy S (2 + 1) 0 (232 + 1) 0 16) (2 + 2) 0 (232 + 2) 0 32 = S1 at *
        dsimp only [Option.toList, List.nil_append]
        refine zr_iload_n hC dX8_due_25 rfl ?_
        refine zr_if_ne hC dX8_due_26 (tgt := 58) (by decide) (fun c => absurd c (by decide +kernel)) (fun c_26 => ?_)
        refine zr_aload_n hC dX8_due_29 rfl ?_
        refine zs_getr hC dX8_due_30 fl_X8_45 (a := 0) (r := 232) rfl (by decide) ?_
        refine zr_aload_n hC dX8_due_33 rfl ?_
        refine zs_getr hC dX8_due_34 fl_X8_45 (a := 0) (r := 232) rfl (by decide) ?_
        refine zr_aload_n hC dX8_due_37 rfl ?_
        refine zs_getr hC dX8_due_38 fl_X8_12 (a := 0) (r := 1) rfl (by decide) ?_
        refine zv_geti hC dX8_due_41 fl_X8_88 (a := 1) rfl (by decide) ((congrFun (hf1.1 1 (by decide)) 4).trans hCG.1.ms.2.1) ?_
        refine zr_aload_n hC dX8_due_44 rfl ?_
        refine zs_getr hC dX8_due_45 fl_X8_12 (a := 0) (r := 1) rfl (by decide) ?_
        refine zv_geti hC dX8_due_48 fl_X8_72 (a := 1) rfl (by decide) ((congrFun (hf1.1 1 (by decide)) 3).trans hCG.1.ms.1) ?_
        refine zs_callV hC (b := 232) [_, _] [_] dX8_due_51 ml_X8_220 mtX5_move tX5_move (by decide) (by decide) (by decide) rfl rfl (by decide) (by decide +kernel) (Nat.le_of_ble_eq_true rfl) rfl ?_
        refine ⟨232, _, _, G.1 0, rfl, Or.inr rfl, hs1, fun m hm q => ?_, fun m hm q => ?_, ?_⟩
        · rw [dm_b1 hm] at q
          have := hGI.1.told hm
          rcases hGI.1.leaf hm with z | z <;> omega
        · rw [dm_b1 hm] at q
          have := hGI.1.told hm
          omega
        rw [mv_bits]
        intro S2 hs2 hf2
        dsimp only [Option.toList, List.cons_append, List.nil_append]
        refine zs_callV hC (b := 232) [_] [] dX8_due_54 ml_X8_223 mtX5_lettersFor tX5_lettersFor (by decide) (by decide) (by decide) rfl rfl (by decide) (by decide +kernel) (Nat.le_of_ble_eq_true rfl) rfl ?_
        refine ⟨232, _, _, rfl, Or.inr rfl, hs2, ?_⟩
        dsimp only [Option.toList, List.cons_append, List.nil_append]
        exact zr_ireturn hC hE dX8_due_57 (hr _ _ (by first | exact hQ _ (hCG.scr hGI ((hf1.tr hf2).up (by decide) (by decide))) ((hf1.tr hf2).c (by decide)) | exact hQ _ hCG zfc.rf))
      · simp only [fDue, mm_yes (show 1 < 2 by decide) (show 2 < 2147483648 by decide)] at hQ
        refine zr_aload_n hC dX8_due_11 rfl ?_
        refine zs_getr hC dX8_due_12 fl_X8_45 (a := 0) (r := 232) rfl (by decide) ?_
        refine zr_aload_n hC dX8_due_15 rfl ?_
        refine zs_getr hC dX8_due_16 fl_X8_12 (a := 0) (r := 1) rfl (by decide) ?_
        refine zs_getr hC dX8_due_19 fl_X8_132 (a := 1) (r := 2) rfl (by decide) ?_
        refine zs_callV hC (b := 232) [_] [] dX8_due_22 ml_X8_217 mtX5_take tX5_take (by decide) (by decide) (by decide) rfl rfl (by decide) (by decide +kernel) (Nat.le_of_ble_eq_true rfl) rfl ?_
        obtain ⟨hs1, hf1⟩ := pl_SR hCG.1.sr
        refine ⟨232, 2, rfl, SQ_232, SQ_B isB_1, ?_⟩
        generalize zcpy (zcpy S (2 + 1) 0 (232 + 1) 0 16) (2 + 2) 0 (232 + 2) 0 32 = S1 at *
        dsimp only [Option.toList, List.nil_append]
        refine zr_iload_n hC dX8_due_25 rfl ?_
        refine zr_if_ne hC dX8_due_26 (tgt := 58) (by decide) (fun c_26 => ?_) (fun c => absurd c (by decide +kernel))
        refine zr_aload_n hC dX8_due_58 rfl ?_
        refine zs_callV hC (b := 0) [] [] dX8_due_59 ml_X8_226 mtX8_planSingles tX8_planSingles (by decide) (by decide) (by decide) rfl rfl (by decide) (by decide +kernel) (Nat.le_of_ble_eq_true rfl) rfl ?_
        refine ⟨G.1, rfl, (CRb_1 hGI.1).mp (((CRb_1 hGI.1).mpr hCG.1).fr hGI.1 (fun a q1 q2 => hf1.1 a (by omega))), hGI.1, hs1, fun S2 hf2 => ?_⟩
        dsimp only [Option.toList, List.cons_append, List.nil_append]
        exact zr_ireturn hC hE dX8_due_62 (hr _ _ (by first | exact hQ _ (hCG.scr hGI ((hf1.tr hf2).up (by decide) (by decide))) ((hf1.tr hf2).c (by decide)) | exact hQ _ hCG zfc.rf))
    · simp only [fDue, mm_no (Or.inr (z_lt1 c_6))] at hQ
      refine zk_iconst hC dX8_due_9 (v := (-1)) (by decide +kernel) ?_
      exact zr_ireturn hC hE dX8_due_10 (hr _ _ (by first | exact hQ _ (hCG.scr hGI ((hf1.tr hf2).up (by decide) (by decide))) ((hf1.tr hf2).c (by decide)) | exact hQ _ hCG zfc.rf))
def spX8_commonOfTen : zSp := fun av S Q => ∃ k : Nat, av = [.int (nI k)] ∧ k ≤ 10 ∧ Q (some (.int (nI (Nat.gcd 10 k)))) S
set_option maxHeartbeats 4000000 in
set_option maxRecDepth 100000 in
theorem tX8_commonOfTen : zM yX8_commonOfTen cX8_commonOfTen 2 (some .int) 0 spX8_commonOfTen := by
  refine zM.of (by decide) (by decide) (fun av S Q h => by obtain ⟨k, rfl, hk, hQ⟩ := h; exact Nat.le_of_ble_eq_true rfl) (fun C τ ι av S Q Qr h hr hC hE => ?_)
  obtain ⟨k, rfl, hk, hQ⟩ := h
  show zR C τ ι _ 0 0 0 [(0, .int (nI k))] [] _
  rcases (by omega : k = 0 ∨ k = 1 ∨ k = 2 ∨ k = 3 ∨ k = 4 ∨ k = 5 ∨ k = 6 ∨ k = 7 ∨ k = 8 ∨ k = 9 ∨ k = 10) with rfl | rfl | rfl | rfl | rfl | rfl | rfl | rfl | rfl | rfl | rfl
  · rw [show Nat.gcd 10 0 = 10 by decide +kernel] at hQ
    refine zk_bipush hC dX8_commonOfTen_0 (v := nI 10) (by decide +kernel) ?_
    refine zr_istore_n hC dX8_commonOfTen_2 (by decide) ?_
    refine zr_iload_n hC dX8_commonOfTen_3 rfl ?_
    refine zk_iconst hC dX8_commonOfTen_4 (v := nI 1) (by decide +kernel) ?_
    refine zr_icmp_le hC dX8_commonOfTen_5 (tgt := 29) (by decide) (fun c => absurd c (by decide +kernel)) (fun c_5 => ?_)
    refine zk_bipush hC dX8_commonOfTen_8 (v := nI 10) (by decide +kernel) ?_
    refine zr_iload_n hC dX8_commonOfTen_10 rfl ?_
    refine zn_irem hC dX8_commonOfTen_11 (by decide +kernel) (v := nI 0) (by decide +kernel) ?_
    refine zr_if_ne hC dX8_commonOfTen_12 (tgt := 23) (by decide) (fun c => absurd c (by decide +kernel)) (fun c_12 => ?_)
    refine zr_iload_n hC dX8_commonOfTen_15 rfl ?_
    refine zr_iload_n hC dX8_commonOfTen_16 rfl ?_
    refine zn_irem hC dX8_commonOfTen_17 (by decide +kernel) (v := nI 0) (by decide +kernel) ?_
    refine zr_if_ne hC dX8_commonOfTen_18 (tgt := 23) (by decide) (fun c => absurd c (by decide +kernel)) (fun c_18 => ?_)
    refine zr_iload_n hC dX8_commonOfTen_21 rfl ?_
    exact zr_ireturn hC hE dX8_commonOfTen_22 (hr _ _ (hQ))
  · rw [show Nat.gcd 10 1 = 1 by decide +kernel] at hQ
    refine zk_bipush hC dX8_commonOfTen_0 (v := nI 10) (by decide +kernel) ?_
    refine zr_istore_n hC dX8_commonOfTen_2 (by decide) ?_
    refine zr_iload_n hC dX8_commonOfTen_3 rfl ?_
    refine zk_iconst hC dX8_commonOfTen_4 (v := nI 1) (by decide +kernel) ?_
    refine zr_icmp_le hC dX8_commonOfTen_5 (tgt := 29) (by decide) (fun c => absurd c (by decide +kernel)) (fun c_5 => ?_)
    refine zk_bipush hC dX8_commonOfTen_8 (v := nI 10) (by decide +kernel) ?_
    refine zr_iload_n hC dX8_commonOfTen_10 rfl ?_
    refine zn_irem hC dX8_commonOfTen_11 (by decide +kernel) (v := nI 0) (by decide +kernel) ?_
    refine zr_if_ne hC dX8_commonOfTen_12 (tgt := 23) (by decide) (fun c => absurd c (by decide +kernel)) (fun c_12 => ?_)
    refine zr_iload_n hC dX8_commonOfTen_15 rfl ?_
    refine zr_iload_n hC dX8_commonOfTen_16 rfl ?_
    refine zn_irem hC dX8_commonOfTen_17 (by decide +kernel) (v := nI 1) (by decide +kernel) ?_
    refine zr_if_ne hC dX8_commonOfTen_18 (tgt := 23) (by decide) (fun c_18 => ?_) (fun c => absurd c (by decide +kernel))
    refine zn_iinc hC dX8_commonOfTen_23 rfl (by decide) (v := nI 9) (by decide +kernel) ?_
    refine zr_goto hC dX8_commonOfTen_26 (tgt := 3) (by decide) ?_
    refine zr_iload_n hC dX8_commonOfTen_3 rfl ?_
    refine zk_iconst hC dX8_commonOfTen_4 (v := nI 1) (by decide +kernel) ?_
    refine zr_icmp_le hC dX8_commonOfTen_5 (tgt := 29) (by decide) (fun c => absurd c (by decide +kernel)) (fun c_5 => ?_)
    refine zk_bipush hC dX8_commonOfTen_8 (v := nI 10) (by decide +kernel) ?_
    refine zr_iload_n hC dX8_commonOfTen_10 rfl ?_
    refine zn_irem hC dX8_commonOfTen_11 (by decide +kernel) (v := nI 1) (by decide +kernel) ?_
    refine zr_if_ne hC dX8_commonOfTen_12 (tgt := 23) (by decide) (fun c_12 => ?_) (fun c => absurd c (by decide +kernel))
    refine zn_iinc hC dX8_commonOfTen_23 rfl (by decide) (v := nI 8) (by decide +kernel) ?_
    refine zr_goto hC dX8_commonOfTen_26 (tgt := 3) (by decide) ?_
    refine zr_iload_n hC dX8_commonOfTen_3 rfl ?_
    refine zk_iconst hC dX8_commonOfTen_4 (v := nI 1) (by decide +kernel) ?_
    refine zr_icmp_le hC dX8_commonOfTen_5 (tgt := 29) (by decide) (fun c => absurd c (by decide +kernel)) (fun c_5 => ?_)
    refine zk_bipush hC dX8_commonOfTen_8 (v := nI 10) (by decide +kernel) ?_
    refine zr_iload_n hC dX8_commonOfTen_10 rfl ?_
    refine zn_irem hC dX8_commonOfTen_11 (by decide +kernel) (v := nI 2) (by decide +kernel) ?_
    refine zr_if_ne hC dX8_commonOfTen_12 (tgt := 23) (by decide) (fun c_12 => ?_) (fun c => absurd c (by decide +kernel))
    refine zn_iinc hC dX8_commonOfTen_23 rfl (by decide) (v := nI 7) (by decide +kernel) ?_
    refine zr_goto hC dX8_commonOfTen_26 (tgt := 3) (by decide) ?_
    refine zr_iload_n hC dX8_commonOfTen_3 rfl ?_
    refine zk_iconst hC dX8_commonOfTen_4 (v := nI 1) (by decide +kernel) ?_
    refine zr_icmp_le hC dX8_commonOfTen_5 (tgt := 29) (by decide) (fun c => absurd c (by decide +kernel)) (fun c_5 => ?_)
    refine zk_bipush hC dX8_commonOfTen_8 (v := nI 10) (by decide +kernel) ?_
    refine zr_iload_n hC dX8_commonOfTen_10 rfl ?_
    refine zn_irem hC dX8_commonOfTen_11 (by decide +kernel) (v := nI 3) (by decide +kernel) ?_
    refine zr_if_ne hC dX8_commonOfTen_12 (tgt := 23) (by decide) (fun c_12 => ?_) (fun c => absurd c (by decide +kernel))
    refine zn_iinc hC dX8_commonOfTen_23 rfl (by decide) (v := nI 6) (by decide +kernel) ?_
    refine zr_goto hC dX8_commonOfTen_26 (tgt := 3) (by decide) ?_
    refine zr_iload_n hC dX8_commonOfTen_3 rfl ?_
    refine zk_iconst hC dX8_commonOfTen_4 (v := nI 1) (by decide +kernel) ?_
    refine zr_icmp_le hC dX8_commonOfTen_5 (tgt := 29) (by decide) (fun c => absurd c (by decide +kernel)) (fun c_5 => ?_)
    refine zk_bipush hC dX8_commonOfTen_8 (v := nI 10) (by decide +kernel) ?_
    refine zr_iload_n hC dX8_commonOfTen_10 rfl ?_
    refine zn_irem hC dX8_commonOfTen_11 (by decide +kernel) (v := nI 4) (by decide +kernel) ?_
    refine zr_if_ne hC dX8_commonOfTen_12 (tgt := 23) (by decide) (fun c_12 => ?_) (fun c => absurd c (by decide +kernel))
    refine zn_iinc hC dX8_commonOfTen_23 rfl (by decide) (v := nI 5) (by decide +kernel) ?_
    refine zr_goto hC dX8_commonOfTen_26 (tgt := 3) (by decide) ?_
    refine zr_iload_n hC dX8_commonOfTen_3 rfl ?_
    refine zk_iconst hC dX8_commonOfTen_4 (v := nI 1) (by decide +kernel) ?_
    refine zr_icmp_le hC dX8_commonOfTen_5 (tgt := 29) (by decide) (fun c => absurd c (by decide +kernel)) (fun c_5 => ?_)
    refine zk_bipush hC dX8_commonOfTen_8 (v := nI 10) (by decide +kernel) ?_
    refine zr_iload_n hC dX8_commonOfTen_10 rfl ?_
    refine zn_irem hC dX8_commonOfTen_11 (by decide +kernel) (v := nI 0) (by decide +kernel) ?_
    refine zr_if_ne hC dX8_commonOfTen_12 (tgt := 23) (by decide) (fun c => absurd c (by decide +kernel)) (fun c_12 => ?_)
    refine zr_iload_n hC dX8_commonOfTen_15 rfl ?_
    refine zr_iload_n hC dX8_commonOfTen_16 rfl ?_
    refine zn_irem hC dX8_commonOfTen_17 (by decide +kernel) (v := nI 1) (by decide +kernel) ?_
    refine zr_if_ne hC dX8_commonOfTen_18 (tgt := 23) (by decide) (fun c_18 => ?_) (fun c => absurd c (by decide +kernel))
    refine zn_iinc hC dX8_commonOfTen_23 rfl (by decide) (v := nI 4) (by decide +kernel) ?_
    refine zr_goto hC dX8_commonOfTen_26 (tgt := 3) (by decide) ?_
    refine zr_iload_n hC dX8_commonOfTen_3 rfl ?_
    refine zk_iconst hC dX8_commonOfTen_4 (v := nI 1) (by decide +kernel) ?_
    refine zr_icmp_le hC dX8_commonOfTen_5 (tgt := 29) (by decide) (fun c => absurd c (by decide +kernel)) (fun c_5 => ?_)
    refine zk_bipush hC dX8_commonOfTen_8 (v := nI 10) (by decide +kernel) ?_
    refine zr_iload_n hC dX8_commonOfTen_10 rfl ?_
    refine zn_irem hC dX8_commonOfTen_11 (by decide +kernel) (v := nI 2) (by decide +kernel) ?_
    refine zr_if_ne hC dX8_commonOfTen_12 (tgt := 23) (by decide) (fun c_12 => ?_) (fun c => absurd c (by decide +kernel))
    refine zn_iinc hC dX8_commonOfTen_23 rfl (by decide) (v := nI 3) (by decide +kernel) ?_
    refine zr_goto hC dX8_commonOfTen_26 (tgt := 3) (by decide) ?_
    refine zr_iload_n hC dX8_commonOfTen_3 rfl ?_
    refine zk_iconst hC dX8_commonOfTen_4 (v := nI 1) (by decide +kernel) ?_
    refine zr_icmp_le hC dX8_commonOfTen_5 (tgt := 29) (by decide) (fun c => absurd c (by decide +kernel)) (fun c_5 => ?_)
    refine zk_bipush hC dX8_commonOfTen_8 (v := nI 10) (by decide +kernel) ?_
    refine zr_iload_n hC dX8_commonOfTen_10 rfl ?_
    refine zn_irem hC dX8_commonOfTen_11 (by decide +kernel) (v := nI 1) (by decide +kernel) ?_
    refine zr_if_ne hC dX8_commonOfTen_12 (tgt := 23) (by decide) (fun c_12 => ?_) (fun c => absurd c (by decide +kernel))
    refine zn_iinc hC dX8_commonOfTen_23 rfl (by decide) (v := nI 2) (by decide +kernel) ?_
    refine zr_goto hC dX8_commonOfTen_26 (tgt := 3) (by decide) ?_
    refine zr_iload_n hC dX8_commonOfTen_3 rfl ?_
    refine zk_iconst hC dX8_commonOfTen_4 (v := nI 1) (by decide +kernel) ?_
    refine zr_icmp_le hC dX8_commonOfTen_5 (tgt := 29) (by decide) (fun c => absurd c (by decide +kernel)) (fun c_5 => ?_)
    refine zk_bipush hC dX8_commonOfTen_8 (v := nI 10) (by decide +kernel) ?_
    refine zr_iload_n hC dX8_commonOfTen_10 rfl ?_
    refine zn_irem hC dX8_commonOfTen_11 (by decide +kernel) (v := nI 0) (by decide +kernel) ?_
    refine zr_if_ne hC dX8_commonOfTen_12 (tgt := 23) (by decide) (fun c => absurd c (by decide +kernel)) (fun c_12 => ?_)
    refine zr_iload_n hC dX8_commonOfTen_15 rfl ?_
    refine zr_iload_n hC dX8_commonOfTen_16 rfl ?_
    refine zn_irem hC dX8_commonOfTen_17 (by decide +kernel) (v := nI 1) (by decide +kernel) ?_
    refine zr_if_ne hC dX8_commonOfTen_18 (tgt := 23) (by decide) (fun c_18 => ?_) (fun c => absurd c (by decide +kernel))
    refine zn_iinc hC dX8_commonOfTen_23 rfl (by decide) (v := nI 1) (by decide +kernel) ?_
    refine zr_goto hC dX8_commonOfTen_26 (tgt := 3) (by decide) ?_
    refine zr_iload_n hC dX8_commonOfTen_3 rfl ?_
    refine zk_iconst hC dX8_commonOfTen_4 (v := nI 1) (by decide +kernel) ?_
    refine zr_icmp_le hC dX8_commonOfTen_5 (tgt := 29) (by decide) (fun c_5 => ?_) (fun c => absurd c (by decide +kernel))
    refine zk_iconst hC dX8_commonOfTen_29 (v := nI 1) (by decide +kernel) ?_
    exact zr_ireturn hC hE dX8_commonOfTen_30 (hr _ _ (hQ))
  · rw [show Nat.gcd 10 2 = 2 by decide +kernel] at hQ
    refine zk_bipush hC dX8_commonOfTen_0 (v := nI 10) (by decide +kernel) ?_
    refine zr_istore_n hC dX8_commonOfTen_2 (by decide) ?_
    refine zr_iload_n hC dX8_commonOfTen_3 rfl ?_
    refine zk_iconst hC dX8_commonOfTen_4 (v := nI 1) (by decide +kernel) ?_
    refine zr_icmp_le hC dX8_commonOfTen_5 (tgt := 29) (by decide) (fun c => absurd c (by decide +kernel)) (fun c_5 => ?_)
    refine zk_bipush hC dX8_commonOfTen_8 (v := nI 10) (by decide +kernel) ?_
    refine zr_iload_n hC dX8_commonOfTen_10 rfl ?_
    refine zn_irem hC dX8_commonOfTen_11 (by decide +kernel) (v := nI 0) (by decide +kernel) ?_
    refine zr_if_ne hC dX8_commonOfTen_12 (tgt := 23) (by decide) (fun c => absurd c (by decide +kernel)) (fun c_12 => ?_)
    refine zr_iload_n hC dX8_commonOfTen_15 rfl ?_
    refine zr_iload_n hC dX8_commonOfTen_16 rfl ?_
    refine zn_irem hC dX8_commonOfTen_17 (by decide +kernel) (v := nI 2) (by decide +kernel) ?_
    refine zr_if_ne hC dX8_commonOfTen_18 (tgt := 23) (by decide) (fun c_18 => ?_) (fun c => absurd c (by decide +kernel))
    refine zn_iinc hC dX8_commonOfTen_23 rfl (by decide) (v := nI 9) (by decide +kernel) ?_
    refine zr_goto hC dX8_commonOfTen_26 (tgt := 3) (by decide) ?_
    refine zr_iload_n hC dX8_commonOfTen_3 rfl ?_
    refine zk_iconst hC dX8_commonOfTen_4 (v := nI 1) (by decide +kernel) ?_
    refine zr_icmp_le hC dX8_commonOfTen_5 (tgt := 29) (by decide) (fun c => absurd c (by decide +kernel)) (fun c_5 => ?_)
    refine zk_bipush hC dX8_commonOfTen_8 (v := nI 10) (by decide +kernel) ?_
    refine zr_iload_n hC dX8_commonOfTen_10 rfl ?_
    refine zn_irem hC dX8_commonOfTen_11 (by decide +kernel) (v := nI 1) (by decide +kernel) ?_
    refine zr_if_ne hC dX8_commonOfTen_12 (tgt := 23) (by decide) (fun c_12 => ?_) (fun c => absurd c (by decide +kernel))
    refine zn_iinc hC dX8_commonOfTen_23 rfl (by decide) (v := nI 8) (by decide +kernel) ?_
    refine zr_goto hC dX8_commonOfTen_26 (tgt := 3) (by decide) ?_
    refine zr_iload_n hC dX8_commonOfTen_3 rfl ?_
    refine zk_iconst hC dX8_commonOfTen_4 (v := nI 1) (by decide +kernel) ?_
    refine zr_icmp_le hC dX8_commonOfTen_5 (tgt := 29) (by decide) (fun c => absurd c (by decide +kernel)) (fun c_5 => ?_)
    refine zk_bipush hC dX8_commonOfTen_8 (v := nI 10) (by decide +kernel) ?_
    refine zr_iload_n hC dX8_commonOfTen_10 rfl ?_
    refine zn_irem hC dX8_commonOfTen_11 (by decide +kernel) (v := nI 2) (by decide +kernel) ?_
    refine zr_if_ne hC dX8_commonOfTen_12 (tgt := 23) (by decide) (fun c_12 => ?_) (fun c => absurd c (by decide +kernel))
    refine zn_iinc hC dX8_commonOfTen_23 rfl (by decide) (v := nI 7) (by decide +kernel) ?_
    refine zr_goto hC dX8_commonOfTen_26 (tgt := 3) (by decide) ?_
    refine zr_iload_n hC dX8_commonOfTen_3 rfl ?_
    refine zk_iconst hC dX8_commonOfTen_4 (v := nI 1) (by decide +kernel) ?_
    refine zr_icmp_le hC dX8_commonOfTen_5 (tgt := 29) (by decide) (fun c => absurd c (by decide +kernel)) (fun c_5 => ?_)
    refine zk_bipush hC dX8_commonOfTen_8 (v := nI 10) (by decide +kernel) ?_
    refine zr_iload_n hC dX8_commonOfTen_10 rfl ?_
    refine zn_irem hC dX8_commonOfTen_11 (by decide +kernel) (v := nI 3) (by decide +kernel) ?_
    refine zr_if_ne hC dX8_commonOfTen_12 (tgt := 23) (by decide) (fun c_12 => ?_) (fun c => absurd c (by decide +kernel))
    refine zn_iinc hC dX8_commonOfTen_23 rfl (by decide) (v := nI 6) (by decide +kernel) ?_
    refine zr_goto hC dX8_commonOfTen_26 (tgt := 3) (by decide) ?_
    refine zr_iload_n hC dX8_commonOfTen_3 rfl ?_
    refine zk_iconst hC dX8_commonOfTen_4 (v := nI 1) (by decide +kernel) ?_
    refine zr_icmp_le hC dX8_commonOfTen_5 (tgt := 29) (by decide) (fun c => absurd c (by decide +kernel)) (fun c_5 => ?_)
    refine zk_bipush hC dX8_commonOfTen_8 (v := nI 10) (by decide +kernel) ?_
    refine zr_iload_n hC dX8_commonOfTen_10 rfl ?_
    refine zn_irem hC dX8_commonOfTen_11 (by decide +kernel) (v := nI 4) (by decide +kernel) ?_
    refine zr_if_ne hC dX8_commonOfTen_12 (tgt := 23) (by decide) (fun c_12 => ?_) (fun c => absurd c (by decide +kernel))
    refine zn_iinc hC dX8_commonOfTen_23 rfl (by decide) (v := nI 5) (by decide +kernel) ?_
    refine zr_goto hC dX8_commonOfTen_26 (tgt := 3) (by decide) ?_
    refine zr_iload_n hC dX8_commonOfTen_3 rfl ?_
    refine zk_iconst hC dX8_commonOfTen_4 (v := nI 1) (by decide +kernel) ?_
    refine zr_icmp_le hC dX8_commonOfTen_5 (tgt := 29) (by decide) (fun c => absurd c (by decide +kernel)) (fun c_5 => ?_)
    refine zk_bipush hC dX8_commonOfTen_8 (v := nI 10) (by decide +kernel) ?_
    refine zr_iload_n hC dX8_commonOfTen_10 rfl ?_
    refine zn_irem hC dX8_commonOfTen_11 (by decide +kernel) (v := nI 0) (by decide +kernel) ?_
    refine zr_if_ne hC dX8_commonOfTen_12 (tgt := 23) (by decide) (fun c => absurd c (by decide +kernel)) (fun c_12 => ?_)
    refine zr_iload_n hC dX8_commonOfTen_15 rfl ?_
    refine zr_iload_n hC dX8_commonOfTen_16 rfl ?_
    refine zn_irem hC dX8_commonOfTen_17 (by decide +kernel) (v := nI 2) (by decide +kernel) ?_
    refine zr_if_ne hC dX8_commonOfTen_18 (tgt := 23) (by decide) (fun c_18 => ?_) (fun c => absurd c (by decide +kernel))
    refine zn_iinc hC dX8_commonOfTen_23 rfl (by decide) (v := nI 4) (by decide +kernel) ?_
    refine zr_goto hC dX8_commonOfTen_26 (tgt := 3) (by decide) ?_
    refine zr_iload_n hC dX8_commonOfTen_3 rfl ?_
    refine zk_iconst hC dX8_commonOfTen_4 (v := nI 1) (by decide +kernel) ?_
    refine zr_icmp_le hC dX8_commonOfTen_5 (tgt := 29) (by decide) (fun c => absurd c (by decide +kernel)) (fun c_5 => ?_)
    refine zk_bipush hC dX8_commonOfTen_8 (v := nI 10) (by decide +kernel) ?_
    refine zr_iload_n hC dX8_commonOfTen_10 rfl ?_
    refine zn_irem hC dX8_commonOfTen_11 (by decide +kernel) (v := nI 2) (by decide +kernel) ?_
    refine zr_if_ne hC dX8_commonOfTen_12 (tgt := 23) (by decide) (fun c_12 => ?_) (fun c => absurd c (by decide +kernel))
    refine zn_iinc hC dX8_commonOfTen_23 rfl (by decide) (v := nI 3) (by decide +kernel) ?_
    refine zr_goto hC dX8_commonOfTen_26 (tgt := 3) (by decide) ?_
    refine zr_iload_n hC dX8_commonOfTen_3 rfl ?_
    refine zk_iconst hC dX8_commonOfTen_4 (v := nI 1) (by decide +kernel) ?_
    refine zr_icmp_le hC dX8_commonOfTen_5 (tgt := 29) (by decide) (fun c => absurd c (by decide +kernel)) (fun c_5 => ?_)
    refine zk_bipush hC dX8_commonOfTen_8 (v := nI 10) (by decide +kernel) ?_
    refine zr_iload_n hC dX8_commonOfTen_10 rfl ?_
    refine zn_irem hC dX8_commonOfTen_11 (by decide +kernel) (v := nI 1) (by decide +kernel) ?_
    refine zr_if_ne hC dX8_commonOfTen_12 (tgt := 23) (by decide) (fun c_12 => ?_) (fun c => absurd c (by decide +kernel))
    refine zn_iinc hC dX8_commonOfTen_23 rfl (by decide) (v := nI 2) (by decide +kernel) ?_
    refine zr_goto hC dX8_commonOfTen_26 (tgt := 3) (by decide) ?_
    refine zr_iload_n hC dX8_commonOfTen_3 rfl ?_
    refine zk_iconst hC dX8_commonOfTen_4 (v := nI 1) (by decide +kernel) ?_
    refine zr_icmp_le hC dX8_commonOfTen_5 (tgt := 29) (by decide) (fun c => absurd c (by decide +kernel)) (fun c_5 => ?_)
    refine zk_bipush hC dX8_commonOfTen_8 (v := nI 10) (by decide +kernel) ?_
    refine zr_iload_n hC dX8_commonOfTen_10 rfl ?_
    refine zn_irem hC dX8_commonOfTen_11 (by decide +kernel) (v := nI 0) (by decide +kernel) ?_
    refine zr_if_ne hC dX8_commonOfTen_12 (tgt := 23) (by decide) (fun c => absurd c (by decide +kernel)) (fun c_12 => ?_)
    refine zr_iload_n hC dX8_commonOfTen_15 rfl ?_
    refine zr_iload_n hC dX8_commonOfTen_16 rfl ?_
    refine zn_irem hC dX8_commonOfTen_17 (by decide +kernel) (v := nI 0) (by decide +kernel) ?_
    refine zr_if_ne hC dX8_commonOfTen_18 (tgt := 23) (by decide) (fun c => absurd c (by decide +kernel)) (fun c_18 => ?_)
    refine zr_iload_n hC dX8_commonOfTen_21 rfl ?_
    exact zr_ireturn hC hE dX8_commonOfTen_22 (hr _ _ (hQ))
  · rw [show Nat.gcd 10 3 = 1 by decide +kernel] at hQ
    refine zk_bipush hC dX8_commonOfTen_0 (v := nI 10) (by decide +kernel) ?_
    refine zr_istore_n hC dX8_commonOfTen_2 (by decide) ?_
    refine zr_iload_n hC dX8_commonOfTen_3 rfl ?_
    refine zk_iconst hC dX8_commonOfTen_4 (v := nI 1) (by decide +kernel) ?_
    refine zr_icmp_le hC dX8_commonOfTen_5 (tgt := 29) (by decide) (fun c => absurd c (by decide +kernel)) (fun c_5 => ?_)
    refine zk_bipush hC dX8_commonOfTen_8 (v := nI 10) (by decide +kernel) ?_
    refine zr_iload_n hC dX8_commonOfTen_10 rfl ?_
    refine zn_irem hC dX8_commonOfTen_11 (by decide +kernel) (v := nI 0) (by decide +kernel) ?_
    refine zr_if_ne hC dX8_commonOfTen_12 (tgt := 23) (by decide) (fun c => absurd c (by decide +kernel)) (fun c_12 => ?_)
    refine zr_iload_n hC dX8_commonOfTen_15 rfl ?_
    refine zr_iload_n hC dX8_commonOfTen_16 rfl ?_
    refine zn_irem hC dX8_commonOfTen_17 (by decide +kernel) (v := nI 3) (by decide +kernel) ?_
    refine zr_if_ne hC dX8_commonOfTen_18 (tgt := 23) (by decide) (fun c_18 => ?_) (fun c => absurd c (by decide +kernel))
    refine zn_iinc hC dX8_commonOfTen_23 rfl (by decide) (v := nI 9) (by decide +kernel) ?_
    refine zr_goto hC dX8_commonOfTen_26 (tgt := 3) (by decide) ?_
    refine zr_iload_n hC dX8_commonOfTen_3 rfl ?_
    refine zk_iconst hC dX8_commonOfTen_4 (v := nI 1) (by decide +kernel) ?_
    refine zr_icmp_le hC dX8_commonOfTen_5 (tgt := 29) (by decide) (fun c => absurd c (by decide +kernel)) (fun c_5 => ?_)
    refine zk_bipush hC dX8_commonOfTen_8 (v := nI 10) (by decide +kernel) ?_
    refine zr_iload_n hC dX8_commonOfTen_10 rfl ?_
    refine zn_irem hC dX8_commonOfTen_11 (by decide +kernel) (v := nI 1) (by decide +kernel) ?_
    refine zr_if_ne hC dX8_commonOfTen_12 (tgt := 23) (by decide) (fun c_12 => ?_) (fun c => absurd c (by decide +kernel))
    refine zn_iinc hC dX8_commonOfTen_23 rfl (by decide) (v := nI 8) (by decide +kernel) ?_
    refine zr_goto hC dX8_commonOfTen_26 (tgt := 3) (by decide) ?_
    refine zr_iload_n hC dX8_commonOfTen_3 rfl ?_
    refine zk_iconst hC dX8_commonOfTen_4 (v := nI 1) (by decide +kernel) ?_
    refine zr_icmp_le hC dX8_commonOfTen_5 (tgt := 29) (by decide) (fun c => absurd c (by decide +kernel)) (fun c_5 => ?_)
    refine zk_bipush hC dX8_commonOfTen_8 (v := nI 10) (by decide +kernel) ?_
    refine zr_iload_n hC dX8_commonOfTen_10 rfl ?_
    refine zn_irem hC dX8_commonOfTen_11 (by decide +kernel) (v := nI 2) (by decide +kernel) ?_
    refine zr_if_ne hC dX8_commonOfTen_12 (tgt := 23) (by decide) (fun c_12 => ?_) (fun c => absurd c (by decide +kernel))
    refine zn_iinc hC dX8_commonOfTen_23 rfl (by decide) (v := nI 7) (by decide +kernel) ?_
    refine zr_goto hC dX8_commonOfTen_26 (tgt := 3) (by decide) ?_
    refine zr_iload_n hC dX8_commonOfTen_3 rfl ?_
    refine zk_iconst hC dX8_commonOfTen_4 (v := nI 1) (by decide +kernel) ?_
    refine zr_icmp_le hC dX8_commonOfTen_5 (tgt := 29) (by decide) (fun c => absurd c (by decide +kernel)) (fun c_5 => ?_)
    refine zk_bipush hC dX8_commonOfTen_8 (v := nI 10) (by decide +kernel) ?_
    refine zr_iload_n hC dX8_commonOfTen_10 rfl ?_
    refine zn_irem hC dX8_commonOfTen_11 (by decide +kernel) (v := nI 3) (by decide +kernel) ?_
    refine zr_if_ne hC dX8_commonOfTen_12 (tgt := 23) (by decide) (fun c_12 => ?_) (fun c => absurd c (by decide +kernel))
    refine zn_iinc hC dX8_commonOfTen_23 rfl (by decide) (v := nI 6) (by decide +kernel) ?_
    refine zr_goto hC dX8_commonOfTen_26 (tgt := 3) (by decide) ?_
    refine zr_iload_n hC dX8_commonOfTen_3 rfl ?_
    refine zk_iconst hC dX8_commonOfTen_4 (v := nI 1) (by decide +kernel) ?_
    refine zr_icmp_le hC dX8_commonOfTen_5 (tgt := 29) (by decide) (fun c => absurd c (by decide +kernel)) (fun c_5 => ?_)
    refine zk_bipush hC dX8_commonOfTen_8 (v := nI 10) (by decide +kernel) ?_
    refine zr_iload_n hC dX8_commonOfTen_10 rfl ?_
    refine zn_irem hC dX8_commonOfTen_11 (by decide +kernel) (v := nI 4) (by decide +kernel) ?_
    refine zr_if_ne hC dX8_commonOfTen_12 (tgt := 23) (by decide) (fun c_12 => ?_) (fun c => absurd c (by decide +kernel))
    refine zn_iinc hC dX8_commonOfTen_23 rfl (by decide) (v := nI 5) (by decide +kernel) ?_
    refine zr_goto hC dX8_commonOfTen_26 (tgt := 3) (by decide) ?_
    refine zr_iload_n hC dX8_commonOfTen_3 rfl ?_
    refine zk_iconst hC dX8_commonOfTen_4 (v := nI 1) (by decide +kernel) ?_
    refine zr_icmp_le hC dX8_commonOfTen_5 (tgt := 29) (by decide) (fun c => absurd c (by decide +kernel)) (fun c_5 => ?_)
    refine zk_bipush hC dX8_commonOfTen_8 (v := nI 10) (by decide +kernel) ?_
    refine zr_iload_n hC dX8_commonOfTen_10 rfl ?_
    refine zn_irem hC dX8_commonOfTen_11 (by decide +kernel) (v := nI 0) (by decide +kernel) ?_
    refine zr_if_ne hC dX8_commonOfTen_12 (tgt := 23) (by decide) (fun c => absurd c (by decide +kernel)) (fun c_12 => ?_)
    refine zr_iload_n hC dX8_commonOfTen_15 rfl ?_
    refine zr_iload_n hC dX8_commonOfTen_16 rfl ?_
    refine zn_irem hC dX8_commonOfTen_17 (by decide +kernel) (v := nI 3) (by decide +kernel) ?_
    refine zr_if_ne hC dX8_commonOfTen_18 (tgt := 23) (by decide) (fun c_18 => ?_) (fun c => absurd c (by decide +kernel))
    refine zn_iinc hC dX8_commonOfTen_23 rfl (by decide) (v := nI 4) (by decide +kernel) ?_
    refine zr_goto hC dX8_commonOfTen_26 (tgt := 3) (by decide) ?_
    refine zr_iload_n hC dX8_commonOfTen_3 rfl ?_
    refine zk_iconst hC dX8_commonOfTen_4 (v := nI 1) (by decide +kernel) ?_
    refine zr_icmp_le hC dX8_commonOfTen_5 (tgt := 29) (by decide) (fun c => absurd c (by decide +kernel)) (fun c_5 => ?_)
    refine zk_bipush hC dX8_commonOfTen_8 (v := nI 10) (by decide +kernel) ?_
    refine zr_iload_n hC dX8_commonOfTen_10 rfl ?_
    refine zn_irem hC dX8_commonOfTen_11 (by decide +kernel) (v := nI 2) (by decide +kernel) ?_
    refine zr_if_ne hC dX8_commonOfTen_12 (tgt := 23) (by decide) (fun c_12 => ?_) (fun c => absurd c (by decide +kernel))
    refine zn_iinc hC dX8_commonOfTen_23 rfl (by decide) (v := nI 3) (by decide +kernel) ?_
    refine zr_goto hC dX8_commonOfTen_26 (tgt := 3) (by decide) ?_
    refine zr_iload_n hC dX8_commonOfTen_3 rfl ?_
    refine zk_iconst hC dX8_commonOfTen_4 (v := nI 1) (by decide +kernel) ?_
    refine zr_icmp_le hC dX8_commonOfTen_5 (tgt := 29) (by decide) (fun c => absurd c (by decide +kernel)) (fun c_5 => ?_)
    refine zk_bipush hC dX8_commonOfTen_8 (v := nI 10) (by decide +kernel) ?_
    refine zr_iload_n hC dX8_commonOfTen_10 rfl ?_
    refine zn_irem hC dX8_commonOfTen_11 (by decide +kernel) (v := nI 1) (by decide +kernel) ?_
    refine zr_if_ne hC dX8_commonOfTen_12 (tgt := 23) (by decide) (fun c_12 => ?_) (fun c => absurd c (by decide +kernel))
    refine zn_iinc hC dX8_commonOfTen_23 rfl (by decide) (v := nI 2) (by decide +kernel) ?_
    refine zr_goto hC dX8_commonOfTen_26 (tgt := 3) (by decide) ?_
    refine zr_iload_n hC dX8_commonOfTen_3 rfl ?_
    refine zk_iconst hC dX8_commonOfTen_4 (v := nI 1) (by decide +kernel) ?_
    refine zr_icmp_le hC dX8_commonOfTen_5 (tgt := 29) (by decide) (fun c => absurd c (by decide +kernel)) (fun c_5 => ?_)
    refine zk_bipush hC dX8_commonOfTen_8 (v := nI 10) (by decide +kernel) ?_
    refine zr_iload_n hC dX8_commonOfTen_10 rfl ?_
    refine zn_irem hC dX8_commonOfTen_11 (by decide +kernel) (v := nI 0) (by decide +kernel) ?_
    refine zr_if_ne hC dX8_commonOfTen_12 (tgt := 23) (by decide) (fun c => absurd c (by decide +kernel)) (fun c_12 => ?_)
    refine zr_iload_n hC dX8_commonOfTen_15 rfl ?_
    refine zr_iload_n hC dX8_commonOfTen_16 rfl ?_
    refine zn_irem hC dX8_commonOfTen_17 (by decide +kernel) (v := nI 1) (by decide +kernel) ?_
    refine zr_if_ne hC dX8_commonOfTen_18 (tgt := 23) (by decide) (fun c_18 => ?_) (fun c => absurd c (by decide +kernel))
    refine zn_iinc hC dX8_commonOfTen_23 rfl (by decide) (v := nI 1) (by decide +kernel) ?_
    refine zr_goto hC dX8_commonOfTen_26 (tgt := 3) (by decide) ?_
    refine zr_iload_n hC dX8_commonOfTen_3 rfl ?_
    refine zk_iconst hC dX8_commonOfTen_4 (v := nI 1) (by decide +kernel) ?_
    refine zr_icmp_le hC dX8_commonOfTen_5 (tgt := 29) (by decide) (fun c_5 => ?_) (fun c => absurd c (by decide +kernel))
    refine zk_iconst hC dX8_commonOfTen_29 (v := nI 1) (by decide +kernel) ?_
    exact zr_ireturn hC hE dX8_commonOfTen_30 (hr _ _ (hQ))
  · rw [show Nat.gcd 10 4 = 2 by decide +kernel] at hQ
    refine zk_bipush hC dX8_commonOfTen_0 (v := nI 10) (by decide +kernel) ?_
    refine zr_istore_n hC dX8_commonOfTen_2 (by decide) ?_
    refine zr_iload_n hC dX8_commonOfTen_3 rfl ?_
    refine zk_iconst hC dX8_commonOfTen_4 (v := nI 1) (by decide +kernel) ?_
    refine zr_icmp_le hC dX8_commonOfTen_5 (tgt := 29) (by decide) (fun c => absurd c (by decide +kernel)) (fun c_5 => ?_)
    refine zk_bipush hC dX8_commonOfTen_8 (v := nI 10) (by decide +kernel) ?_
    refine zr_iload_n hC dX8_commonOfTen_10 rfl ?_
    refine zn_irem hC dX8_commonOfTen_11 (by decide +kernel) (v := nI 0) (by decide +kernel) ?_
    refine zr_if_ne hC dX8_commonOfTen_12 (tgt := 23) (by decide) (fun c => absurd c (by decide +kernel)) (fun c_12 => ?_)
    refine zr_iload_n hC dX8_commonOfTen_15 rfl ?_
    refine zr_iload_n hC dX8_commonOfTen_16 rfl ?_
    refine zn_irem hC dX8_commonOfTen_17 (by decide +kernel) (v := nI 4) (by decide +kernel) ?_
    refine zr_if_ne hC dX8_commonOfTen_18 (tgt := 23) (by decide) (fun c_18 => ?_) (fun c => absurd c (by decide +kernel))
    refine zn_iinc hC dX8_commonOfTen_23 rfl (by decide) (v := nI 9) (by decide +kernel) ?_
    refine zr_goto hC dX8_commonOfTen_26 (tgt := 3) (by decide) ?_
    refine zr_iload_n hC dX8_commonOfTen_3 rfl ?_
    refine zk_iconst hC dX8_commonOfTen_4 (v := nI 1) (by decide +kernel) ?_
    refine zr_icmp_le hC dX8_commonOfTen_5 (tgt := 29) (by decide) (fun c => absurd c (by decide +kernel)) (fun c_5 => ?_)
    refine zk_bipush hC dX8_commonOfTen_8 (v := nI 10) (by decide +kernel) ?_
    refine zr_iload_n hC dX8_commonOfTen_10 rfl ?_
    refine zn_irem hC dX8_commonOfTen_11 (by decide +kernel) (v := nI 1) (by decide +kernel) ?_
    refine zr_if_ne hC dX8_commonOfTen_12 (tgt := 23) (by decide) (fun c_12 => ?_) (fun c => absurd c (by decide +kernel))
    refine zn_iinc hC dX8_commonOfTen_23 rfl (by decide) (v := nI 8) (by decide +kernel) ?_
    refine zr_goto hC dX8_commonOfTen_26 (tgt := 3) (by decide) ?_
    refine zr_iload_n hC dX8_commonOfTen_3 rfl ?_
    refine zk_iconst hC dX8_commonOfTen_4 (v := nI 1) (by decide +kernel) ?_
    refine zr_icmp_le hC dX8_commonOfTen_5 (tgt := 29) (by decide) (fun c => absurd c (by decide +kernel)) (fun c_5 => ?_)
    refine zk_bipush hC dX8_commonOfTen_8 (v := nI 10) (by decide +kernel) ?_
    refine zr_iload_n hC dX8_commonOfTen_10 rfl ?_
    refine zn_irem hC dX8_commonOfTen_11 (by decide +kernel) (v := nI 2) (by decide +kernel) ?_
    refine zr_if_ne hC dX8_commonOfTen_12 (tgt := 23) (by decide) (fun c_12 => ?_) (fun c => absurd c (by decide +kernel))
    refine zn_iinc hC dX8_commonOfTen_23 rfl (by decide) (v := nI 7) (by decide +kernel) ?_
    refine zr_goto hC dX8_commonOfTen_26 (tgt := 3) (by decide) ?_
    refine zr_iload_n hC dX8_commonOfTen_3 rfl ?_
    refine zk_iconst hC dX8_commonOfTen_4 (v := nI 1) (by decide +kernel) ?_
    refine zr_icmp_le hC dX8_commonOfTen_5 (tgt := 29) (by decide) (fun c => absurd c (by decide +kernel)) (fun c_5 => ?_)
    refine zk_bipush hC dX8_commonOfTen_8 (v := nI 10) (by decide +kernel) ?_
    refine zr_iload_n hC dX8_commonOfTen_10 rfl ?_
    refine zn_irem hC dX8_commonOfTen_11 (by decide +kernel) (v := nI 3) (by decide +kernel) ?_
    refine zr_if_ne hC dX8_commonOfTen_12 (tgt := 23) (by decide) (fun c_12 => ?_) (fun c => absurd c (by decide +kernel))
    refine zn_iinc hC dX8_commonOfTen_23 rfl (by decide) (v := nI 6) (by decide +kernel) ?_
    refine zr_goto hC dX8_commonOfTen_26 (tgt := 3) (by decide) ?_
    refine zr_iload_n hC dX8_commonOfTen_3 rfl ?_
    refine zk_iconst hC dX8_commonOfTen_4 (v := nI 1) (by decide +kernel) ?_
    refine zr_icmp_le hC dX8_commonOfTen_5 (tgt := 29) (by decide) (fun c => absurd c (by decide +kernel)) (fun c_5 => ?_)
    refine zk_bipush hC dX8_commonOfTen_8 (v := nI 10) (by decide +kernel) ?_
    refine zr_iload_n hC dX8_commonOfTen_10 rfl ?_
    refine zn_irem hC dX8_commonOfTen_11 (by decide +kernel) (v := nI 4) (by decide +kernel) ?_
    refine zr_if_ne hC dX8_commonOfTen_12 (tgt := 23) (by decide) (fun c_12 => ?_) (fun c => absurd c (by decide +kernel))
    refine zn_iinc hC dX8_commonOfTen_23 rfl (by decide) (v := nI 5) (by decide +kernel) ?_
    refine zr_goto hC dX8_commonOfTen_26 (tgt := 3) (by decide) ?_
    refine zr_iload_n hC dX8_commonOfTen_3 rfl ?_
    refine zk_iconst hC dX8_commonOfTen_4 (v := nI 1) (by decide +kernel) ?_
    refine zr_icmp_le hC dX8_commonOfTen_5 (tgt := 29) (by decide) (fun c => absurd c (by decide +kernel)) (fun c_5 => ?_)
    refine zk_bipush hC dX8_commonOfTen_8 (v := nI 10) (by decide +kernel) ?_
    refine zr_iload_n hC dX8_commonOfTen_10 rfl ?_
    refine zn_irem hC dX8_commonOfTen_11 (by decide +kernel) (v := nI 0) (by decide +kernel) ?_
    refine zr_if_ne hC dX8_commonOfTen_12 (tgt := 23) (by decide) (fun c => absurd c (by decide +kernel)) (fun c_12 => ?_)
    refine zr_iload_n hC dX8_commonOfTen_15 rfl ?_
    refine zr_iload_n hC dX8_commonOfTen_16 rfl ?_
    refine zn_irem hC dX8_commonOfTen_17 (by decide +kernel) (v := nI 4) (by decide +kernel) ?_
    refine zr_if_ne hC dX8_commonOfTen_18 (tgt := 23) (by decide) (fun c_18 => ?_) (fun c => absurd c (by decide +kernel))
    refine zn_iinc hC dX8_commonOfTen_23 rfl (by decide) (v := nI 4) (by decide +kernel) ?_
    refine zr_goto hC dX8_commonOfTen_26 (tgt := 3) (by decide) ?_
    refine zr_iload_n hC dX8_commonOfTen_3 rfl ?_
    refine zk_iconst hC dX8_commonOfTen_4 (v := nI 1) (by decide +kernel) ?_
    refine zr_icmp_le hC dX8_commonOfTen_5 (tgt := 29) (by decide) (fun c => absurd c (by decide +kernel)) (fun c_5 => ?_)
    refine zk_bipush hC dX8_commonOfTen_8 (v := nI 10) (by decide +kernel) ?_
    refine zr_iload_n hC dX8_commonOfTen_10 rfl ?_
    refine zn_irem hC dX8_commonOfTen_11 (by decide +kernel) (v := nI 2) (by decide +kernel) ?_
    refine zr_if_ne hC dX8_commonOfTen_12 (tgt := 23) (by decide) (fun c_12 => ?_) (fun c => absurd c (by decide +kernel))
    refine zn_iinc hC dX8_commonOfTen_23 rfl (by decide) (v := nI 3) (by decide +kernel) ?_
    refine zr_goto hC dX8_commonOfTen_26 (tgt := 3) (by decide) ?_
    refine zr_iload_n hC dX8_commonOfTen_3 rfl ?_
    refine zk_iconst hC dX8_commonOfTen_4 (v := nI 1) (by decide +kernel) ?_
    refine zr_icmp_le hC dX8_commonOfTen_5 (tgt := 29) (by decide) (fun c => absurd c (by decide +kernel)) (fun c_5 => ?_)
    refine zk_bipush hC dX8_commonOfTen_8 (v := nI 10) (by decide +kernel) ?_
    refine zr_iload_n hC dX8_commonOfTen_10 rfl ?_
    refine zn_irem hC dX8_commonOfTen_11 (by decide +kernel) (v := nI 1) (by decide +kernel) ?_
    refine zr_if_ne hC dX8_commonOfTen_12 (tgt := 23) (by decide) (fun c_12 => ?_) (fun c => absurd c (by decide +kernel))
    refine zn_iinc hC dX8_commonOfTen_23 rfl (by decide) (v := nI 2) (by decide +kernel) ?_
    refine zr_goto hC dX8_commonOfTen_26 (tgt := 3) (by decide) ?_
    refine zr_iload_n hC dX8_commonOfTen_3 rfl ?_
    refine zk_iconst hC dX8_commonOfTen_4 (v := nI 1) (by decide +kernel) ?_
    refine zr_icmp_le hC dX8_commonOfTen_5 (tgt := 29) (by decide) (fun c => absurd c (by decide +kernel)) (fun c_5 => ?_)
    refine zk_bipush hC dX8_commonOfTen_8 (v := nI 10) (by decide +kernel) ?_
    refine zr_iload_n hC dX8_commonOfTen_10 rfl ?_
    refine zn_irem hC dX8_commonOfTen_11 (by decide +kernel) (v := nI 0) (by decide +kernel) ?_
    refine zr_if_ne hC dX8_commonOfTen_12 (tgt := 23) (by decide) (fun c => absurd c (by decide +kernel)) (fun c_12 => ?_)
    refine zr_iload_n hC dX8_commonOfTen_15 rfl ?_
    refine zr_iload_n hC dX8_commonOfTen_16 rfl ?_
    refine zn_irem hC dX8_commonOfTen_17 (by decide +kernel) (v := nI 0) (by decide +kernel) ?_
    refine zr_if_ne hC dX8_commonOfTen_18 (tgt := 23) (by decide) (fun c => absurd c (by decide +kernel)) (fun c_18 => ?_)
    refine zr_iload_n hC dX8_commonOfTen_21 rfl ?_
    exact zr_ireturn hC hE dX8_commonOfTen_22 (hr _ _ (hQ))
  · rw [show Nat.gcd 10 5 = 5 by decide +kernel] at hQ
    refine zk_bipush hC dX8_commonOfTen_0 (v := nI 10) (by decide +kernel) ?_
    refine zr_istore_n hC dX8_commonOfTen_2 (by decide) ?_
    refine zr_iload_n hC dX8_commonOfTen_3 rfl ?_
    refine zk_iconst hC dX8_commonOfTen_4 (v := nI 1) (by decide +kernel) ?_
    refine zr_icmp_le hC dX8_commonOfTen_5 (tgt := 29) (by decide) (fun c => absurd c (by decide +kernel)) (fun c_5 => ?_)
    refine zk_bipush hC dX8_commonOfTen_8 (v := nI 10) (by decide +kernel) ?_
    refine zr_iload_n hC dX8_commonOfTen_10 rfl ?_
    refine zn_irem hC dX8_commonOfTen_11 (by decide +kernel) (v := nI 0) (by decide +kernel) ?_
    refine zr_if_ne hC dX8_commonOfTen_12 (tgt := 23) (by decide) (fun c => absurd c (by decide +kernel)) (fun c_12 => ?_)
    refine zr_iload_n hC dX8_commonOfTen_15 rfl ?_
    refine zr_iload_n hC dX8_commonOfTen_16 rfl ?_
    refine zn_irem hC dX8_commonOfTen_17 (by decide +kernel) (v := nI 5) (by decide +kernel) ?_
    refine zr_if_ne hC dX8_commonOfTen_18 (tgt := 23) (by decide) (fun c_18 => ?_) (fun c => absurd c (by decide +kernel))
    refine zn_iinc hC dX8_commonOfTen_23 rfl (by decide) (v := nI 9) (by decide +kernel) ?_
    refine zr_goto hC dX8_commonOfTen_26 (tgt := 3) (by decide) ?_
    refine zr_iload_n hC dX8_commonOfTen_3 rfl ?_
    refine zk_iconst hC dX8_commonOfTen_4 (v := nI 1) (by decide +kernel) ?_
    refine zr_icmp_le hC dX8_commonOfTen_5 (tgt := 29) (by decide) (fun c => absurd c (by decide +kernel)) (fun c_5 => ?_)
    refine zk_bipush hC dX8_commonOfTen_8 (v := nI 10) (by decide +kernel) ?_
    refine zr_iload_n hC dX8_commonOfTen_10 rfl ?_
    refine zn_irem hC dX8_commonOfTen_11 (by decide +kernel) (v := nI 1) (by decide +kernel) ?_
    refine zr_if_ne hC dX8_commonOfTen_12 (tgt := 23) (by decide) (fun c_12 => ?_) (fun c => absurd c (by decide +kernel))
    refine zn_iinc hC dX8_commonOfTen_23 rfl (by decide) (v := nI 8) (by decide +kernel) ?_
    refine zr_goto hC dX8_commonOfTen_26 (tgt := 3) (by decide) ?_
    refine zr_iload_n hC dX8_commonOfTen_3 rfl ?_
    refine zk_iconst hC dX8_commonOfTen_4 (v := nI 1) (by decide +kernel) ?_
    refine zr_icmp_le hC dX8_commonOfTen_5 (tgt := 29) (by decide) (fun c => absurd c (by decide +kernel)) (fun c_5 => ?_)
    refine zk_bipush hC dX8_commonOfTen_8 (v := nI 10) (by decide +kernel) ?_
    refine zr_iload_n hC dX8_commonOfTen_10 rfl ?_
    refine zn_irem hC dX8_commonOfTen_11 (by decide +kernel) (v := nI 2) (by decide +kernel) ?_
    refine zr_if_ne hC dX8_commonOfTen_12 (tgt := 23) (by decide) (fun c_12 => ?_) (fun c => absurd c (by decide +kernel))
    refine zn_iinc hC dX8_commonOfTen_23 rfl (by decide) (v := nI 7) (by decide +kernel) ?_
    refine zr_goto hC dX8_commonOfTen_26 (tgt := 3) (by decide) ?_
    refine zr_iload_n hC dX8_commonOfTen_3 rfl ?_
    refine zk_iconst hC dX8_commonOfTen_4 (v := nI 1) (by decide +kernel) ?_
    refine zr_icmp_le hC dX8_commonOfTen_5 (tgt := 29) (by decide) (fun c => absurd c (by decide +kernel)) (fun c_5 => ?_)
    refine zk_bipush hC dX8_commonOfTen_8 (v := nI 10) (by decide +kernel) ?_
    refine zr_iload_n hC dX8_commonOfTen_10 rfl ?_
    refine zn_irem hC dX8_commonOfTen_11 (by decide +kernel) (v := nI 3) (by decide +kernel) ?_
    refine zr_if_ne hC dX8_commonOfTen_12 (tgt := 23) (by decide) (fun c_12 => ?_) (fun c => absurd c (by decide +kernel))
    refine zn_iinc hC dX8_commonOfTen_23 rfl (by decide) (v := nI 6) (by decide +kernel) ?_
    refine zr_goto hC dX8_commonOfTen_26 (tgt := 3) (by decide) ?_
    refine zr_iload_n hC dX8_commonOfTen_3 rfl ?_
    refine zk_iconst hC dX8_commonOfTen_4 (v := nI 1) (by decide +kernel) ?_
    refine zr_icmp_le hC dX8_commonOfTen_5 (tgt := 29) (by decide) (fun c => absurd c (by decide +kernel)) (fun c_5 => ?_)
    refine zk_bipush hC dX8_commonOfTen_8 (v := nI 10) (by decide +kernel) ?_
    refine zr_iload_n hC dX8_commonOfTen_10 rfl ?_
    refine zn_irem hC dX8_commonOfTen_11 (by decide +kernel) (v := nI 4) (by decide +kernel) ?_
    refine zr_if_ne hC dX8_commonOfTen_12 (tgt := 23) (by decide) (fun c_12 => ?_) (fun c => absurd c (by decide +kernel))
    refine zn_iinc hC dX8_commonOfTen_23 rfl (by decide) (v := nI 5) (by decide +kernel) ?_
    refine zr_goto hC dX8_commonOfTen_26 (tgt := 3) (by decide) ?_
    refine zr_iload_n hC dX8_commonOfTen_3 rfl ?_
    refine zk_iconst hC dX8_commonOfTen_4 (v := nI 1) (by decide +kernel) ?_
    refine zr_icmp_le hC dX8_commonOfTen_5 (tgt := 29) (by decide) (fun c => absurd c (by decide +kernel)) (fun c_5 => ?_)
    refine zk_bipush hC dX8_commonOfTen_8 (v := nI 10) (by decide +kernel) ?_
    refine zr_iload_n hC dX8_commonOfTen_10 rfl ?_
    refine zn_irem hC dX8_commonOfTen_11 (by decide +kernel) (v := nI 0) (by decide +kernel) ?_
    refine zr_if_ne hC dX8_commonOfTen_12 (tgt := 23) (by decide) (fun c => absurd c (by decide +kernel)) (fun c_12 => ?_)
    refine zr_iload_n hC dX8_commonOfTen_15 rfl ?_
    refine zr_iload_n hC dX8_commonOfTen_16 rfl ?_
    refine zn_irem hC dX8_commonOfTen_17 (by decide +kernel) (v := nI 0) (by decide +kernel) ?_
    refine zr_if_ne hC dX8_commonOfTen_18 (tgt := 23) (by decide) (fun c => absurd c (by decide +kernel)) (fun c_18 => ?_)
    refine zr_iload_n hC dX8_commonOfTen_21 rfl ?_
    exact zr_ireturn hC hE dX8_commonOfTen_22 (hr _ _ (hQ))
  · rw [show Nat.gcd 10 6 = 2 by decide +kernel] at hQ
    refine zk_bipush hC dX8_commonOfTen_0 (v := nI 10) (by decide +kernel) ?_
    refine zr_istore_n hC dX8_commonOfTen_2 (by decide) ?_
    refine zr_iload_n hC dX8_commonOfTen_3 rfl ?_
    refine zk_iconst hC dX8_commonOfTen_4 (v := nI 1) (by decide +kernel) ?_
    refine zr_icmp_le hC dX8_commonOfTen_5 (tgt := 29) (by decide) (fun c => absurd c (by decide +kernel)) (fun c_5 => ?_)
    refine zk_bipush hC dX8_commonOfTen_8 (v := nI 10) (by decide +kernel) ?_
    refine zr_iload_n hC dX8_commonOfTen_10 rfl ?_
    refine zn_irem hC dX8_commonOfTen_11 (by decide +kernel) (v := nI 0) (by decide +kernel) ?_
    refine zr_if_ne hC dX8_commonOfTen_12 (tgt := 23) (by decide) (fun c => absurd c (by decide +kernel)) (fun c_12 => ?_)
    refine zr_iload_n hC dX8_commonOfTen_15 rfl ?_
    refine zr_iload_n hC dX8_commonOfTen_16 rfl ?_
    refine zn_irem hC dX8_commonOfTen_17 (by decide +kernel) (v := nI 6) (by decide +kernel) ?_
    refine zr_if_ne hC dX8_commonOfTen_18 (tgt := 23) (by decide) (fun c_18 => ?_) (fun c => absurd c (by decide +kernel))
    refine zn_iinc hC dX8_commonOfTen_23 rfl (by decide) (v := nI 9) (by decide +kernel) ?_
    refine zr_goto hC dX8_commonOfTen_26 (tgt := 3) (by decide) ?_
    refine zr_iload_n hC dX8_commonOfTen_3 rfl ?_
    refine zk_iconst hC dX8_commonOfTen_4 (v := nI 1) (by decide +kernel) ?_
    refine zr_icmp_le hC dX8_commonOfTen_5 (tgt := 29) (by decide) (fun c => absurd c (by decide +kernel)) (fun c_5 => ?_)
    refine zk_bipush hC dX8_commonOfTen_8 (v := nI 10) (by decide +kernel) ?_
    refine zr_iload_n hC dX8_commonOfTen_10 rfl ?_
    refine zn_irem hC dX8_commonOfTen_11 (by decide +kernel) (v := nI 1) (by decide +kernel) ?_
    refine zr_if_ne hC dX8_commonOfTen_12 (tgt := 23) (by decide) (fun c_12 => ?_) (fun c => absurd c (by decide +kernel))
    refine zn_iinc hC dX8_commonOfTen_23 rfl (by decide) (v := nI 8) (by decide +kernel) ?_
    refine zr_goto hC dX8_commonOfTen_26 (tgt := 3) (by decide) ?_
    refine zr_iload_n hC dX8_commonOfTen_3 rfl ?_
    refine zk_iconst hC dX8_commonOfTen_4 (v := nI 1) (by decide +kernel) ?_
    refine zr_icmp_le hC dX8_commonOfTen_5 (tgt := 29) (by decide) (fun c => absurd c (by decide +kernel)) (fun c_5 => ?_)
    refine zk_bipush hC dX8_commonOfTen_8 (v := nI 10) (by decide +kernel) ?_
    refine zr_iload_n hC dX8_commonOfTen_10 rfl ?_
    refine zn_irem hC dX8_commonOfTen_11 (by decide +kernel) (v := nI 2) (by decide +kernel) ?_
    refine zr_if_ne hC dX8_commonOfTen_12 (tgt := 23) (by decide) (fun c_12 => ?_) (fun c => absurd c (by decide +kernel))
    refine zn_iinc hC dX8_commonOfTen_23 rfl (by decide) (v := nI 7) (by decide +kernel) ?_
    refine zr_goto hC dX8_commonOfTen_26 (tgt := 3) (by decide) ?_
    refine zr_iload_n hC dX8_commonOfTen_3 rfl ?_
    refine zk_iconst hC dX8_commonOfTen_4 (v := nI 1) (by decide +kernel) ?_
    refine zr_icmp_le hC dX8_commonOfTen_5 (tgt := 29) (by decide) (fun c => absurd c (by decide +kernel)) (fun c_5 => ?_)
    refine zk_bipush hC dX8_commonOfTen_8 (v := nI 10) (by decide +kernel) ?_
    refine zr_iload_n hC dX8_commonOfTen_10 rfl ?_
    refine zn_irem hC dX8_commonOfTen_11 (by decide +kernel) (v := nI 3) (by decide +kernel) ?_
    refine zr_if_ne hC dX8_commonOfTen_12 (tgt := 23) (by decide) (fun c_12 => ?_) (fun c => absurd c (by decide +kernel))
    refine zn_iinc hC dX8_commonOfTen_23 rfl (by decide) (v := nI 6) (by decide +kernel) ?_
    refine zr_goto hC dX8_commonOfTen_26 (tgt := 3) (by decide) ?_
    refine zr_iload_n hC dX8_commonOfTen_3 rfl ?_
    refine zk_iconst hC dX8_commonOfTen_4 (v := nI 1) (by decide +kernel) ?_
    refine zr_icmp_le hC dX8_commonOfTen_5 (tgt := 29) (by decide) (fun c => absurd c (by decide +kernel)) (fun c_5 => ?_)
    refine zk_bipush hC dX8_commonOfTen_8 (v := nI 10) (by decide +kernel) ?_
    refine zr_iload_n hC dX8_commonOfTen_10 rfl ?_
    refine zn_irem hC dX8_commonOfTen_11 (by decide +kernel) (v := nI 4) (by decide +kernel) ?_
    refine zr_if_ne hC dX8_commonOfTen_12 (tgt := 23) (by decide) (fun c_12 => ?_) (fun c => absurd c (by decide +kernel))
    refine zn_iinc hC dX8_commonOfTen_23 rfl (by decide) (v := nI 5) (by decide +kernel) ?_
    refine zr_goto hC dX8_commonOfTen_26 (tgt := 3) (by decide) ?_
    refine zr_iload_n hC dX8_commonOfTen_3 rfl ?_
    refine zk_iconst hC dX8_commonOfTen_4 (v := nI 1) (by decide +kernel) ?_
    refine zr_icmp_le hC dX8_commonOfTen_5 (tgt := 29) (by decide) (fun c => absurd c (by decide +kernel)) (fun c_5 => ?_)
    refine zk_bipush hC dX8_commonOfTen_8 (v := nI 10) (by decide +kernel) ?_
    refine zr_iload_n hC dX8_commonOfTen_10 rfl ?_
    refine zn_irem hC dX8_commonOfTen_11 (by decide +kernel) (v := nI 0) (by decide +kernel) ?_
    refine zr_if_ne hC dX8_commonOfTen_12 (tgt := 23) (by decide) (fun c => absurd c (by decide +kernel)) (fun c_12 => ?_)
    refine zr_iload_n hC dX8_commonOfTen_15 rfl ?_
    refine zr_iload_n hC dX8_commonOfTen_16 rfl ?_
    refine zn_irem hC dX8_commonOfTen_17 (by decide +kernel) (v := nI 1) (by decide +kernel) ?_
    refine zr_if_ne hC dX8_commonOfTen_18 (tgt := 23) (by decide) (fun c_18 => ?_) (fun c => absurd c (by decide +kernel))
    refine zn_iinc hC dX8_commonOfTen_23 rfl (by decide) (v := nI 4) (by decide +kernel) ?_
    refine zr_goto hC dX8_commonOfTen_26 (tgt := 3) (by decide) ?_
    refine zr_iload_n hC dX8_commonOfTen_3 rfl ?_
    refine zk_iconst hC dX8_commonOfTen_4 (v := nI 1) (by decide +kernel) ?_
    refine zr_icmp_le hC dX8_commonOfTen_5 (tgt := 29) (by decide) (fun c => absurd c (by decide +kernel)) (fun c_5 => ?_)
    refine zk_bipush hC dX8_commonOfTen_8 (v := nI 10) (by decide +kernel) ?_
    refine zr_iload_n hC dX8_commonOfTen_10 rfl ?_
    refine zn_irem hC dX8_commonOfTen_11 (by decide +kernel) (v := nI 2) (by decide +kernel) ?_
    refine zr_if_ne hC dX8_commonOfTen_12 (tgt := 23) (by decide) (fun c_12 => ?_) (fun c => absurd c (by decide +kernel))
    refine zn_iinc hC dX8_commonOfTen_23 rfl (by decide) (v := nI 3) (by decide +kernel) ?_
    refine zr_goto hC dX8_commonOfTen_26 (tgt := 3) (by decide) ?_
    refine zr_iload_n hC dX8_commonOfTen_3 rfl ?_
    refine zk_iconst hC dX8_commonOfTen_4 (v := nI 1) (by decide +kernel) ?_
    refine zr_icmp_le hC dX8_commonOfTen_5 (tgt := 29) (by decide) (fun c => absurd c (by decide +kernel)) (fun c_5 => ?_)
    refine zk_bipush hC dX8_commonOfTen_8 (v := nI 10) (by decide +kernel) ?_
    refine zr_iload_n hC dX8_commonOfTen_10 rfl ?_
    refine zn_irem hC dX8_commonOfTen_11 (by decide +kernel) (v := nI 1) (by decide +kernel) ?_
    refine zr_if_ne hC dX8_commonOfTen_12 (tgt := 23) (by decide) (fun c_12 => ?_) (fun c => absurd c (by decide +kernel))
    refine zn_iinc hC dX8_commonOfTen_23 rfl (by decide) (v := nI 2) (by decide +kernel) ?_
    refine zr_goto hC dX8_commonOfTen_26 (tgt := 3) (by decide) ?_
    refine zr_iload_n hC dX8_commonOfTen_3 rfl ?_
    refine zk_iconst hC dX8_commonOfTen_4 (v := nI 1) (by decide +kernel) ?_
    refine zr_icmp_le hC dX8_commonOfTen_5 (tgt := 29) (by decide) (fun c => absurd c (by decide +kernel)) (fun c_5 => ?_)
    refine zk_bipush hC dX8_commonOfTen_8 (v := nI 10) (by decide +kernel) ?_
    refine zr_iload_n hC dX8_commonOfTen_10 rfl ?_
    refine zn_irem hC dX8_commonOfTen_11 (by decide +kernel) (v := nI 0) (by decide +kernel) ?_
    refine zr_if_ne hC dX8_commonOfTen_12 (tgt := 23) (by decide) (fun c => absurd c (by decide +kernel)) (fun c_12 => ?_)
    refine zr_iload_n hC dX8_commonOfTen_15 rfl ?_
    refine zr_iload_n hC dX8_commonOfTen_16 rfl ?_
    refine zn_irem hC dX8_commonOfTen_17 (by decide +kernel) (v := nI 0) (by decide +kernel) ?_
    refine zr_if_ne hC dX8_commonOfTen_18 (tgt := 23) (by decide) (fun c => absurd c (by decide +kernel)) (fun c_18 => ?_)
    refine zr_iload_n hC dX8_commonOfTen_21 rfl ?_
    exact zr_ireturn hC hE dX8_commonOfTen_22 (hr _ _ (hQ))
  · rw [show Nat.gcd 10 7 = 1 by decide +kernel] at hQ
    refine zk_bipush hC dX8_commonOfTen_0 (v := nI 10) (by decide +kernel) ?_
    refine zr_istore_n hC dX8_commonOfTen_2 (by decide) ?_
    refine zr_iload_n hC dX8_commonOfTen_3 rfl ?_
    refine zk_iconst hC dX8_commonOfTen_4 (v := nI 1) (by decide +kernel) ?_
    refine zr_icmp_le hC dX8_commonOfTen_5 (tgt := 29) (by decide) (fun c => absurd c (by decide +kernel)) (fun c_5 => ?_)
    refine zk_bipush hC dX8_commonOfTen_8 (v := nI 10) (by decide +kernel) ?_
    refine zr_iload_n hC dX8_commonOfTen_10 rfl ?_
    refine zn_irem hC dX8_commonOfTen_11 (by decide +kernel) (v := nI 0) (by decide +kernel) ?_
    refine zr_if_ne hC dX8_commonOfTen_12 (tgt := 23) (by decide) (fun c => absurd c (by decide +kernel)) (fun c_12 => ?_)
    refine zr_iload_n hC dX8_commonOfTen_15 rfl ?_
    refine zr_iload_n hC dX8_commonOfTen_16 rfl ?_
    refine zn_irem hC dX8_commonOfTen_17 (by decide +kernel) (v := nI 7) (by decide +kernel) ?_
    refine zr_if_ne hC dX8_commonOfTen_18 (tgt := 23) (by decide) (fun c_18 => ?_) (fun c => absurd c (by decide +kernel))
    refine zn_iinc hC dX8_commonOfTen_23 rfl (by decide) (v := nI 9) (by decide +kernel) ?_
    refine zr_goto hC dX8_commonOfTen_26 (tgt := 3) (by decide) ?_
    refine zr_iload_n hC dX8_commonOfTen_3 rfl ?_
    refine zk_iconst hC dX8_commonOfTen_4 (v := nI 1) (by decide +kernel) ?_
    refine zr_icmp_le hC dX8_commonOfTen_5 (tgt := 29) (by decide) (fun c => absurd c (by decide +kernel)) (fun c_5 => ?_)
    refine zk_bipush hC dX8_commonOfTen_8 (v := nI 10) (by decide +kernel) ?_
    refine zr_iload_n hC dX8_commonOfTen_10 rfl ?_
    refine zn_irem hC dX8_commonOfTen_11 (by decide +kernel) (v := nI 1) (by decide +kernel) ?_
    refine zr_if_ne hC dX8_commonOfTen_12 (tgt := 23) (by decide) (fun c_12 => ?_) (fun c => absurd c (by decide +kernel))
    refine zn_iinc hC dX8_commonOfTen_23 rfl (by decide) (v := nI 8) (by decide +kernel) ?_
    refine zr_goto hC dX8_commonOfTen_26 (tgt := 3) (by decide) ?_
    refine zr_iload_n hC dX8_commonOfTen_3 rfl ?_
    refine zk_iconst hC dX8_commonOfTen_4 (v := nI 1) (by decide +kernel) ?_
    refine zr_icmp_le hC dX8_commonOfTen_5 (tgt := 29) (by decide) (fun c => absurd c (by decide +kernel)) (fun c_5 => ?_)
    refine zk_bipush hC dX8_commonOfTen_8 (v := nI 10) (by decide +kernel) ?_
    refine zr_iload_n hC dX8_commonOfTen_10 rfl ?_
    refine zn_irem hC dX8_commonOfTen_11 (by decide +kernel) (v := nI 2) (by decide +kernel) ?_
    refine zr_if_ne hC dX8_commonOfTen_12 (tgt := 23) (by decide) (fun c_12 => ?_) (fun c => absurd c (by decide +kernel))
    refine zn_iinc hC dX8_commonOfTen_23 rfl (by decide) (v := nI 7) (by decide +kernel) ?_
    refine zr_goto hC dX8_commonOfTen_26 (tgt := 3) (by decide) ?_
    refine zr_iload_n hC dX8_commonOfTen_3 rfl ?_
    refine zk_iconst hC dX8_commonOfTen_4 (v := nI 1) (by decide +kernel) ?_
    refine zr_icmp_le hC dX8_commonOfTen_5 (tgt := 29) (by decide) (fun c => absurd c (by decide +kernel)) (fun c_5 => ?_)
    refine zk_bipush hC dX8_commonOfTen_8 (v := nI 10) (by decide +kernel) ?_
    refine zr_iload_n hC dX8_commonOfTen_10 rfl ?_
    refine zn_irem hC dX8_commonOfTen_11 (by decide +kernel) (v := nI 3) (by decide +kernel) ?_
    refine zr_if_ne hC dX8_commonOfTen_12 (tgt := 23) (by decide) (fun c_12 => ?_) (fun c => absurd c (by decide +kernel))
    refine zn_iinc hC dX8_commonOfTen_23 rfl (by decide) (v := nI 6) (by decide +kernel) ?_
    refine zr_goto hC dX8_commonOfTen_26 (tgt := 3) (by decide) ?_
    refine zr_iload_n hC dX8_commonOfTen_3 rfl ?_
    refine zk_iconst hC dX8_commonOfTen_4 (v := nI 1) (by decide +kernel) ?_
    refine zr_icmp_le hC dX8_commonOfTen_5 (tgt := 29) (by decide) (fun c => absurd c (by decide +kernel)) (fun c_5 => ?_)
    refine zk_bipush hC dX8_commonOfTen_8 (v := nI 10) (by decide +kernel) ?_
    refine zr_iload_n hC dX8_commonOfTen_10 rfl ?_
    refine zn_irem hC dX8_commonOfTen_11 (by decide +kernel) (v := nI 4) (by decide +kernel) ?_
    refine zr_if_ne hC dX8_commonOfTen_12 (tgt := 23) (by decide) (fun c_12 => ?_) (fun c => absurd c (by decide +kernel))
    refine zn_iinc hC dX8_commonOfTen_23 rfl (by decide) (v := nI 5) (by decide +kernel) ?_
    refine zr_goto hC dX8_commonOfTen_26 (tgt := 3) (by decide) ?_
    refine zr_iload_n hC dX8_commonOfTen_3 rfl ?_
    refine zk_iconst hC dX8_commonOfTen_4 (v := nI 1) (by decide +kernel) ?_
    refine zr_icmp_le hC dX8_commonOfTen_5 (tgt := 29) (by decide) (fun c => absurd c (by decide +kernel)) (fun c_5 => ?_)
    refine zk_bipush hC dX8_commonOfTen_8 (v := nI 10) (by decide +kernel) ?_
    refine zr_iload_n hC dX8_commonOfTen_10 rfl ?_
    refine zn_irem hC dX8_commonOfTen_11 (by decide +kernel) (v := nI 0) (by decide +kernel) ?_
    refine zr_if_ne hC dX8_commonOfTen_12 (tgt := 23) (by decide) (fun c => absurd c (by decide +kernel)) (fun c_12 => ?_)
    refine zr_iload_n hC dX8_commonOfTen_15 rfl ?_
    refine zr_iload_n hC dX8_commonOfTen_16 rfl ?_
    refine zn_irem hC dX8_commonOfTen_17 (by decide +kernel) (v := nI 2) (by decide +kernel) ?_
    refine zr_if_ne hC dX8_commonOfTen_18 (tgt := 23) (by decide) (fun c_18 => ?_) (fun c => absurd c (by decide +kernel))
    refine zn_iinc hC dX8_commonOfTen_23 rfl (by decide) (v := nI 4) (by decide +kernel) ?_
    refine zr_goto hC dX8_commonOfTen_26 (tgt := 3) (by decide) ?_
    refine zr_iload_n hC dX8_commonOfTen_3 rfl ?_
    refine zk_iconst hC dX8_commonOfTen_4 (v := nI 1) (by decide +kernel) ?_
    refine zr_icmp_le hC dX8_commonOfTen_5 (tgt := 29) (by decide) (fun c => absurd c (by decide +kernel)) (fun c_5 => ?_)
    refine zk_bipush hC dX8_commonOfTen_8 (v := nI 10) (by decide +kernel) ?_
    refine zr_iload_n hC dX8_commonOfTen_10 rfl ?_
    refine zn_irem hC dX8_commonOfTen_11 (by decide +kernel) (v := nI 2) (by decide +kernel) ?_
    refine zr_if_ne hC dX8_commonOfTen_12 (tgt := 23) (by decide) (fun c_12 => ?_) (fun c => absurd c (by decide +kernel))
    refine zn_iinc hC dX8_commonOfTen_23 rfl (by decide) (v := nI 3) (by decide +kernel) ?_
    refine zr_goto hC dX8_commonOfTen_26 (tgt := 3) (by decide) ?_
    refine zr_iload_n hC dX8_commonOfTen_3 rfl ?_
    refine zk_iconst hC dX8_commonOfTen_4 (v := nI 1) (by decide +kernel) ?_
    refine zr_icmp_le hC dX8_commonOfTen_5 (tgt := 29) (by decide) (fun c => absurd c (by decide +kernel)) (fun c_5 => ?_)
    refine zk_bipush hC dX8_commonOfTen_8 (v := nI 10) (by decide +kernel) ?_
    refine zr_iload_n hC dX8_commonOfTen_10 rfl ?_
    refine zn_irem hC dX8_commonOfTen_11 (by decide +kernel) (v := nI 1) (by decide +kernel) ?_
    refine zr_if_ne hC dX8_commonOfTen_12 (tgt := 23) (by decide) (fun c_12 => ?_) (fun c => absurd c (by decide +kernel))
    refine zn_iinc hC dX8_commonOfTen_23 rfl (by decide) (v := nI 2) (by decide +kernel) ?_
    refine zr_goto hC dX8_commonOfTen_26 (tgt := 3) (by decide) ?_
    refine zr_iload_n hC dX8_commonOfTen_3 rfl ?_
    refine zk_iconst hC dX8_commonOfTen_4 (v := nI 1) (by decide +kernel) ?_
    refine zr_icmp_le hC dX8_commonOfTen_5 (tgt := 29) (by decide) (fun c => absurd c (by decide +kernel)) (fun c_5 => ?_)
    refine zk_bipush hC dX8_commonOfTen_8 (v := nI 10) (by decide +kernel) ?_
    refine zr_iload_n hC dX8_commonOfTen_10 rfl ?_
    refine zn_irem hC dX8_commonOfTen_11 (by decide +kernel) (v := nI 0) (by decide +kernel) ?_
    refine zr_if_ne hC dX8_commonOfTen_12 (tgt := 23) (by decide) (fun c => absurd c (by decide +kernel)) (fun c_12 => ?_)
    refine zr_iload_n hC dX8_commonOfTen_15 rfl ?_
    refine zr_iload_n hC dX8_commonOfTen_16 rfl ?_
    refine zn_irem hC dX8_commonOfTen_17 (by decide +kernel) (v := nI 1) (by decide +kernel) ?_
    refine zr_if_ne hC dX8_commonOfTen_18 (tgt := 23) (by decide) (fun c_18 => ?_) (fun c => absurd c (by decide +kernel))
    refine zn_iinc hC dX8_commonOfTen_23 rfl (by decide) (v := nI 1) (by decide +kernel) ?_
    refine zr_goto hC dX8_commonOfTen_26 (tgt := 3) (by decide) ?_
    refine zr_iload_n hC dX8_commonOfTen_3 rfl ?_
    refine zk_iconst hC dX8_commonOfTen_4 (v := nI 1) (by decide +kernel) ?_
    refine zr_icmp_le hC dX8_commonOfTen_5 (tgt := 29) (by decide) (fun c_5 => ?_) (fun c => absurd c (by decide +kernel))
    refine zk_iconst hC dX8_commonOfTen_29 (v := nI 1) (by decide +kernel) ?_
    exact zr_ireturn hC hE dX8_commonOfTen_30 (hr _ _ (hQ))
  · rw [show Nat.gcd 10 8 = 2 by decide +kernel] at hQ
    refine zk_bipush hC dX8_commonOfTen_0 (v := nI 10) (by decide +kernel) ?_
    refine zr_istore_n hC dX8_commonOfTen_2 (by decide) ?_
    refine zr_iload_n hC dX8_commonOfTen_3 rfl ?_
    refine zk_iconst hC dX8_commonOfTen_4 (v := nI 1) (by decide +kernel) ?_
    refine zr_icmp_le hC dX8_commonOfTen_5 (tgt := 29) (by decide) (fun c => absurd c (by decide +kernel)) (fun c_5 => ?_)
    refine zk_bipush hC dX8_commonOfTen_8 (v := nI 10) (by decide +kernel) ?_
    refine zr_iload_n hC dX8_commonOfTen_10 rfl ?_
    refine zn_irem hC dX8_commonOfTen_11 (by decide +kernel) (v := nI 0) (by decide +kernel) ?_
    refine zr_if_ne hC dX8_commonOfTen_12 (tgt := 23) (by decide) (fun c => absurd c (by decide +kernel)) (fun c_12 => ?_)
    refine zr_iload_n hC dX8_commonOfTen_15 rfl ?_
    refine zr_iload_n hC dX8_commonOfTen_16 rfl ?_
    refine zn_irem hC dX8_commonOfTen_17 (by decide +kernel) (v := nI 8) (by decide +kernel) ?_
    refine zr_if_ne hC dX8_commonOfTen_18 (tgt := 23) (by decide) (fun c_18 => ?_) (fun c => absurd c (by decide +kernel))
    refine zn_iinc hC dX8_commonOfTen_23 rfl (by decide) (v := nI 9) (by decide +kernel) ?_
    refine zr_goto hC dX8_commonOfTen_26 (tgt := 3) (by decide) ?_
    refine zr_iload_n hC dX8_commonOfTen_3 rfl ?_
    refine zk_iconst hC dX8_commonOfTen_4 (v := nI 1) (by decide +kernel) ?_
    refine zr_icmp_le hC dX8_commonOfTen_5 (tgt := 29) (by decide) (fun c => absurd c (by decide +kernel)) (fun c_5 => ?_)
    refine zk_bipush hC dX8_commonOfTen_8 (v := nI 10) (by decide +kernel) ?_
    refine zr_iload_n hC dX8_commonOfTen_10 rfl ?_
    refine zn_irem hC dX8_commonOfTen_11 (by decide +kernel) (v := nI 1) (by decide +kernel) ?_
    refine zr_if_ne hC dX8_commonOfTen_12 (tgt := 23) (by decide) (fun c_12 => ?_) (fun c => absurd c (by decide +kernel))
    refine zn_iinc hC dX8_commonOfTen_23 rfl (by decide) (v := nI 8) (by decide +kernel) ?_
    refine zr_goto hC dX8_commonOfTen_26 (tgt := 3) (by decide) ?_
    refine zr_iload_n hC dX8_commonOfTen_3 rfl ?_
    refine zk_iconst hC dX8_commonOfTen_4 (v := nI 1) (by decide +kernel) ?_
    refine zr_icmp_le hC dX8_commonOfTen_5 (tgt := 29) (by decide) (fun c => absurd c (by decide +kernel)) (fun c_5 => ?_)
    refine zk_bipush hC dX8_commonOfTen_8 (v := nI 10) (by decide +kernel) ?_
    refine zr_iload_n hC dX8_commonOfTen_10 rfl ?_
    refine zn_irem hC dX8_commonOfTen_11 (by decide +kernel) (v := nI 2) (by decide +kernel) ?_
    refine zr_if_ne hC dX8_commonOfTen_12 (tgt := 23) (by decide) (fun c_12 => ?_) (fun c => absurd c (by decide +kernel))
    refine zn_iinc hC dX8_commonOfTen_23 rfl (by decide) (v := nI 7) (by decide +kernel) ?_
    refine zr_goto hC dX8_commonOfTen_26 (tgt := 3) (by decide) ?_
    refine zr_iload_n hC dX8_commonOfTen_3 rfl ?_
    refine zk_iconst hC dX8_commonOfTen_4 (v := nI 1) (by decide +kernel) ?_
    refine zr_icmp_le hC dX8_commonOfTen_5 (tgt := 29) (by decide) (fun c => absurd c (by decide +kernel)) (fun c_5 => ?_)
    refine zk_bipush hC dX8_commonOfTen_8 (v := nI 10) (by decide +kernel) ?_
    refine zr_iload_n hC dX8_commonOfTen_10 rfl ?_
    refine zn_irem hC dX8_commonOfTen_11 (by decide +kernel) (v := nI 3) (by decide +kernel) ?_
    refine zr_if_ne hC dX8_commonOfTen_12 (tgt := 23) (by decide) (fun c_12 => ?_) (fun c => absurd c (by decide +kernel))
    refine zn_iinc hC dX8_commonOfTen_23 rfl (by decide) (v := nI 6) (by decide +kernel) ?_
    refine zr_goto hC dX8_commonOfTen_26 (tgt := 3) (by decide) ?_
    refine zr_iload_n hC dX8_commonOfTen_3 rfl ?_
    refine zk_iconst hC dX8_commonOfTen_4 (v := nI 1) (by decide +kernel) ?_
    refine zr_icmp_le hC dX8_commonOfTen_5 (tgt := 29) (by decide) (fun c => absurd c (by decide +kernel)) (fun c_5 => ?_)
    refine zk_bipush hC dX8_commonOfTen_8 (v := nI 10) (by decide +kernel) ?_
    refine zr_iload_n hC dX8_commonOfTen_10 rfl ?_
    refine zn_irem hC dX8_commonOfTen_11 (by decide +kernel) (v := nI 4) (by decide +kernel) ?_
    refine zr_if_ne hC dX8_commonOfTen_12 (tgt := 23) (by decide) (fun c_12 => ?_) (fun c => absurd c (by decide +kernel))
    refine zn_iinc hC dX8_commonOfTen_23 rfl (by decide) (v := nI 5) (by decide +kernel) ?_
    refine zr_goto hC dX8_commonOfTen_26 (tgt := 3) (by decide) ?_
    refine zr_iload_n hC dX8_commonOfTen_3 rfl ?_
    refine zk_iconst hC dX8_commonOfTen_4 (v := nI 1) (by decide +kernel) ?_
    refine zr_icmp_le hC dX8_commonOfTen_5 (tgt := 29) (by decide) (fun c => absurd c (by decide +kernel)) (fun c_5 => ?_)
    refine zk_bipush hC dX8_commonOfTen_8 (v := nI 10) (by decide +kernel) ?_
    refine zr_iload_n hC dX8_commonOfTen_10 rfl ?_
    refine zn_irem hC dX8_commonOfTen_11 (by decide +kernel) (v := nI 0) (by decide +kernel) ?_
    refine zr_if_ne hC dX8_commonOfTen_12 (tgt := 23) (by decide) (fun c => absurd c (by decide +kernel)) (fun c_12 => ?_)
    refine zr_iload_n hC dX8_commonOfTen_15 rfl ?_
    refine zr_iload_n hC dX8_commonOfTen_16 rfl ?_
    refine zn_irem hC dX8_commonOfTen_17 (by decide +kernel) (v := nI 3) (by decide +kernel) ?_
    refine zr_if_ne hC dX8_commonOfTen_18 (tgt := 23) (by decide) (fun c_18 => ?_) (fun c => absurd c (by decide +kernel))
    refine zn_iinc hC dX8_commonOfTen_23 rfl (by decide) (v := nI 4) (by decide +kernel) ?_
    refine zr_goto hC dX8_commonOfTen_26 (tgt := 3) (by decide) ?_
    refine zr_iload_n hC dX8_commonOfTen_3 rfl ?_
    refine zk_iconst hC dX8_commonOfTen_4 (v := nI 1) (by decide +kernel) ?_
    refine zr_icmp_le hC dX8_commonOfTen_5 (tgt := 29) (by decide) (fun c => absurd c (by decide +kernel)) (fun c_5 => ?_)
    refine zk_bipush hC dX8_commonOfTen_8 (v := nI 10) (by decide +kernel) ?_
    refine zr_iload_n hC dX8_commonOfTen_10 rfl ?_
    refine zn_irem hC dX8_commonOfTen_11 (by decide +kernel) (v := nI 2) (by decide +kernel) ?_
    refine zr_if_ne hC dX8_commonOfTen_12 (tgt := 23) (by decide) (fun c_12 => ?_) (fun c => absurd c (by decide +kernel))
    refine zn_iinc hC dX8_commonOfTen_23 rfl (by decide) (v := nI 3) (by decide +kernel) ?_
    refine zr_goto hC dX8_commonOfTen_26 (tgt := 3) (by decide) ?_
    refine zr_iload_n hC dX8_commonOfTen_3 rfl ?_
    refine zk_iconst hC dX8_commonOfTen_4 (v := nI 1) (by decide +kernel) ?_
    refine zr_icmp_le hC dX8_commonOfTen_5 (tgt := 29) (by decide) (fun c => absurd c (by decide +kernel)) (fun c_5 => ?_)
    refine zk_bipush hC dX8_commonOfTen_8 (v := nI 10) (by decide +kernel) ?_
    refine zr_iload_n hC dX8_commonOfTen_10 rfl ?_
    refine zn_irem hC dX8_commonOfTen_11 (by decide +kernel) (v := nI 1) (by decide +kernel) ?_
    refine zr_if_ne hC dX8_commonOfTen_12 (tgt := 23) (by decide) (fun c_12 => ?_) (fun c => absurd c (by decide +kernel))
    refine zn_iinc hC dX8_commonOfTen_23 rfl (by decide) (v := nI 2) (by decide +kernel) ?_
    refine zr_goto hC dX8_commonOfTen_26 (tgt := 3) (by decide) ?_
    refine zr_iload_n hC dX8_commonOfTen_3 rfl ?_
    refine zk_iconst hC dX8_commonOfTen_4 (v := nI 1) (by decide +kernel) ?_
    refine zr_icmp_le hC dX8_commonOfTen_5 (tgt := 29) (by decide) (fun c => absurd c (by decide +kernel)) (fun c_5 => ?_)
    refine zk_bipush hC dX8_commonOfTen_8 (v := nI 10) (by decide +kernel) ?_
    refine zr_iload_n hC dX8_commonOfTen_10 rfl ?_
    refine zn_irem hC dX8_commonOfTen_11 (by decide +kernel) (v := nI 0) (by decide +kernel) ?_
    refine zr_if_ne hC dX8_commonOfTen_12 (tgt := 23) (by decide) (fun c => absurd c (by decide +kernel)) (fun c_12 => ?_)
    refine zr_iload_n hC dX8_commonOfTen_15 rfl ?_
    refine zr_iload_n hC dX8_commonOfTen_16 rfl ?_
    refine zn_irem hC dX8_commonOfTen_17 (by decide +kernel) (v := nI 0) (by decide +kernel) ?_
    refine zr_if_ne hC dX8_commonOfTen_18 (tgt := 23) (by decide) (fun c => absurd c (by decide +kernel)) (fun c_18 => ?_)
    refine zr_iload_n hC dX8_commonOfTen_21 rfl ?_
    exact zr_ireturn hC hE dX8_commonOfTen_22 (hr _ _ (hQ))
  · rw [show Nat.gcd 10 9 = 1 by decide +kernel] at hQ
    refine zk_bipush hC dX8_commonOfTen_0 (v := nI 10) (by decide +kernel) ?_
    refine zr_istore_n hC dX8_commonOfTen_2 (by decide) ?_
    refine zr_iload_n hC dX8_commonOfTen_3 rfl ?_
    refine zk_iconst hC dX8_commonOfTen_4 (v := nI 1) (by decide +kernel) ?_
    refine zr_icmp_le hC dX8_commonOfTen_5 (tgt := 29) (by decide) (fun c => absurd c (by decide +kernel)) (fun c_5 => ?_)
    refine zk_bipush hC dX8_commonOfTen_8 (v := nI 10) (by decide +kernel) ?_
    refine zr_iload_n hC dX8_commonOfTen_10 rfl ?_
    refine zn_irem hC dX8_commonOfTen_11 (by decide +kernel) (v := nI 0) (by decide +kernel) ?_
    refine zr_if_ne hC dX8_commonOfTen_12 (tgt := 23) (by decide) (fun c => absurd c (by decide +kernel)) (fun c_12 => ?_)
    refine zr_iload_n hC dX8_commonOfTen_15 rfl ?_
    refine zr_iload_n hC dX8_commonOfTen_16 rfl ?_
    refine zn_irem hC dX8_commonOfTen_17 (by decide +kernel) (v := nI 9) (by decide +kernel) ?_
    refine zr_if_ne hC dX8_commonOfTen_18 (tgt := 23) (by decide) (fun c_18 => ?_) (fun c => absurd c (by decide +kernel))
    refine zn_iinc hC dX8_commonOfTen_23 rfl (by decide) (v := nI 9) (by decide +kernel) ?_
    refine zr_goto hC dX8_commonOfTen_26 (tgt := 3) (by decide) ?_
    refine zr_iload_n hC dX8_commonOfTen_3 rfl ?_
    refine zk_iconst hC dX8_commonOfTen_4 (v := nI 1) (by decide +kernel) ?_
    refine zr_icmp_le hC dX8_commonOfTen_5 (tgt := 29) (by decide) (fun c => absurd c (by decide +kernel)) (fun c_5 => ?_)
    refine zk_bipush hC dX8_commonOfTen_8 (v := nI 10) (by decide +kernel) ?_
    refine zr_iload_n hC dX8_commonOfTen_10 rfl ?_
    refine zn_irem hC dX8_commonOfTen_11 (by decide +kernel) (v := nI 1) (by decide +kernel) ?_
    refine zr_if_ne hC dX8_commonOfTen_12 (tgt := 23) (by decide) (fun c_12 => ?_) (fun c => absurd c (by decide +kernel))
    refine zn_iinc hC dX8_commonOfTen_23 rfl (by decide) (v := nI 8) (by decide +kernel) ?_
    refine zr_goto hC dX8_commonOfTen_26 (tgt := 3) (by decide) ?_
    refine zr_iload_n hC dX8_commonOfTen_3 rfl ?_
    refine zk_iconst hC dX8_commonOfTen_4 (v := nI 1) (by decide +kernel) ?_
    refine zr_icmp_le hC dX8_commonOfTen_5 (tgt := 29) (by decide) (fun c => absurd c (by decide +kernel)) (fun c_5 => ?_)
    refine zk_bipush hC dX8_commonOfTen_8 (v := nI 10) (by decide +kernel) ?_
    refine zr_iload_n hC dX8_commonOfTen_10 rfl ?_
    refine zn_irem hC dX8_commonOfTen_11 (by decide +kernel) (v := nI 2) (by decide +kernel) ?_
    refine zr_if_ne hC dX8_commonOfTen_12 (tgt := 23) (by decide) (fun c_12 => ?_) (fun c => absurd c (by decide +kernel))
    refine zn_iinc hC dX8_commonOfTen_23 rfl (by decide) (v := nI 7) (by decide +kernel) ?_
    refine zr_goto hC dX8_commonOfTen_26 (tgt := 3) (by decide) ?_
    refine zr_iload_n hC dX8_commonOfTen_3 rfl ?_
    refine zk_iconst hC dX8_commonOfTen_4 (v := nI 1) (by decide +kernel) ?_
    refine zr_icmp_le hC dX8_commonOfTen_5 (tgt := 29) (by decide) (fun c => absurd c (by decide +kernel)) (fun c_5 => ?_)
    refine zk_bipush hC dX8_commonOfTen_8 (v := nI 10) (by decide +kernel) ?_
    refine zr_iload_n hC dX8_commonOfTen_10 rfl ?_
    refine zn_irem hC dX8_commonOfTen_11 (by decide +kernel) (v := nI 3) (by decide +kernel) ?_
    refine zr_if_ne hC dX8_commonOfTen_12 (tgt := 23) (by decide) (fun c_12 => ?_) (fun c => absurd c (by decide +kernel))
    refine zn_iinc hC dX8_commonOfTen_23 rfl (by decide) (v := nI 6) (by decide +kernel) ?_
    refine zr_goto hC dX8_commonOfTen_26 (tgt := 3) (by decide) ?_
    refine zr_iload_n hC dX8_commonOfTen_3 rfl ?_
    refine zk_iconst hC dX8_commonOfTen_4 (v := nI 1) (by decide +kernel) ?_
    refine zr_icmp_le hC dX8_commonOfTen_5 (tgt := 29) (by decide) (fun c => absurd c (by decide +kernel)) (fun c_5 => ?_)
    refine zk_bipush hC dX8_commonOfTen_8 (v := nI 10) (by decide +kernel) ?_
    refine zr_iload_n hC dX8_commonOfTen_10 rfl ?_
    refine zn_irem hC dX8_commonOfTen_11 (by decide +kernel) (v := nI 4) (by decide +kernel) ?_
    refine zr_if_ne hC dX8_commonOfTen_12 (tgt := 23) (by decide) (fun c_12 => ?_) (fun c => absurd c (by decide +kernel))
    refine zn_iinc hC dX8_commonOfTen_23 rfl (by decide) (v := nI 5) (by decide +kernel) ?_
    refine zr_goto hC dX8_commonOfTen_26 (tgt := 3) (by decide) ?_
    refine zr_iload_n hC dX8_commonOfTen_3 rfl ?_
    refine zk_iconst hC dX8_commonOfTen_4 (v := nI 1) (by decide +kernel) ?_
    refine zr_icmp_le hC dX8_commonOfTen_5 (tgt := 29) (by decide) (fun c => absurd c (by decide +kernel)) (fun c_5 => ?_)
    refine zk_bipush hC dX8_commonOfTen_8 (v := nI 10) (by decide +kernel) ?_
    refine zr_iload_n hC dX8_commonOfTen_10 rfl ?_
    refine zn_irem hC dX8_commonOfTen_11 (by decide +kernel) (v := nI 0) (by decide +kernel) ?_
    refine zr_if_ne hC dX8_commonOfTen_12 (tgt := 23) (by decide) (fun c => absurd c (by decide +kernel)) (fun c_12 => ?_)
    refine zr_iload_n hC dX8_commonOfTen_15 rfl ?_
    refine zr_iload_n hC dX8_commonOfTen_16 rfl ?_
    refine zn_irem hC dX8_commonOfTen_17 (by decide +kernel) (v := nI 4) (by decide +kernel) ?_
    refine zr_if_ne hC dX8_commonOfTen_18 (tgt := 23) (by decide) (fun c_18 => ?_) (fun c => absurd c (by decide +kernel))
    refine zn_iinc hC dX8_commonOfTen_23 rfl (by decide) (v := nI 4) (by decide +kernel) ?_
    refine zr_goto hC dX8_commonOfTen_26 (tgt := 3) (by decide) ?_
    refine zr_iload_n hC dX8_commonOfTen_3 rfl ?_
    refine zk_iconst hC dX8_commonOfTen_4 (v := nI 1) (by decide +kernel) ?_
    refine zr_icmp_le hC dX8_commonOfTen_5 (tgt := 29) (by decide) (fun c => absurd c (by decide +kernel)) (fun c_5 => ?_)
    refine zk_bipush hC dX8_commonOfTen_8 (v := nI 10) (by decide +kernel) ?_
    refine zr_iload_n hC dX8_commonOfTen_10 rfl ?_
    refine zn_irem hC dX8_commonOfTen_11 (by decide +kernel) (v := nI 2) (by decide +kernel) ?_
    refine zr_if_ne hC dX8_commonOfTen_12 (tgt := 23) (by decide) (fun c_12 => ?_) (fun c => absurd c (by decide +kernel))
    refine zn_iinc hC dX8_commonOfTen_23 rfl (by decide) (v := nI 3) (by decide +kernel) ?_
    refine zr_goto hC dX8_commonOfTen_26 (tgt := 3) (by decide) ?_
    refine zr_iload_n hC dX8_commonOfTen_3 rfl ?_
    refine zk_iconst hC dX8_commonOfTen_4 (v := nI 1) (by decide +kernel) ?_
    refine zr_icmp_le hC dX8_commonOfTen_5 (tgt := 29) (by decide) (fun c => absurd c (by decide +kernel)) (fun c_5 => ?_)
    refine zk_bipush hC dX8_commonOfTen_8 (v := nI 10) (by decide +kernel) ?_
    refine zr_iload_n hC dX8_commonOfTen_10 rfl ?_
    refine zn_irem hC dX8_commonOfTen_11 (by decide +kernel) (v := nI 1) (by decide +kernel) ?_
    refine zr_if_ne hC dX8_commonOfTen_12 (tgt := 23) (by decide) (fun c_12 => ?_) (fun c => absurd c (by decide +kernel))
    refine zn_iinc hC dX8_commonOfTen_23 rfl (by decide) (v := nI 2) (by decide +kernel) ?_
    refine zr_goto hC dX8_commonOfTen_26 (tgt := 3) (by decide) ?_
    refine zr_iload_n hC dX8_commonOfTen_3 rfl ?_
    refine zk_iconst hC dX8_commonOfTen_4 (v := nI 1) (by decide +kernel) ?_
    refine zr_icmp_le hC dX8_commonOfTen_5 (tgt := 29) (by decide) (fun c => absurd c (by decide +kernel)) (fun c_5 => ?_)
    refine zk_bipush hC dX8_commonOfTen_8 (v := nI 10) (by decide +kernel) ?_
    refine zr_iload_n hC dX8_commonOfTen_10 rfl ?_
    refine zn_irem hC dX8_commonOfTen_11 (by decide +kernel) (v := nI 0) (by decide +kernel) ?_
    refine zr_if_ne hC dX8_commonOfTen_12 (tgt := 23) (by decide) (fun c => absurd c (by decide +kernel)) (fun c_12 => ?_)
    refine zr_iload_n hC dX8_commonOfTen_15 rfl ?_
    refine zr_iload_n hC dX8_commonOfTen_16 rfl ?_
    refine zn_irem hC dX8_commonOfTen_17 (by decide +kernel) (v := nI 1) (by decide +kernel) ?_
    refine zr_if_ne hC dX8_commonOfTen_18 (tgt := 23) (by decide) (fun c_18 => ?_) (fun c => absurd c (by decide +kernel))
    refine zn_iinc hC dX8_commonOfTen_23 rfl (by decide) (v := nI 1) (by decide +kernel) ?_
    refine zr_goto hC dX8_commonOfTen_26 (tgt := 3) (by decide) ?_
    refine zr_iload_n hC dX8_commonOfTen_3 rfl ?_
    refine zk_iconst hC dX8_commonOfTen_4 (v := nI 1) (by decide +kernel) ?_
    refine zr_icmp_le hC dX8_commonOfTen_5 (tgt := 29) (by decide) (fun c_5 => ?_) (fun c => absurd c (by decide +kernel))
    refine zk_iconst hC dX8_commonOfTen_29 (v := nI 1) (by decide +kernel) ?_
    exact zr_ireturn hC hE dX8_commonOfTen_30 (hr _ _ (hQ))
  · rw [show Nat.gcd 10 10 = 10 by decide +kernel] at hQ
    refine zk_bipush hC dX8_commonOfTen_0 (v := nI 10) (by decide +kernel) ?_
    refine zr_istore_n hC dX8_commonOfTen_2 (by decide) ?_
    refine zr_iload_n hC dX8_commonOfTen_3 rfl ?_
    refine zk_iconst hC dX8_commonOfTen_4 (v := nI 1) (by decide +kernel) ?_
    refine zr_icmp_le hC dX8_commonOfTen_5 (tgt := 29) (by decide) (fun c => absurd c (by decide +kernel)) (fun c_5 => ?_)
    refine zk_bipush hC dX8_commonOfTen_8 (v := nI 10) (by decide +kernel) ?_
    refine zr_iload_n hC dX8_commonOfTen_10 rfl ?_
    refine zn_irem hC dX8_commonOfTen_11 (by decide +kernel) (v := nI 0) (by decide +kernel) ?_
    refine zr_if_ne hC dX8_commonOfTen_12 (tgt := 23) (by decide) (fun c => absurd c (by decide +kernel)) (fun c_12 => ?_)
    refine zr_iload_n hC dX8_commonOfTen_15 rfl ?_
    refine zr_iload_n hC dX8_commonOfTen_16 rfl ?_
    refine zn_irem hC dX8_commonOfTen_17 (by decide +kernel) (v := nI 0) (by decide +kernel) ?_
    refine zr_if_ne hC dX8_commonOfTen_18 (tgt := 23) (by decide) (fun c => absurd c (by decide +kernel)) (fun c_18 => ?_)
    refine zr_iload_n hC dX8_commonOfTen_21 rfl ?_
    exact zr_ireturn hC hE dX8_commonOfTen_22 (hr _ _ (hQ))
set_option maxHeartbeats 4000000 in
set_option maxRecDepth 100000 in
theorem l8_luck {C : zCx} {τ : Nat → ClassId} {ι : Nat → Nat} (hC : zOK C τ (zrm 3 0 0) yX8_luck.cls cX8_luck 8) {S : zS} {b : Nat} : ∀ (n p : Nat), n < 1000 → (∀ lv, zlk 6 lv = some (.int (nI (p * b ^ n))) → zR C τ ι 8 0 0 103 lv [] (zcells S)) → zR C τ ι 8 0 0 85 [(5, .int (nI b)), (6, .int (nI p)), (7, .int (nI n))] [] (zcells S) := by
  intro n
  induction n with
  | zero =>
    intro p hn k
    refine zr_iload hC dX8_luck_85 rfl ?_
    refine zr_if_le hC dX8_luck_87 (tgt := 103) (by decide) (fun c_87 => ?_) (fun c => absurd c (not_not_intro (nI_le (b := 0) (Nat.le_refl 0) (by decide))))
    exact k _ (by rw [Nat.pow_zero, Nat.mul_one]; rfl)
  | succ n ih =>
    intro p hn k
    refine zr_iload hC dX8_luck_85 rfl ?_
    refine zr_if_le hC dX8_luck_87 (tgt := 103) (by decide) (fun c => absurd c (nI_nle (by omega) (by omega))) (fun c_87 => ?_)
    refine zr_iload hC dX8_luck_90 rfl ?_
    refine zr_iload hC dX8_luck_92 rfl ?_
    refine zn_imul hC dX8_luck_94 (pk_mul _ _) ?_
    refine zr_istore hC dX8_luck_95 (by decide) ?_
    refine zn_iinc hC dX8_luck_97 rfl (by decide) (zk_dec (by omega)) ?_
    refine zr_goto hC dX8_luck_100 (tgt := 85) (by decide) ?_
    refine zR_sub [(5, .int (nI b)), (6, .int (nI (p * b))), (7, .int (nI n))] ⟨rfl, rfl, rfl, trivial⟩ (ih (p * b) (by omega) (fun lv h => k lv ?_))
    rw [h, Nat.pow_succ, Nat.mul_assoc, Nat.mul_comm b]
theorem z_11 {x : Int32} (h : nI 10 < x) : nI 11 ≤ x := by
  rw [Int32.lt_iff_toInt_lt, nI_toInt (by decide)] at h
  rw [Int32.le_iff_toInt_le, nI_toInt (by decide)]
  omega
theorem z_10 {x : Int32} (h : ¬ nI 10 < x) : x < nI 11 := by
  rw [Int32.lt_iff_toInt_lt, nI_toInt (by decide)] at *
  omega
def spX8_luck : zSp := fun av S Q => ∃ (G : zG) (x : Int32) (c : Int32) (w : Int32), av = [.ref 0, .int x, .int c, .int w] ∧ CG S G ∧ GI G ∧ ∀ S', CG S' G → zfc S S' → Q (some (.int (fLuck x c w G))) S'
set_option maxHeartbeats 4000000 in
set_option maxRecDepth 100000 in
theorem tX8_luck : zM yX8_luck cX8_luck 8 (some .int) 3 spX8_luck := by
  refine zM.of (by decide) (by decide) (fun av S Q h => by obtain ⟨G, x, c, w, rfl, hCG, hGI, hQ⟩ := h; exact Nat.le_of_ble_eq_true rfl) (fun C τ ι av S Q Qr h hr hC hE => ?_)
  obtain ⟨G, x, c, w, rfl, hCG, hGI, hQ⟩ := h
  show zR C τ ι _ 0 0 0 [(0, .ref 0), (1, .int x), (2, .int c), (3, .int w)] [] _
  refine zr_iload_n hC dX8_luck_0 rfl ?_
  refine zs_callS hC [_] [] dX8_luck_1 ml_X8_57 mtX8_noMember tX8_noMember (by decide) (by decide) (by decide) rfl (Nat.le_of_ble_eq_true rfl) rfl ?_
  refine ⟨x, rfl, fun r e => ?_⟩
  rcases e with ⟨rfl, hx⟩ | ⟨rfl, m, hm, rfl⟩
  · simp only [fLuck, mm_no hx] at hQ
    dsimp only [Option.toList, List.cons_append, List.nil_append]
    refine zr_if_ne hC dX8_luck_4 (tgt := 26) (by decide) (fun c_4 => ?_) (fun c => absurd c (by decide +kernel))
    refine zk_iconst hC dX8_luck_26 (v := (-1)) (by decide +kernel) ?_
    exact zr_ireturn hC hE dX8_luck_27 (hr _ _ (hQ _ hCG zfc.rf))
  · dsimp only [Option.toList, List.cons_append, List.nil_append]
    refine zr_if_ne hC dX8_luck_4 (tgt := 26) (by decide) (fun c => absurd c (by decide +kernel)) (fun c_4 => ?_)
    refine zr_iload_n hC dX8_luck_7 rfl ?_
    refine zr_if_lt hC dX8_luck_8 (tgt := 26) (by decide) (fun c_8 => ?_) (fun c_8 => ?_)
    · simp only [fLuck, mm_yes hm (show 16 < 2147483648 by decide), mm_no (n := 11) (Or.inl c_8)] at hQ
      refine zk_iconst hC dX8_luck_26 (v := (-1)) (by decide +kernel) ?_
      exact zr_ireturn hC hE dX8_luck_27 (hr _ _ (hQ _ hCG zfc.rf))
    · refine zr_iload_n hC dX8_luck_11 rfl ?_
      refine zk_bipush hC dX8_luck_12 (v := nI 10) (by decide +kernel) ?_
      refine zr_icmp_gt hC dX8_luck_14 (tgt := 26) (by decide) (fun c_14 => ?_) (fun c_14 => ?_)
      · simp only [fLuck, mm_yes hm (show 16 < 2147483648 by decide), mm_no (Or.inr (z_11 c_14))] at hQ
        refine zk_iconst hC dX8_luck_26 (v := (-1)) (by decide +kernel) ?_
        exact zr_ireturn hC hE dX8_luck_27 (hr _ _ (hQ _ hCG zfc.rf))
      · obtain ⟨c, hc11, rfl⟩ := z_in (n := 11) c_8 (z_10 c_14) (by decide)
        refine zr_iload_n hC dX8_luck_17 rfl ?_
        refine zr_if_lt hC dX8_luck_18 (tgt := 26) (by decide) (fun c_18 => ?_) (fun c_18 => ?_)
        · simp only [fLuck, mm_yes hm (show 16 < 2147483648 by decide), mm_yes hc11 (show 11 < 2147483648 by decide), mm_no (n := 2) (Or.inl c_18)] at hQ
          refine zk_iconst hC dX8_luck_26 (v := (-1)) (by decide +kernel) ?_
          exact zr_ireturn hC hE dX8_luck_27 (hr _ _ (hQ _ hCG zfc.rf))
        · refine zr_iload_n hC dX8_luck_21 rfl ?_
          refine zk_iconst hC dX8_luck_22 (v := nI 1) (by decide +kernel) ?_
          refine zr_icmp_le hC dX8_luck_23 (tgt := 28) (by decide) (fun c_23 => ?_) (fun c_23 => ?_)
          · have hw := z_01 c_18 c_23
            rcases hw with rfl | rfl
            · simp only [fLuck, mm_yes hm (show 16 < 2147483648 by decide), mm_yes hc11 (show 11 < 2147483648 by decide), mm_yes (show 0 < 2 by decide) (show 2 < 2147483648 by decide)] at hQ
              refine zr_aload_n hC dX8_luck_28 rfl ?_
              refine zs_getr hC dX8_luck_29 fl_X8_12 (a := 0) (r := 1) rfl (by decide) ?_
              refine zs_getr hC dX8_luck_32 fl_X8_132 (a := 1) (r := 2) rfl (by decide) ?_
              refine zr_iload_n hC dX8_luck_35 rfl ?_
              refine zs_callV hC (b := 2) [_] [] dX8_luck_36 ml_X8_135 mtX5_sits tX5_sits (by decide) (by decide) (by decide) rfl rfl (by decide) (by decide +kernel) (Nat.le_of_ble_eq_true rfl) rfl ?_
              refine ⟨2, m, rfl, Or.inl rfl, hm, fun r e => ?_⟩
              rcases e with ⟨rfl, hx⟩ | ⟨rfl, hx⟩
              · have hx : G.1 0 m ≠ 0 := fun q => hx ((hCG.1.sr.at0 hm).mpr q)
                rw [if_pos hx] at hQ
                dsimp only [Option.toList, List.cons_append, List.nil_append]
                refine zr_if_ne hC dX8_luck_39 (tgt := 45) (by decide) (fun c_39 => ?_) (fun c => absurd c (by decide +kernel))
                refine zr_iload_n hC dX8_luck_45 rfl ?_
                refine zr_if_ne hC dX8_luck_46 (tgt := 56) (by decide) (fun c => absurd c (by decide +kernel)) (fun c_46 => ?_)
                refine zk_bipush hC dX8_luck_49 (v := nI 10) (by decide +kernel) ?_
                refine zr_iload_n hC dX8_luck_51 rfl ?_
                refine zn_isub hC dX8_luck_52 (pk_sub (by omega)) ?_
                refine zr_goto hC dX8_luck_53 (tgt := 58) (by decide) ?_
                refine zr_istore hC dX8_luck_58 (by decide) ?_
                refine zr_iload hC dX8_luck_60 rfl ?_
                refine zk_bipush hC dX8_luck_62 (v := nI 10) (by decide +kernel) ?_
                refine zr_iload_n hC dX8_luck_64 rfl ?_
                refine zn_isub hC dX8_luck_65 (pk_sub (by omega)) ?_
                refine zs_callS hC [_] [_] dX8_luck_66 ml_X8_229 mtX8_commonOfTen tX8_commonOfTen (by decide) (by decide) (by decide) rfl (Nat.le_of_ble_eq_true rfl) rfl ?_
                refine ⟨10 - c, rfl, by omega, ?_⟩
                dsimp only [Option.toList, List.cons_append, List.nil_append]
                refine zn_idiv hC dX8_luck_69 (by exact nI_ne0 (Nat.gcd_pos_of_pos_left _ (by decide)) (Nat.lt_of_le_of_lt (Nat.gcd_le_left _ (by decide)) (by decide))) (pk_div (by omega) (Nat.gcd_pos_of_pos_left _ (by decide)) (Nat.lt_of_le_of_lt (Nat.gcd_le_left _ (by decide)) (by decide))) ?_
                refine zr_istore hC dX8_luck_70 (by decide) ?_
                refine zk_iconst hC dX8_luck_72 (v := nI 1) (by decide +kernel) ?_
                refine zr_istore hC dX8_luck_73 (by decide) ?_
                refine zr_aload_n hC dX8_luck_75 rfl ?_
                refine zs_getr hC dX8_luck_76 fl_X8_12 (a := 0) (r := 1) rfl (by decide) ?_
                refine zr_iload_n hC dX8_luck_79 rfl ?_
                refine zs_callV hC (b := 1) [_] [] dX8_luck_80 ml_X8_232 mtX0_lettersNeeded tX0_lettersNeeded (by decide) (by decide) (by decide) rfl rfl (by decide) (by decide +kernel) (Nat.le_of_ble_eq_true rfl) rfl ?_
                refine ⟨m, G.1, rfl, hm, hCG.1, hGI.1, ?_⟩
                dsimp only [Option.toList, List.cons_append, List.nil_append]
                refine zr_istore hC dX8_luck_83 (by decide) ?_
                have hcn : fa_cnt (nlp G.1 m) (G.1 6 1) < 1000 := Nat.lt_of_le_of_lt (fa_cnt_le _ _) (by have := hGI.1.written; omega)
                refine zR_sub [(5, .int (nI (lbase c 0))), (6, .int (nI 1)), (7, .int (nI (fa_cnt (nlp G.1 m) (G.1 6 1))))] ⟨rfl, rfl, rfl, trivial⟩ (l8_luck hC (fa_cnt (nlp G.1 m) (G.1 6 1)) 1 hcn (fun lv h => ?_))
                rw [Nat.one_mul] at h
                refine zr_iload hC dX8_luck_103 h ?_
                exact zr_ireturn hC hE dX8_luck_105 (hr _ _ (hQ _ hCG zfc.rf))
              · have hx : G.1 0 m = 0 := (hCG.1.sr.at0 hm).mp hx
                rw [if_neg (not_not_intro hx)] at hQ
                dsimp only [Option.toList, List.cons_append, List.nil_append]
                refine zr_if_ne hC dX8_luck_39 (tgt := 45) (by decide) (fun c => absurd c (by decide +kernel)) (fun c_39 => ?_)
                refine zk_bipush hC dX8_luck_42 (v := (-2)) (by decide +kernel) ?_
                exact zr_ireturn hC hE dX8_luck_44 (hr _ _ (hQ _ hCG zfc.rf))
            · simp only [fLuck, mm_yes hm (show 16 < 2147483648 by decide), mm_yes hc11 (show 11 < 2147483648 by decide), mm_yes (show 1 < 2 by decide) (show 2 < 2147483648 by decide)] at hQ
              refine zr_aload_n hC dX8_luck_28 rfl ?_
              refine zs_getr hC dX8_luck_29 fl_X8_12 (a := 0) (r := 1) rfl (by decide) ?_
              refine zs_getr hC dX8_luck_32 fl_X8_132 (a := 1) (r := 2) rfl (by decide) ?_
              refine zr_iload_n hC dX8_luck_35 rfl ?_
              refine zs_callV hC (b := 2) [_] [] dX8_luck_36 ml_X8_135 mtX5_sits tX5_sits (by decide) (by decide) (by decide) rfl rfl (by decide) (by decide +kernel) (Nat.le_of_ble_eq_true rfl) rfl ?_
              refine ⟨2, m, rfl, Or.inl rfl, hm, fun r e => ?_⟩
              rcases e with ⟨rfl, hx⟩ | ⟨rfl, hx⟩
              · have hx : G.1 0 m ≠ 0 := fun q => hx ((hCG.1.sr.at0 hm).mpr q)
                rw [if_pos hx] at hQ
                dsimp only [Option.toList, List.cons_append, List.nil_append]
                refine zr_if_ne hC dX8_luck_39 (tgt := 45) (by decide) (fun c_39 => ?_) (fun c => absurd c (by decide +kernel))
                refine zr_iload_n hC dX8_luck_45 rfl ?_
                refine zr_if_ne hC dX8_luck_46 (tgt := 56) (by decide) (fun c_46 => ?_) (fun c => absurd c (by decide +kernel))
                refine zk_bipush hC dX8_luck_56 (v := nI 10) (by decide +kernel) ?_
                refine zr_istore hC dX8_luck_58 (by decide) ?_
                refine zr_iload hC dX8_luck_60 rfl ?_
                refine zk_bipush hC dX8_luck_62 (v := nI 10) (by decide +kernel) ?_
                refine zr_iload_n hC dX8_luck_64 rfl ?_
                refine zn_isub hC dX8_luck_65 (pk_sub (by omega)) ?_
                refine zs_callS hC [_] [_] dX8_luck_66 ml_X8_229 mtX8_commonOfTen tX8_commonOfTen (by decide) (by decide) (by decide) rfl (Nat.le_of_ble_eq_true rfl) rfl ?_
                refine ⟨10 - c, rfl, by omega, ?_⟩
                dsimp only [Option.toList, List.cons_append, List.nil_append]
                refine zn_idiv hC dX8_luck_69 (by exact nI_ne0 (Nat.gcd_pos_of_pos_left _ (by decide)) (Nat.lt_of_le_of_lt (Nat.gcd_le_left _ (by decide)) (by decide))) (pk_div (by omega) (Nat.gcd_pos_of_pos_left _ (by decide)) (Nat.lt_of_le_of_lt (Nat.gcd_le_left _ (by decide)) (by decide))) ?_
                refine zr_istore hC dX8_luck_70 (by decide) ?_
                refine zk_iconst hC dX8_luck_72 (v := nI 1) (by decide +kernel) ?_
                refine zr_istore hC dX8_luck_73 (by decide) ?_
                refine zr_aload_n hC dX8_luck_75 rfl ?_
                refine zs_getr hC dX8_luck_76 fl_X8_12 (a := 0) (r := 1) rfl (by decide) ?_
                refine zr_iload_n hC dX8_luck_79 rfl ?_
                refine zs_callV hC (b := 1) [_] [] dX8_luck_80 ml_X8_232 mtX0_lettersNeeded tX0_lettersNeeded (by decide) (by decide) (by decide) rfl rfl (by decide) (by decide +kernel) (Nat.le_of_ble_eq_true rfl) rfl ?_
                refine ⟨m, G.1, rfl, hm, hCG.1, hGI.1, ?_⟩
                dsimp only [Option.toList, List.cons_append, List.nil_append]
                refine zr_istore hC dX8_luck_83 (by decide) ?_
                have hcn : fa_cnt (nlp G.1 m) (G.1 6 1) < 1000 := Nat.lt_of_le_of_lt (fa_cnt_le _ _) (by have := hGI.1.written; omega)
                refine zR_sub [(5, .int (nI (lbase c 1))), (6, .int (nI 1)), (7, .int (nI (fa_cnt (nlp G.1 m) (G.1 6 1))))] ⟨rfl, rfl, rfl, trivial⟩ (l8_luck hC (fa_cnt (nlp G.1 m) (G.1 6 1)) 1 hcn (fun lv h => ?_))
                rw [Nat.one_mul] at h
                refine zr_iload hC dX8_luck_103 h ?_
                exact zr_ireturn hC hE dX8_luck_105 (hr _ _ (hQ _ hCG zfc.rf))
              · have hx : G.1 0 m = 0 := (hCG.1.sr.at0 hm).mp hx
                rw [if_neg (not_not_intro hx)] at hQ
                dsimp only [Option.toList, List.cons_append, List.nil_append]
                refine zr_if_ne hC dX8_luck_39 (tgt := 45) (by decide) (fun c => absurd c (by decide +kernel)) (fun c_39 => ?_)
                refine zk_bipush hC dX8_luck_42 (v := (-2)) (by decide +kernel) ?_
                exact zr_ireturn hC hE dX8_luck_44 (hr _ _ (hQ _ hCG zfc.rf))
          · simp only [fLuck, mm_yes hm (show 16 < 2147483648 by decide), mm_yes hc11 (show 11 < 2147483648 by decide), mm_no (Or.inr (z_lt1 c_23))] at hQ
            refine zk_iconst hC dX8_luck_26 (v := (-1)) (by decide +kernel) ?_
            exact zr_ireturn hC hE dX8_luck_27 (hr _ _ (hQ _ hCG zfc.rf))
theorem z_i2c {c : Nat} (h : c < 65536) : ((nI c).toUInt32 % 65536).toInt32 = nI c := by
  rw [pk_char, pk_tn (by omega), Nat.mod_eq_of_lt h]
theorem CG.tp {S S' : zS} {G : zG} (h : CG S G) (hI : GI G) {t : (Nat → Nat) × Nat} (ht : TR S' t.1 t.2) (he : ∀ a, a ≠ 229 → a ≠ 230 → S'.1 a = S.1 a) (h2 : S'.2 = S.2) : CG S' (gtape G t) := by
  obtain ⟨h1, h2', h3, h4, h5⟩ := h
  obtain ⟨i1, i2, i3, i4⟩ := hI
  have hC : CR S' G.1 := (CRb_1 i1).mp (((CRb_1 i1).mpr h1).fr i1 (fun a q1 q2 => he a (by omega) (by omega)))
  exact ⟨hC, h2'.fr i2 (he _ (by decide) (by decide)) (fun a q1 q2 => he a (by omega) (by omega)), ⟨by rw [he 0 (by decide) (by decide)]; exact h3.1, fun q => ⟨(h3.2 q).1.fr (i3 q).1 (fun a q1 q2 => he a (by omega) (by omega)), (h3.2 q).2.fr (i3 q).2 (he _ (by decide) (by decide)) (fun a q1 q2 => he a (by omega) (by omega))⟩⟩, ht, h5.fr (fun a q1 q2 => ⟨he a (by omega) (by omega), by rw [h2]⟩)⟩
theorem TR.add {S : zS} {tp : Nat → Nat} {tn c : Nat} (h : TR S tp tn) (hn : tn < 90) (hc : c < 127) : TR (zput (zput S 230 tn (nI c)) 229 1 (nI (tn + 1))) (fup tp tn c) (tn + 1) := by
  refine ⟨zput_at _ _ _ _, by omega, fun i hi => ?_⟩
  rw [zput_ne _ _ (by decide)]
  by_cases e : i = tn
  · subst e; rw [zput_at, fup_at]; exact ⟨rfl, hc⟩
  · rw [zput_k _ _ e, fup_ne _ _ e]; exact h.2.2 i (by omega)
def spX8_type : zSp := fun av S Q => ∃ (G : zG) (x : Int32), av = [.ref 0, .int x] ∧ CG S G ∧ GI G ∧ ∀ S', CG S' (fType x G).2 → zfc S S' → Q (some (.int (fType x G).1)) S'