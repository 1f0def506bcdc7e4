theorem z_rem {a n : Nat} (ha : a < 2147483648) (h0 : 0 < n) (hn : n < 2147483648) : nI a - nI a / nI n * nI n = nI (a % n) := pk_rem ha h0 hn
theorem ids_p : ∀ x, x < 6 → [19, 35, 51, 67, 83, 99][x]? = some (19 + 16 * x) := by decide
theorem ids_i : ∀ x, x < 6 → [133, 149, 165, 181, 197, 213][x]? = some (133 + 16 * x) := by decide
theorem z_min6 {p : Nat} (h : p ≤ 6) : (if nI 6 < nI (p + 1) then nI 6 else nI (p + 1)) = nI (min (p + 1) 6) := by
  by_cases h6 : nI 6 < nI (p + 1)
  · rw [if_pos h6]
    rw [nI_ltI (by decide) (by omega)] at h6
    congr 1; omega
  · rw [if_neg h6]
    rw [z_nlt (by decide) (by omega)] at h6
    congr 1; omega
def spX3_keep : zSp := fun av S Q => ∃ p x : Nat, av = [.ref 17, .ref 1] ∧ S.1 17 1 = nI p ∧ p ≤ 6 ∧ S.1 17 2 = nI x ∧ x < 6 ∧ ∀ S1, TKp (19 + 16 * x) 1 S S1 → Q none (zput (zput S1 17 2 (nI ((x + 1) % 6))) 17 1 (nI (min (p + 1) 6)))
set_option maxHeartbeats 4000000 in
set_option maxRecDepth 100000 in
theorem tX3_keep : zM yX3_keep cX3_keep 2 none 3 spX3_keep := by
  refine zM.of (by decide) (by decide) (fun av S Q h => by obtain ⟨p, x, rfl, hp, hp6, hx2, hx, hQ⟩ := h; exact Nat.le_of_ble_eq_true rfl) (fun C τ ι av S Q Qr h hr hC hE => ?_)
  obtain ⟨p, x, rfl, hp, hp6, hx2, hx, hQ⟩ := h
  show zR C τ ι _ 0 0 0 [(0, .ref 17), (1, .ref 1)] [] _
  refine zr_aload_n hC dX3_keep_0 rfl ?_
  refine zs_getr hC dX3_keep_1 fl_X3_11 (a := 17) (r := 18) rfl (by decide) ?_
  refine zr_aload_n hC dX3_keep_4 rfl ?_
  refine zv_geti hC dX3_keep_5 fl_X3_22 (a := 17) rfl (by decide) (hx2) ?_
  refine zs_aald hC dX3_keep_8 (a := 18) rfl (by decide) (by decide) (by decide) (j := x) rfl (ids_p x hx) ?_
  refine zr_aload_n hC dX3_keep_9 rfl ?_
  refine zs_callV hC (b := (19 + 16 * x)) [_] [] dX3_keep_10 ml_X3_25 mtX0_take tX0_take (by decide) (by decide) (by decide) rfl ((isB_p hx 0 (by decide)).1) (bk_lt (isB_p hx) 0 (by decide)) (by decide +kernel) (Nat.le_of_ble_eq_true rfl) rfl ?_
  refine ⟨19 + 16 * x, 1, rfl, isB_p hx, isB_1, by omega, fun S1 h1 => ?_⟩
  dsimp only [Option.toList, List.nil_append]
  refine zr_aload_n hC dX3_keep_13 rfl ?_
  refine zr_aload_n hC dX3_keep_14 rfl ?_
  refine zv_geti hC dX3_keep_15 fl_X3_22 (a := 17) rfl (by decide) ((congrFun (h1.1 17 (by omega)) 2).trans hx2) ?_
  refine zk_iconst hC dX3_keep_18 (v := nI 1) (by decide +kernel) ?_
  refine zn_iadd hC dX3_keep_19 (nI_add _ _) ?_
  refine zk_bipush hC dX3_keep_20 (v := nI 6) (by decide +kernel) ?_
  refine zn_irem hC dX3_keep_22 (by decide +kernel) (z_rem (by omega) (by decide) (by decide)) ?_
  refine zs_puti hC dX3_keep_23 fl_X3_22 fp_X3_2 (a := 17) rfl (by decide) ?_
  refine zr_aload_n hC dX3_keep_26 rfl ?_
  refine zr_aload_n hC dX3_keep_27 rfl ?_
  refine zv_geti hC dX3_keep_28 fl_X3_18 (a := 17) rfl (by decide) ((congrFun (h1.1 17 (by omega)) 1).trans hp) ?_
  refine zk_iconst hC dX3_keep_31 (v := nI 1) (by decide +kernel) ?_
  refine zn_iadd hC dX3_keep_32 (nI_add _ _) ?_
  refine zk_bipush hC dX3_keep_33 (v := nI 6) (by decide +kernel) ?_
  refine zr_min hC (by decide) dX3_keep_35 ml_X3_29 (by decide) (by decide) (Nat.le_of_ble_eq_true rfl) (z_min6 hp6) ?_
  refine zs_puti hC dX3_keep_38 fl_X3_18 fp_X3_1 (a := 17) rfl (by decide) ?_
  exact zr_vreturn hC hE dX3_keep_41 (hr _ _ (hQ _ h1))
def spX3_goBack : zSp := fun av S Q => ∃ p x : Nat, av = [.ref 17, .ref 1] ∧ S.1 17 1 = nI p ∧ 1 ≤ p ∧ p ≤ 6 ∧ S.1 17 2 = nI x ∧ x < 6 ∧ ∀ S1, TKp 1 (19 + 16 * ((x + 6 - 1) % 6)) (zput (zput S 17 2 (nI ((x + 6 - 1) % 6))) 17 1 (nI (p - 1))) S1 → Q none S1
set_option maxHeartbeats 4000000 in
set_option maxRecDepth 100000 in
theorem tX3_goBack : zM yX3_goBack cX3_goBack 2 none 3 spX3_goBack := by
  refine zM.of (by decide) (by decide) (fun av S Q h => by obtain ⟨p, x, rfl, hp, h1p, hp6, hx2, hx, hQ⟩ := h; exact Nat.le_of_ble_eq_true rfl) (fun C τ ι av S Q Qr h hr hC hE => ?_)
  obtain ⟨p, x, rfl, hp, h1p, hp6, hx2, hx, hQ⟩ := h
  show zR C τ ι _ 0 0 0 [(0, .ref 17), (1, .ref 1)] [] _
  refine zr_aload_n hC dX3_goBack_0 rfl ?_
  refine zr_aload_n hC dX3_goBack_1 rfl ?_
  refine zv_geti hC dX3_goBack_2 fl_X3_22 (a := 17) rfl (by decide) (hx2) ?_
  refine zk_bipush hC dX3_goBack_5 (v := nI 6) (by decide +kernel) ?_
  refine zn_iadd hC dX3_goBack_7 (nI_add _ _) ?_
  refine zk_iconst hC dX3_goBack_8 (v := nI 1) (by decide +kernel) ?_
  refine zn_isub hC dX3_goBack_9 (pk_sub (by omega)) ?_
  refine zk_bipush hC dX3_goBack_10 (v := nI 6) (by decide +kernel) ?_
  refine zn_irem hC dX3_goBack_12 (by decide +kernel) (z_rem (by omega) (by decide) (by decide)) ?_
  refine zs_puti hC dX3_goBack_13 fl_X3_22 fp_X3_2 (a := 17) rfl (by decide) ?_
  refine zr_aload_n hC dX3_goBack_16 rfl ?_
  refine zr_dup hC dX3_goBack_17 rfl ?_
  refine zv_geti hC dX3_goBack_18 fl_X3_18 (a := 17) rfl (by decide) (hp) ?_
  refine zk_iconst hC dX3_goBack_21 (v := nI 1) (by decide +kernel) ?_
  refine zn_isub hC dX3_goBack_22 (pk_sub h1p) ?_
  refine zs_puti hC dX3_goBack_23 fl_X3_18 fp_X3_1 (a := 17) rfl (by decide) ?_
  refine zr_aload_n hC dX3_goBack_26 rfl ?_
  refine zr_aload_n hC dX3_goBack_27 rfl ?_
  refine zs_getr hC dX3_goBack_28 fl_X3_11 (a := 17) (r := 18) rfl (by decide) ?_
  refine zr_aload_n hC dX3_goBack_31 rfl ?_
  refine zv_geti hC dX3_goBack_32 fl_X3_22 (a := 17) rfl (by decide) (zput_at S 17 2 _) ?_
  refine zs_aald hC dX3_goBack_35 (a := 18) rfl (by decide) (by decide) (by decide) (j := (x + 6 - 1) % 6) rfl (ids_p _ (Nat.mod_lt _ (by decide))) ?_
  refine zs_callV hC (b := 1) [_] [] dX3_goBack_36 ml_X3_25 mtX0_take tX0_take (by decide) (by decide) (by decide) rfl rfl (by decide) (by decide +kernel) (Nat.le_of_ble_eq_true rfl) rfl ?_
  refine ⟨1, 19 + 16 * ((x + 6 - 1) % 6), rfl, isB_1, isB_p (Nat.mod_lt _ (by decide)), by omega, fun S1 h1 => ?_⟩
  dsimp only [Option.toList, List.nil_append]
  exact zr_vreturn hC hE dX3_goBack_39 (hr _ _ (hQ _ h1))
/-- the first n books of a past as those of another were; nothing else but these has changed -/
def PT (d s : Nat) (S0 S : zS) (n : Nat) : Prop := (∀ a, (a < d ∨ d + 96 ≤ a) → S.1 a = S0.1 a) ∧ S.2 = S0.2 ∧ ∀ j o k, j < n → o < 16 → vald o k = true → S.1 (d + 16 * j + o) k = S0.1 (s + 16 * j + o) k
theorem PT.step {d s n : Nat} {S0 S S' : zS} (h : PT d s S0 S n) (hn : n < 6) (hsep : s + 96 ≤ d ∨ d + 96 ≤ s) (h1 : TKp (d + 16 * n) (s + 16 * n) S S') : PT d s S0 S' (n + 1) := by
  refine ⟨fun a ha => (h1.1 a (by omega)).trans (h.1 a ha), h1.2.1.trans h.2.1, fun j o k hj ho hv => ?_⟩
  by_cases hjn : j = n
  · subst hjn
    rw [h1.2.2 o k ho hv]
    exact congrFun (h.1 _ (by omega)) k
  · rw [h1.1 (d + 16 * j + o) (by omega)]
    exact h.2.2 j o k (by omega) ho hv
set_option maxHeartbeats 4000000 in
set_option maxRecDepth 100000 in
theorem l3_take_131 {C : zCx} {τ : Nat → ClassId} {ι : Nat → Nat} (hC : zOK C τ (zrm 3 0 0) yX3_take.cls cX3_take 3) {S0 : zS} (k : ∀ S lv, PT 133 19 S0 S 6 → zR C τ ι 3 0 0 45 lv [] (zcells S)) : ∀ (n i : Nat) (S : zS), i + n = 6 → PT 133 19 S0 S i → zR C τ ι 3 0 0 18 [(0, .ref 131), (1, .ref 17), (2, .int (nI i))] [] (zcells S) := by
  intro n
  induction n with
  | zero =>
    intro i S hi hT
    have hi : i = 6 := by omega
    subst hi
    refine zr_iload_n hC dX3_take_18 rfl ?_
    refine zk_bipush hC dX3_take_19 (v := nI 6) (by decide +kernel) ?_
    refine zr_icmp_ge hC dX3_take_21 (tgt := 45) (by decide) (fun c_21 => ?_) (fun c => absurd c (not_not_intro (nI_le (by omega) (by omega))))
    exact k S _ hT
  | succ n ih =>
    intro i S hi hT
    refine zr_iload_n hC dX3_take_18 rfl ?_
    refine zk_bipush hC dX3_take_19 (v := nI 6) (by decide +kernel) ?_
    refine zr_icmp_ge hC dX3_take_21 (tgt := 45) (by decide) (fun c => absurd c (nI_ge (by omega) (by omega))) (fun c_21 => ?_)
    refine zr_aload_n hC dX3_take_24 rfl ?_
    refine zs_getr hC dX3_take_25 fl_X3_11 (a := 131) (r := 132) rfl (by decide) ?_
    refine zr_iload_n hC dX3_take_28 rfl ?_
    refine zs_aald hC dX3_take_29 (a := 132) rfl (by decide) (by decide) (by decide) (j := i) rfl (ids_i i (by omega)) ?_
    refine zr_aload_n hC dX3_take_30 rfl ?_
    refine zs_getr hC dX3_take_31 fl_X3_11 (a := 17) (r := 18) rfl (by decide) ?_
    refine zr_iload_n hC dX3_take_34 rfl ?_
    refine zs_aald hC dX3_take_35 (a := 18) rfl (by decide) (by decide) (by decide) (j := i) rfl (ids_p i (by omega)) ?_
    refine zs_callV hC (b := (133 + 16 * i)) [_] [] dX3_take_36 ml_X3_25 mtX0_take tX0_take (by decide) (by decide) (by decide) rfl ((isB_i (by omega : i < 6) 0 (by decide)).1) (bk_lt (isB_i (by omega)) 0 (by decide)) (by decide +kernel) (Nat.le_of_ble_eq_true rfl) rfl ?_
    refine ⟨133 + 16 * i, 19 + 16 * i, rfl, isB_i (by omega), isB_p (by omega), by omega, fun S1 h1 => ?_⟩
    dsimp only [Option.toList, List.nil_append]
    refine zn_iinc hC dX3_take_39 rfl (by decide) (zk_inc _ 1) ?_
    refine zr_goto hC dX3_take_42 (tgt := 18) (by decide) ?_
    exact zR_sub [(0, .ref 131), (1, .ref 17), (2, .int (nI (i + 1)))] ⟨rfl, rfl, rfl, trivial⟩ (ih (i + 1) S1 (by omega) (hT.step (by omega) (by omega) h1))
set_option maxHeartbeats 4000000 in
set_option maxRecDepth 100000 in
theorem l3_take_17 {C : zCx} {τ : Nat → ClassId} {ι : Nat → Nat} (hC : zOK C τ (zrm 3 0 0) yX3_take.cls cX3_take 3) {S0 : zS} (k : ∀ S lv, PT 19 133 S0 S 6 → zR C τ ι 3 0 0 45 lv [] (zcells S)) : ∀ (n i : Nat) (S : zS), i + n = 6 → PT 19 133 S0 S i → zR C τ ι 3 0 0 18 [(0, .ref 17), (1, .ref 131), (2, .int (nI i))] [] (zcells S) := by
  intro n
  induction n with
  | zero =>
    intro i S hi hT
    have hi : i = 6 := by omega
    subst hi
    refine zr_iload_n hC dX3_take_18 rfl ?_
    refine zk_bipush hC dX3_take_19 (v := nI 6) (by decide +kernel) ?_
    refine zr_icmp_ge hC dX3_take_21 (tgt := 45) (by decide) (fun c_21 => ?_) (fun c => absurd c (not_not_intro (nI_le (by omega) (by omega))))
    exact k S _ hT
  | succ n ih =>
    intro i S hi hT
    refine zr_iload_n hC dX3_take_18 rfl ?_
    refine zk_bipush hC dX3_take_19 (v := nI 6) (by decide +kernel) ?_
    refine zr_icmp_ge hC dX3_take_21 (tgt := 45) (by decide) (fun c => absurd c (nI_ge (by omega) (by omega))) (fun c_21 => ?_)
    refine zr_aload_n hC dX3_take_24 rfl ?_
    refine zs_getr hC dX3_take_25 fl_X3_11 (a := 17) (r := 18) rfl (by decide) ?_
    refine zr_iload_n hC dX3_take_28 rfl ?_
    refine zs_aald hC dX3_take_29 (a := 18) rfl (by decide) (by decide) (by decide) (j := i) rfl (ids_p i (by omega)) ?_
    refine zr_aload_n hC dX3_take_30 rfl ?_
    refine zs_getr hC dX3_take_31 fl_X3_11 (a := 131) (r := 132) rfl (by decide) ?_
    refine zr_iload_n hC dX3_take_34 rfl ?_
    refine zs_aald hC dX3_take_35 (a := 132) rfl (by decide) (by decide) (by decide) (j := i) rfl (ids_i i (by omega)) ?_
    refine zs_callV hC (b := (19 + 16 * i)) [_] [] dX3_take_36 ml_X3_25 mtX0_take tX0_take (by decide) (by decide) (by decide) rfl ((isB_p (by omega : i < 6) 0 (by decide)).1) (bk_lt (isB_p (by omega)) 0 (by decide)) (by decide +kernel) (Nat.le_of_ble_eq_true rfl) rfl ?_
    refine ⟨19 + 16 * i, 133 + 16 * i, rfl, isB_p (by omega), isB_i (by omega), by omega, fun S1 h1 => ?_⟩
    dsimp only [Option.toList, List.nil_append]
    refine zn_iinc hC dX3_take_39 rfl (by decide) (zk_inc _ 1) ?_
    refine zr_goto hC dX3_take_42 (tgt := 18) (by decide) ?_
    exact zR_sub [(0, .ref 17), (1, .ref 131), (2, .int (nI (i + 1)))] ⟨rfl, rfl, rfl, trivial⟩ (ih (i + 1) S1 (by omega) (hT.step (by omega) (by omega) h1))
def spX3_take : zSp := fun av S Q => ∃ d s db sb : Nat, av = [.ref d, .ref s] ∧ ((d = 131 ∧ s = 17 ∧ db = 133 ∧ sb = 19) ∨ (d = 17 ∧ s = 131 ∧ db = 19 ∧ sb = 133)) ∧ ∀ S', PT db sb (zput (zput S d 1 (S.1 s 1)) d 2 (S.1 s 2)) S' 6 → Q none S'
set_option maxHeartbeats 4000000 in
set_option maxRecDepth 100000 in
theorem tX3_take : zM yX3_take cX3_take 3 none 3 spX3_take := by
  refine zM.of (by decide) (by decide) (fun av S Q h => by obtain ⟨d, s, db, sb, rfl, hds, hQ⟩ := h; exact Nat.le_of_ble_eq_true rfl) (fun C τ ι av S Q Qr h hr hC hE => ?_)
  obtain ⟨d, s, db, sb, rfl, hds, hQ⟩ := h
  rcases hds with ⟨rfl, rfl, rfl, rfl⟩ | ⟨rfl, rfl, rfl, rfl⟩
  · show zR C τ ι _ 0 0 0 [(0, .ref 131), (1, .ref 17)] [] _
    refine zr_aload_n hC dX3_take_0 rfl ?_
    refine zr_aload_n hC dX3_take_1 rfl ?_
    refine zs_geti hC dX3_take_2 fl_X3_18 (a := 17) rfl (by decide) ?_
    refine zs_puti hC dX3_take_5 fl_X3_18 fp_X3_1 (a := 131) rfl (by decide) ?_
    refine zr_aload_n hC dX3_take_8 rfl ?_
    refine zr_aload_n hC dX3_take_9 rfl ?_
    refine zv_geti hC dX3_take_10 fl_X3_22 (a := 17) rfl (by decide) (rfl) ?_
    refine zs_puti hC dX3_take_13 fl_X3_22 fp_X3_2 (a := 131) rfl (by decide) ?_
    refine zk_iconst hC dX3_take_16 (v := nI 0) (by decide +kernel) ?_
    refine zr_istore_n hC dX3_take_17 (by decide) ?_
    refine zR_sub [(0, .ref 131), (1, .ref 17), (2, .int (nI 0))] ⟨rfl, rfl, rfl, trivial⟩ ?_
    exact l3_take_131 hC (S0 := (zput (zput S 131 1 (S.1 17 1)) 131 2 (S.1 17 2))) (fun S2 lv h2 => zr_vreturn hC hE dX3_take_45 (hr _ _ (hQ _ h2))) 6 0 _ (by decide) ⟨fun _ _ => rfl, rfl, fun j _ _ h => absurd h (Nat.not_lt_zero j)⟩
  · show zR C τ ι _ 0 0 0 [(0, .ref 17), (1, .ref 131)] [] _
    refine zr_aload_n hC dX3_take_0 rfl ?_
    refine zr_aload_n hC dX3_take_1 rfl ?_
    refine zs_geti hC dX3_take_2 fl_X3_18 (a := 131) rfl (by decide) ?_
    refine zs_puti hC dX3_take_5 fl_X3_18 fp_X3_1 (a := 17) rfl (by decide) ?_
    refine zr_aload_n hC dX3_take_8 rfl ?_
    refine zr_aload_n hC dX3_take_9 rfl ?_
    refine zv_geti hC dX3_take_10 fl_X3_22 (a := 131) rfl (by decide) (rfl) ?_
    refine zs_puti hC dX3_take_13 fl_X3_22 fp_X3_2 (a := 17) rfl (by decide) ?_
    refine zk_iconst hC dX3_take_16 (v := nI 0) (by decide +kernel) ?_
    refine zr_istore_n hC dX3_take_17 (by decide) ?_
    refine zR_sub [(0, .ref 17), (1, .ref 131), (2, .int (nI 0))] ⟨rfl, rfl, rfl, trivial⟩ ?_
    exact l3_take_17 hC (S0 := (zput (zput S 17 1 (S.1 131 1)) 17 2 (S.1 131 2))) (fun S2 lv h2 => zr_vreturn hC hE dX3_take_45 (hr _ _ (hQ _ h2))) 6 0 _ (by decide) ⟨fun _ _ => rfl, rfl, fun j _ _ h => absurd h (Nat.not_lt_zero j)⟩
