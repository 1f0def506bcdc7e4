/-! THE CALLS OF THE MODEL: what opens -/
theorem op1_up {D : zD} {f : Nat → Bool} {i k : Nat} (h : f k = true) : op1 D f i k = true := by simp [op1, h]
theorem opf_up {D : zD} {f : Nat → Bool} {k : Nat} (h : f k = true) : ∀ i, (opf D f i).1 k = true
  | 0 => h
  | i + 1 => op1_up (opf_up h i)
theorem opf_new {D : zD} {f : Nat → Bool} {n : Nat} : ∀ i, (∀ j, j < i → D 10 j < n) → (opf D f i).2 = true → ∃ k, k < n ∧ f k = false ∧ (opf D f i).1 k = true
  | 0, _, h => by cases h
  | i + 1, hn, h => by
    rw [opf, Bool.or_eq_true] at h
    rcases h with h | h
    · obtain ⟨k, h1, h2, h3⟩ := opf_new i (fun j hj => hn j (by omega)) h
      exact ⟨k, h1, h2, op1_up h3⟩
    · rw [Bool.and_eq_true, Bool.not_eq_true'] at h
      refine ⟨D 10 i, hn i (by omega), ?_, ?_⟩
      · cases q : f (D 10 i) with
        | false => rfl
        | true => rw [opf_up q i] at h; exact absurd h.2 (by decide)
      · show op1 D (opf D f i).1 i (D 10 i) = true
        simp [op1, h.1]
theorem cnt_le {f g : Nat → Bool} : ∀ n, (∀ k, k < n → f k = true → g k = true) → fa_cnt f n ≤ fa_cnt g n
  | 0, _ => Nat.le_refl 0
  | n + 1, h => by
    have ih := cnt_le n (fun k hk => h k (by omega))
    unfold fa_cnt
    have := h n (by omega)
    split
    next q => rw [if_pos (this q)]; omega
    next q => split <;> omega
theorem cnt_lt {f g : Nat → Bool} : ∀ n, (∀ k, k < n → f k = true → g k = true) → (∃ k, k < n ∧ f k = false ∧ g k = true) → fa_cnt f n + 1 ≤ fa_cnt g n
  | 0, _, ⟨k, h, _⟩ => by omega
  | n + 1, h, ⟨k, h1, h2, h3⟩ => by
    unfold fa_cnt
    by_cases q : k = n
    · subst q
      have ih := cnt_le k (fun j hj => h j (by omega))
      rw [if_neg (by rw [h2]; decide), if_pos h3]
      omega
    · have ih := cnt_lt n (fun j hj => h j (by omega)) ⟨k, by omega, h2, h3⟩
      have := h n (by omega)
      split
      next q => rw [if_pos (this q)]; omega
      next q => split <;> omega
theorem cnt_all {f : Nat → Bool} : ∀ n, n ≤ fa_cnt f n → ∀ k, k < n → f k = true
  | 0, _, k, hk => by omega
  | n + 1, h, k, hk => by
    unfold fa_cnt at h
    have := fa_cnt_le f n
    split at h
    next q =>
      by_cases e : k = n
      · rw [e]; exact q
      · exact cnt_all n (by omega) k (by omega)
    next q => omega
theorem opr_cnt {D : zD} {f : Nat → Bool} (hn : ∀ j, j < D 6 1 → D 10 j < D 6 0) : ∀ r, (opr D f r).2 = true → r ≤ fa_cnt (opr D f r).1 (D 6 0)
  | 0, _ => Nat.zero_le _
  | r + 1, h => by
    unfold opr at h ⊢
    split at h
    next q =>
      rw [if_pos q]
      have ih := opr_cnt hn r q
      have := cnt_lt (D 6 0) (fun k _ => opf_up (D := D) (f := (opr D f r).1) (k := k) (i := D 6 1)) (opf_new _ hn h)
      omega
    next q => exact absurd h q
theorem opr_up {D : zD} {f : Nat → Bool} {r k : Nat} (h : (opr D f r).1 k = true) : (opr D f (r + 1)).1 k = true := by
  rw [opr]
  split
  · exact opf_up h _
  · exact h
/-- as many rounds as there are keys do it -/
theorem opr_enough {D : zD} {f : Nat → Bool} (hn : ∀ j, j < D 6 1 → D 10 j < D 6 0) (h60 : D 6 0 ≤ 230) {k : Nat} (hk : k < D 6 0) : (opr D f 232).1 k = (opr D f 230).1 k := by
  cases h : (opr D f 230).2 with
  | false => rw [show 232 = 230 + 2 by rfl, opr_stop h 2]
  | true =>
    have h1 : (opr D f 230).1 k = true := cnt_all (D 6 0) (Nat.le_trans h60 (opr_cnt hn 230 h)) k hk
    rw [h1]
    have h2 : (opr D f (230 + 1)).1 k = true := opr_up h1
    have h3 : (opr D f (230 + 1 + 1)).1 k = true := opr_up h2
    rw [show 232 = 230 + 1 + 1 from rfl]
    exact h3
theorem op_put {D : zD} {f : Nat → Bool} {i n : Nat} {S : zS} {x : Int32} (hs : ∀ k, k < n → S.1 250 k = zb (f k)) (hx : x = zb (f (D 10 i) || f (D 11 i))) : ∀ k, k < n → (zput S 250 (D 10 i) x).1 250 k = zb (op1 D f i k) := fun k hk => by
  by_cases q : k = D 10 i
  · subst q; rw [zput_at, hx]; simp [op1]
  · rw [zput_k _ _ q, hs k hk]; unfold op1; rw [beq_eq_false_iff_ne.mpr q]; simp
theorem z_b3 (a b c : Bool) : (a = false ∧ b = false ∧ c = false) ∨ (a = false ∧ b = false ∧ c = true) ∨ (a = false ∧ b = true ∧ c = false) ∨ (a = false ∧ b = true ∧ c = true) ∨ (a = true ∧ b = false ∧ c = false) ∨ (a = true ∧ b = false ∧ c = true) ∨ (a = true ∧ b = true ∧ c = false) ∨ (a = true ∧ b = true ∧ c = true) := by
  cases a <;> cases b <;> cases c <;> simp
set_option maxHeartbeats 4000000 in
set_option maxRecDepth 100000 in
theorem l9_open1 {C : zCx} {τ : Nat → ClassId} {ι : Nat → Nat} (hC : zOK C τ (zrm 1 0 0) yX9_opensAll.cls cX9_opensAll 6) {S0 : zS} {D : zD} (hM : MW (S0.1 246) D) {s : Nat} (hsl : s < 65536) (k : ∀ S lv, zfrm 250 251 S0 S → (∀ j, j < D 6 0 → S.1 250 j = zb (f0 D s j)) → zlk 0 lv = some (.ref 245) → zR C τ ι 6 0 0 44 lv [] (zcells S)) : ∀ (d i : Nat) (S : zS), i + d = D 6 0 → zfrm 250 251 S0 S → (∀ j, j < i → S.1 250 j = zb (f0 D s j)) → zR C τ ι 6 0 0 2 [(0, .ref 245), (1, .int (nI s)), (2, .int (nI i))] [] (zcells S) := by
  intro d
  induction d with
  | zero =>
    intro i S hi hf hs
    refine zr_iload_n hC dX9_opensAll_2 rfl ?_
    refine zr_aload_n hC dX9_opensAll_3 rfl ?_
    refine zs_getr hC dX9_opensAll_4 fl_X9_7 (a := 245) (r := 246) rfl (by decide) ?_
    refine zk_iconst hC dX9_opensAll_7 (v := nI 0) (by decide +kernel) ?_
    refine zv_iald hC dX9_opensAll_8 (a := 246) (n := 752) rfl (by decide) (by decide) (j := 0) rfl (by decide) ((congrFun (hf.1 246 (by decide)) 0).trans hM.1.1.1) ?_
    refine zr_icmp_ge hC dX9_opensAll_9 (tgt := 44) (by decide) (fun c_9 => ?_) (fun c => absurd c (not_not_intro (nI_le (by omega) (by have := hM.made; omega))))
    exact k S _ hf (fun j hj => hs j (by omega)) rfl
  | succ d ih =>
    intro i S hi hf hs
    refine zr_iload_n hC dX9_opensAll_2 rfl ?_
    refine zr_aload_n hC dX9_opensAll_3 rfl ?_
    refine zs_getr hC dX9_opensAll_4 fl_X9_7 (a := 245) (r := 246) rfl (by decide) ?_
    refine zk_iconst hC dX9_opensAll_7 (v := nI 0) (by decide +kernel) ?_
    refine zv_iald hC dX9_opensAll_8 (a := 246) (n := 752) rfl (by decide) (by decide) (j := 0) rfl (by decide) ((congrFun (hf.1 246 (by decide)) 0).trans hM.1.1.1) ?_
    refine zr_icmp_ge hC dX9_opensAll_9 (tgt := 44) (by decide) (fun c => absurd c (nI_ge (by omega) (by have := hM.made; omega))) (fun c_9 => ?_)
    refine zr_aload_n hC dX9_opensAll_12 rfl ?_
    refine zs_getr hC dX9_opensAll_13 fl_X9_23 (a := 245) (r := 250) rfl (by decide) ?_
    refine zr_iload_n hC dX9_opensAll_16 rfl ?_
    refine zr_aload_n hC dX9_opensAll_17 rfl ?_
    refine zs_getr hC dX9_opensAll_18 fl_X9_7 (a := 245) (r := 246) rfl (by decide) ?_
    refine zk_sipush hC dX9_opensAll_21 (v := nI 330) (by decide +kernel) ?_
    refine zr_iload_n hC dX9_opensAll_24 rfl ?_
    refine zn_iadd hC dX9_opensAll_25 (nI_add _ _) ?_
    refine zv_iald hC dX9_opensAll_26 (a := 246) (n := 752) rfl (by decide) (by decide) (j := 330 + i) rfl (by have := hM.made; omega) ((congrFun (hf.1 246 (by decide)) _).trans (hM.hold (show i < D 6 0 by omega))) ?_
    refine zr_iload_n hC dX9_opensAll_27 rfl ?_
    refine zn_iand hC dX9_opensAll_28 (nx_and _ _) ?_
    refine zr_if_eq hC dX9_opensAll_29 (tgt := 36) (by decide) (fun c_29 => ?_) (fun c_29 => ?_)
    · rw [z_ne0 (Nat.lt_of_le_of_lt Nat.and_le_right (by omega))] at c_29
      refine zk_iconst hC dX9_opensAll_36 (v := nI 0) (by decide +kernel) ?_
      refine zs_zast hC dX9_opensAll_37 (a := 250) (n := 230) rfl (by decide) (by decide) (j := i) rfl (by have := hM.made; omega) (by first | exact Or.inl rfl | exact Or.inr rfl) ?_
      refine zn_iinc hC dX9_opensAll_38 rfl (by decide) (zk_inc _ 1) ?_
      refine zr_goto hC dX9_opensAll_41 (tgt := 2) (by decide) ?_
      exact zR_sub [(0, .ref 245), (1, .int (nI s)), (2, .int (nI (i + 1)))] ⟨rfl, rfl, rfl, trivial⟩ (ih (i + 1) _ (by omega) (hf.put (by decide) (by decide)) (fun j hj => by
        by_cases q : j = i
        · subst q; rw [zput_at]; simp [f0, zb, c_29]
        · rw [zput_k _ _ q]; exact hs j (by omega)))
    · rw [z_ne0 (Nat.lt_of_le_of_lt Nat.and_le_right (by omega))] at c_29
      refine zk_iconst hC dX9_opensAll_32 (v := nI 1) (by decide +kernel) ?_
      refine zr_goto hC dX9_opensAll_33 (tgt := 37) (by decide) ?_
      refine zs_zast hC dX9_opensAll_37 (a := 250) (n := 230) rfl (by decide) (by decide) (j := i) rfl (by have := hM.made; omega) (by first | exact Or.inl rfl | exact Or.inr rfl) ?_
      refine zn_iinc hC dX9_opensAll_38 rfl (by decide) (zk_inc _ 1) ?_
      refine zr_goto hC dX9_opensAll_41 (tgt := 2) (by decide) ?_
      exact zR_sub [(0, .ref 245), (1, .int (nI s)), (2, .int (nI (i + 1)))] ⟨rfl, rfl, rfl, trivial⟩ (ih (i + 1) _ (by omega) (hf.put (by decide) (by decide)) (fun j hj => by
        by_cases q : j = i
        · subst q; rw [zput_at]; simp [f0, zb, c_29]
        · rw [zput_k _ _ q]; exact hs j (by omega)))
set_option maxHeartbeats 4000000 in
set_option maxRecDepth 100000 in
theorem l9_open3 {C : zCx} {τ : Nat → ClassId} {ι : Nat → Nat} (hC : zOK C τ (zrm 1 0 0) yX9_opensAll.cls cX9_opensAll 6) {S0 : zS} {D : zD} (hM : MW (S0.1 246) D) {f : Nat → Bool} {r : Nat} (hL : ∀ i, i < D 6 1 → D 10 i < D 6 0 ∧ D 11 i < D 6 0) (k : ∀ S lv, zfrm 250 251 S0 S → (∀ j, j < D 6 0 → S.1 250 j = zb ((opf D f (D 6 1)).1 j)) → zlk 0 lv = some (.ref 245) → zlk 2 lv = some (.int (zb (opf D f (D 6 1)).2)) → zlk 3 lv = some (.int (nI r)) → zR C τ ι 6 0 0 166 lv [] (zcells S)) : ∀ (d i : Nat) (S : zS), i + d = D 6 1 → zfrm 250 251 S0 S → (∀ j, j < D 6 0 → S.1 250 j = zb ((opf D f i).1 j)) → zR C τ ι 6 0 0 64 [(0, .ref 245), (2, .int (zb (opf D f i).2)), (3, .int (nI r)), (4, .int (nI i))] [] (zcells S) := by
  intro d
  induction d with
  | zero =>
    intro i S hi hf hs
    refine zr_iload hC dX9_opensAll_64 rfl ?_
    refine zr_aload_n hC dX9_opensAll_66 rfl ?_
    refine zs_getr hC dX9_opensAll_67 fl_X9_7 (a := 245) (r := 246) rfl (by decide) ?_
    refine zk_iconst hC dX9_opensAll_70 (v := nI 1) (by decide +kernel) ?_
    refine zv_iald hC dX9_opensAll_71 (a := 246) (n := 752) rfl (by decide) (by decide) (j := 1) rfl (by decide) ((congrFun (hf.1 246 (by decide)) 1).trans hM.1.1.2.1) ?_
    refine zr_icmp_ge hC dX9_opensAll_72 (tgt := 166) (by decide) (fun c_72 => ?_) (fun c => absurd c (not_not_intro (nI_le (by omega) (by have := hM.writ; omega))))
    obtain rfl : i = D 6 1 := (by omega)
    exact k S _ hf hs rfl rfl rfl
  | succ d ih =>
    intro i S hi hf hs
    refine zr_iload hC dX9_opensAll_64 rfl ?_
    refine zr_aload_n hC dX9_opensAll_66 rfl ?_
    refine zs_getr hC dX9_opensAll_67 fl_X9_7 (a := 245) (r := 246) rfl (by decide) ?_
    refine zk_iconst hC dX9_opensAll_70 (v := nI 1) (by decide +kernel) ?_
    refine zv_iald hC dX9_opensAll_71 (a := 246) (n := 752) rfl (by decide) (by decide) (j := 1) rfl (by decide) ((congrFun (hf.1 246 (by decide)) 1).trans hM.1.1.2.1) ?_
    refine zr_icmp_ge hC dX9_opensAll_72 (tgt := 166) (by decide) (fun c => absurd c (nI_ge (by omega) (by have := hM.writ; omega))) (fun c_72 => ?_)
    have hM1 : MW (S.1 246) D := by rw [hf.1 246 (by decide)]; exact hM
    have hl := hL i (by omega)
    have h60 := hM.made
    rcases z_b3 ((opf D f i).1 (D 11 i)) ((opf D f i).1 (D 10 i)) (opf D f i).2 with ⟨hu, hn, hm⟩ | ⟨hu, hn, hm⟩ | ⟨hu, hn, hm⟩ | ⟨hu, hn, hm⟩ | ⟨hu, hn, hm⟩ | ⟨hu, hn, hm⟩ | ⟨hu, hn, hm⟩ | ⟨hu, hn, hm⟩
    · rw [hm]
      refine zr_aload_n hC dX9_opensAll_75 rfl ?_
      refine zs_getr hC dX9_opensAll_76 fl_X9_23 (a := 245) (r := 250) rfl (by decide) ?_
      refine zr_aload_n hC dX9_opensAll_79 rfl ?_
      refine zr_iload hC dX9_opensAll_80 rfl ?_
      refine zs_callV hC (b := 245) [_] [_] dX9_opensAll_82 ml_X9_114 mtX9_underOf tX9_underOf (by decide) (by decide) (by decide) rfl rfl (by decide) (by decide +kernel) (Nat.le_of_ble_eq_true rfl) rfl ?_
      refine ⟨i, D, rfl, by omega, hM1, ?_⟩
      dsimp only [Option.toList, List.cons_append, List.nil_append]
      refine zv_zald hC dX9_opensAll_85 (a := 250) (n := 230) rfl (by decide) (by decide) (j := D 11 i) rfl (by omega) ((hs _ hl.2).trans (congrArg zb hu)) ?_
      refine zr_if_eq hC dX9_opensAll_86 (tgt := 107) (by decide) (fun c_86 => ?_) (fun c => absurd c (by decide +kernel))
      refine zk_iconst hC dX9_opensAll_107 (v := nI 0) (by decide +kernel) ?_
      refine zr_istore hC dX9_opensAll_108 (by decide) ?_
      refine zr_aload_n hC dX9_opensAll_110 rfl ?_
      refine zs_getr hC dX9_opensAll_111 fl_X9_23 (a := 245) (r := 250) rfl (by decide) ?_
      refine zr_aload_n hC dX9_opensAll_114 rfl ?_
      refine zr_iload hC dX9_opensAll_115 rfl ?_
      refine zs_callV hC (b := 245) [_] [_] dX9_opensAll_117 ml_X9_120 mtX9_inOf tX9_inOf (by decide) (by decide) (by decide) rfl rfl (by decide) (by decide +kernel) (Nat.le_of_ble_eq_true rfl) rfl ?_
      refine ⟨i, D, rfl, by omega, hM1, ?_⟩
      dsimp only [Option.toList, List.cons_append, List.nil_append]
      refine zr_aload_n hC dX9_opensAll_120 rfl ?_
      refine zs_getr hC dX9_opensAll_121 fl_X9_23 (a := 245) (r := 250) rfl (by decide) ?_
      refine zr_aload_n hC dX9_opensAll_124 rfl ?_
      refine zr_iload hC dX9_opensAll_125 rfl ?_
      refine zs_callV hC (b := 245) [_] [_, _, _] dX9_opensAll_127 ml_X9_120 mtX9_inOf tX9_inOf (by decide) (by decide) (by decide) rfl rfl (by decide) (by decide +kernel) (Nat.le_of_ble_eq_true rfl) rfl ?_
      refine ⟨i, D, rfl, by omega, hM1, ?_⟩
      dsimp only [Option.toList, List.cons_append, List.nil_append]
      refine zv_zald hC dX9_opensAll_130 (a := 250) (n := 230) rfl (by decide) (by decide) (j := D 10 i) rfl (by omega) ((hs _ hl.1).trans (congrArg zb hn)) ?_
      refine zr_if_ne hC dX9_opensAll_131 (tgt := 139) (by decide) (fun c => absurd c (by decide +kernel)) (fun c_131 => ?_)
      refine zr_iload hC dX9_opensAll_134 rfl ?_
      refine zr_if_eq hC dX9_opensAll_136 (tgt := 143) (by decide) (fun c_136 => ?_) (fun c => absurd c (by decide +kernel))
      refine zk_iconst hC dX9_opensAll_143 (v := nI 0) (by decide +kernel) ?_
      refine zs_zast hC dX9_opensAll_144 (a := 250) (n := 230) rfl (by decide) (by decide) (j := D 10 i) rfl (by omega) (by first | exact Or.inl rfl | exact Or.inr rfl) ?_
      refine zr_iload_n hC dX9_opensAll_145 rfl ?_
      refine zr_if_ne hC dX9_opensAll_146 (tgt := 154) (by decide) (fun c => absurd c (by decide +kernel)) (fun c_146 => ?_)
      refine zr_iload hC dX9_opensAll_149 rfl ?_
      refine zr_if_eq hC dX9_opensAll_151 (tgt := 158) (by decide) (fun c_151 => ?_) (fun c => absurd c (by decide +kernel))
      refine zk_iconst hC dX9_opensAll_158 (v := nI 0) (by decide +kernel) ?_
      refine zr_istore_n hC dX9_opensAll_159 (by decide) ?_
      refine zn_iinc hC dX9_opensAll_160 rfl (by decide) (zk_inc _ 1) ?_
      refine zr_goto hC dX9_opensAll_163 (tgt := 64) (by decide) ?_
      have e2 : nI 0 = zb (opf D f (i + 1)).2 := by
        show _ = zb ((opf D f i).2 || ((opf D f i).1 (D 11 i) && !(opf D f i).1 (D 10 i)))
        rw [hm, hu, hn]; decide
      exact zR_sub [(0, .ref 245), (2, .int (zb (opf D f (i + 1)).2)), (3, .int (nI r)), (4, .int (nI (i + 1)))] ⟨rfl, congrArg (fun x => some (Value.int x)) e2, rfl, rfl, trivial⟩ (ih (i + 1) _ (by omega) (hf.put (by decide) (by decide)) (op_put hs (by rw [hu, hn]; decide)))
    · rw [hm]
      refine zr_aload_n hC dX9_opensAll_75 rfl ?_
      refine zs_getr hC dX9_opensAll_76 fl_X9_23 (a := 245) (r := 250) rfl (by decide) ?_
      refine zr_aload_n hC dX9_opensAll_79 rfl ?_
      refine zr_iload hC dX9_opensAll_80 rfl ?_
      refine zs_callV hC (b := 245) [_] [_] dX9_opensAll_82 ml_X9_114 mtX9_underOf tX9_underOf (by decide) (by decide) (by decide) rfl rfl (by decide) (by decide +kernel) (Nat.le_of_ble_eq_true rfl) rfl ?_
      refine ⟨i, D, rfl, by omega, hM1, ?_⟩
      dsimp only [Option.toList, List.cons_append, List.nil_append]
      refine zv_zald hC dX9_opensAll_85 (a := 250) (n := 230) rfl (by decide) (by decide) (j := D 11 i) rfl (by omega) ((hs _ hl.2).trans (congrArg zb hu)) ?_
      refine zr_if_eq hC dX9_opensAll_86 (tgt := 107) (by decide) (fun c_86 => ?_) (fun c => absurd c (by decide +kernel))
      refine zk_iconst hC dX9_opensAll_107 (v := nI 0) (by decide +kernel) ?_
      refine zr_istore hC dX9_opensAll_108 (by decide) ?_
      refine zr_aload_n hC dX9_opensAll_110 rfl ?_
      refine zs_getr hC dX9_opensAll_111 fl_X9_23 (a := 245) (r := 250) rfl (by decide) ?_
      refine zr_aload_n hC dX9_opensAll_114 rfl ?_
      refine zr_iload hC dX9_opensAll_115 rfl ?_
      refine zs_callV hC (b := 245) [_] [_] dX9_opensAll_117 ml_X9_120 mtX9_inOf tX9_inOf (by decide) (by decide) (by decide) rfl rfl (by decide) (by decide +kernel) (Nat.le_of_ble_eq_true rfl) rfl ?_
      refine ⟨i, D, rfl, by omega, hM1, ?_⟩
      dsimp only [Option.toList, List.cons_append, List.nil_append]
      refine zr_aload_n hC dX9_opensAll_120 rfl ?_
      refine zs_getr hC dX9_opensAll_121 fl_X9_23 (a := 245) (r := 250) rfl (by decide) ?_
      refine zr_aload_n hC dX9_opensAll_124 rfl ?_
      refine zr_iload hC dX9_opensAll_125 rfl ?_
      refine zs_callV hC (b := 245) [_] [_, _, _] dX9_opensAll_127 ml_X9_120 mtX9_inOf tX9_inOf (by decide) (by decide) (by decide) rfl rfl (by decide) (by decide +kernel) (Nat.le_of_ble_eq_true rfl) rfl ?_
      refine ⟨i, D, rfl, by omega, hM1, ?_⟩
      dsimp only [Option.toList, List.cons_append, List.nil_append]
      refine zv_zald hC dX9_opensAll_130 (a := 250) (n := 230) rfl (by decide) (by decide) (j := D 10 i) rfl (by omega) ((hs _ hl.1).trans (congrArg zb hn)) ?_
      refine zr_if_ne hC dX9_opensAll_131 (tgt := 139) (by decide) (fun c => absurd c (by decide +kernel)) (fun c_131 => ?_)
      refine zr_iload hC dX9_opensAll_134 rfl ?_
      refine zr_if_eq hC dX9_opensAll_136 (tgt := 143) (by decide) (fun c_136 => ?_) (fun c => absurd c (by decide +kernel))
      refine zk_iconst hC dX9_opensAll_143 (v := nI 0) (by decide +kernel) ?_
      refine zs_zast hC dX9_opensAll_144 (a := 250) (n := 230) rfl (by decide) (by decide) (j := D 10 i) rfl (by omega) (by first | exact Or.inl rfl | exact Or.inr rfl) ?_
      refine zr_iload_n hC dX9_opensAll_145 rfl ?_
      refine zr_if_ne hC dX9_opensAll_146 (tgt := 154) (by decide) (fun c_146 => ?_) (fun c => absurd c (by decide +kernel))
      refine zk_iconst hC dX9_opensAll_154 (v := nI 1) (by decide +kernel) ?_
      refine zr_goto hC dX9_opensAll_155 (tgt := 159) (by decide) ?_
      refine zr_istore_n hC dX9_opensAll_159 (by decide) ?_
      refine zn_iinc hC dX9_opensAll_160 rfl (by decide) (zk_inc _ 1) ?_
      refine zr_goto hC dX9_opensAll_163 (tgt := 64) (by decide) ?_
      have e2 : nI 1 = zb (opf D f (i + 1)).2 := by
        show _ = zb ((opf D f i).2 || ((opf D f i).1 (D 11 i) && !(opf D f i).1 (D 10 i)))
        rw [hm, hu, hn]; decide
      exact zR_sub [(0, .ref 245), (2, .int (zb (opf D f (i + 1)).2)), (3, .int (nI r)), (4, .int (nI (i + 1)))] ⟨rfl, congrArg (fun x => some (Value.int x)) e2, rfl, rfl, trivial⟩ (ih (i + 1) _ (by omega) (hf.put (by decide) (by decide)) (op_put hs (by rw [hu, hn]; decide)))
    · rw [hm]
      refine zr_aload_n hC dX9_opensAll_75 rfl ?_
      refine zs_getr hC dX9_opensAll_76 fl_X9_23 (a := 245) (r := 250) rfl (by decide) ?_
      refine zr_aload_n hC dX9_opensAll_79 rfl ?_
      refine zr_iload hC dX9_opensAll_80 rfl ?_
      refine zs_callV hC (b := 245) [_] [_] dX9_opensAll_82 ml_X9_114 mtX9_underOf tX9_underOf (by decide) (by decide) (by decide) rfl rfl (by decide) (by decide +kernel) (Nat.le_of_ble_eq_true rfl) rfl ?_
      refine ⟨i, D, rfl, by omega, hM1, ?_⟩
      dsimp only [Option.toList, List.cons_append, List.nil_append]
      refine zv_zald hC dX9_opensAll_85 (a := 250) (n := 230) rfl (by decide) (by decide) (j := D 11 i) rfl (by omega) ((hs _ hl.2).trans (congrArg zb hu)) ?_
      refine zr_if_eq hC dX9_opensAll_86 (tgt := 107) (by decide) (fun c_86 => ?_) (fun c => absurd c (by decide +kernel))
      refine zk_iconst hC dX9_opensAll_107 (v := nI 0) (by decide +kernel) ?_
      refine zr_istore hC dX9_opensAll_108 (by decide) ?_
      refine zr_aload_n hC dX9_opensAll_110 rfl ?_
      refine zs_getr hC dX9_opensAll_111 fl_X9_23 (a := 245) (r := 250) rfl (by decide) ?_
      refine zr_aload_n hC dX9_opensAll_114 rfl ?_
      refine zr_iload hC dX9_opensAll_115 rfl ?_
      refine zs_callV hC (b := 245) [_] [_] dX9_opensAll_117 ml_X9_120 mtX9_inOf tX9_inOf (by decide) (by decide) (by decide) rfl rfl (by decide) (by decide +kernel) (Nat.le_of_ble_eq_true rfl) rfl ?_
      refine ⟨i, D, rfl, by omega, hM1, ?_⟩
      dsimp only [Option.toList, List.cons_append, List.nil_append]
      refine zr_aload_n hC dX9_opensAll_120 rfl ?_
      refine zs_getr hC dX9_opensAll_121 fl_X9_23 (a := 245) (r := 250) rfl (by decide) ?_
      refine zr_aload_n hC dX9_opensAll_124 rfl ?_
      refine zr_iload hC dX9_opensAll_125 rfl ?_
      refine zs_callV hC (b := 245) [_] [_, _, _] dX9_opensAll_127 ml_X9_120 mtX9_inOf tX9_inOf (by decide) (by decide) (by decide) rfl rfl (by decide) (by decide +kernel) (Nat.le_of_ble_eq_true rfl) rfl ?_
      refine ⟨i, D, rfl, by omega, hM1, ?_⟩
      dsimp only [Option.toList, List.cons_append, List.nil_append]
      refine zv_zald hC dX9_opensAll_130 (a := 250) (n := 230) rfl (by decide) (by decide) (j := D 10 i) rfl (by omega) ((hs _ hl.1).trans (congrArg zb hn)) ?_
      refine zr_if_ne hC dX9_opensAll_131 (tgt := 139) (by decide) (fun c_131 => ?_) (fun c => absurd c (by decide +kernel))
      refine zk_iconst hC dX9_opensAll_139 (v := nI 1) (by decide +kernel) ?_
      refine zr_goto hC dX9_opensAll_140 (tgt := 144) (by decide) ?_
      refine zs_zast hC dX9_opensAll_144 (a := 250) (n := 230) rfl (by decide) (by decide) (j := D 10 i) rfl (by omega) (by first | exact Or.inl rfl | exact Or.inr rfl) ?_
      refine zr_iload_n hC dX9_opensAll_145 rfl ?_
      refine zr_if_ne hC dX9_opensAll_146 (tgt := 154) (by decide) (fun c => absurd c (by decide +kernel)) (fun c_146 => ?_)
      refine zr_iload hC dX9_opensAll_149 rfl ?_
      refine zr_if_eq hC dX9_opensAll_151 (tgt := 158) (by decide) (fun c_151 => ?_) (fun c => absurd c (by decide +kernel))
      refine zk_iconst hC dX9_opensAll_158 (v := nI 0) (by decide +kernel) ?_
      refine zr_istore_n hC dX9_opensAll_159 (by decide) ?_
      refine zn_iinc hC dX9_opensAll_160 rfl (by decide) (zk_inc _ 1) ?_
      refine zr_goto hC dX9_opensAll_163 (tgt := 64) (by decide) ?_
      have e2 : nI 0 = zb (opf D f (i + 1)).2 := by
        show _ = zb ((opf D f i).2 || ((opf D f i).1 (D 11 i) && !(opf D f i).1 (D 10 i)))
        rw [hm, hu, hn]; decide
      exact zR_sub [(0, .ref 245), (2, .int (zb (opf D f (i + 1)).2)), (3, .int (nI r)), (4, .int (nI (i + 1)))] ⟨rfl, congrArg (fun x => some (Value.int x)) e2, rfl, rfl, trivial⟩ (ih (i + 1) _ (by omega) (hf.put (by decide) (by decide)) (op_put hs (by rw [hu, hn]; decide)))
    · rw [hm]
      refine zr_aload_n hC dX9_opensAll_75 rfl ?_
      refine zs_getr hC dX9_opensAll_76 fl_X9_23 (a := 245) (r := 250) rfl (by decide) ?_
      refine zr_aload_n hC dX9_opensAll_79 rfl ?_
      refine zr_iload hC dX9_opensAll_80 rfl ?_
      refine zs_callV hC (b := 245) [_] [_] dX9_opensAll_82 ml_X9_114 mtX9_underOf tX9_underOf (by decide) (by decide) (by decide) rfl rfl (by decide) (by decide +kernel) (Nat.le_of_ble_eq_true rfl) rfl ?_
      refine ⟨i, D, rfl, by omega, hM1, ?_⟩
      dsimp only [Option.toList, List.cons_append, List.nil_append]
      refine zv_zald hC dX9_opensAll_85 (a := 250) (n := 230) rfl (by decide) (by decide) (j := D 11 i) rfl (by omega) ((hs _ hl.2).trans (congrArg zb hu)) ?_
      refine zr_if_eq hC dX9_opensAll_86 (tgt := 107) (by decide) (fun c_86 => ?_) (fun c => absurd c (by decide +kernel))
      refine zk_iconst hC dX9_opensAll_107 (v := nI 0) (by decide +kernel) ?_
      refine zr_istore hC dX9_opensAll_108 (by decide) ?_
      refine zr_aload_n hC dX9_opensAll_110 rfl ?_
      refine zs_getr hC dX9_opensAll_111 fl_X9_23 (a := 245) (r := 250) rfl (by decide) ?_
      refine zr_aload_n hC dX9_opensAll_114 rfl ?_
      refine zr_iload hC dX9_opensAll_115 rfl ?_
      refine zs_callV hC (b := 245) [_] [_] dX9_opensAll_117 ml_X9_120 mtX9_inOf tX9_inOf (by decide) (by decide) (by decide) rfl rfl (by decide) (by decide +kernel) (Nat.le_of_ble_eq_true rfl) rfl ?_
      refine ⟨i, D, rfl, by omega, hM1, ?_⟩
      dsimp only [Option.toList, List.cons_append, List.nil_append]
      refine zr_aload_n hC dX9_opensAll_120 rfl ?_
      refine zs_getr hC dX9_opensAll_121 fl_X9_23 (a := 245) (r := 250) rfl (by decide) ?_
      refine zr_aload_n hC dX9_opensAll_124 rfl ?_
      refine zr_iload hC dX9_opensAll_125 rfl ?_
      refine zs_callV hC (b := 245) [_] [_, _, _] dX9_opensAll_127 ml_X9_120 mtX9_inOf tX9_inOf (by decide) (by decide) (by decide) rfl rfl (by decide) (by decide +kernel) (Nat.le_of_ble_eq_true rfl) rfl ?_
      refine ⟨i, D, rfl, by omega, hM1, ?_⟩
      dsimp only [Option.toList, List.cons_append, List.nil_append]
      refine zv_zald hC dX9_opensAll_130 (a := 250) (n := 230) rfl (by decide) (by decide) (j := D 10 i) rfl (by omega) ((hs _ hl.1).trans (congrArg zb hn)) ?_
      refine zr_if_ne hC dX9_opensAll_131 (tgt := 139) (by decide) (fun c_131 => ?_) (fun c => absurd c (by decide +kernel))
      refine zk_iconst hC dX9_opensAll_139 (v := nI 1) (by decide +kernel) ?_
      refine zr_goto hC dX9_opensAll_140 (tgt := 144) (by decide) ?_
      refine zs_zast hC dX9_opensAll_144 (a := 250) (n := 230) rfl (by decide) (by decide) (j := D 10 i) rfl (by omega) (by first | exact Or.inl rfl | exact Or.inr rfl) ?_
      refine zr_iload_n hC dX9_opensAll_145 rfl ?_
      refine zr_if_ne hC dX9_opensAll_146 (tgt := 154) (by decide) (fun c_146 => ?_) (fun c => absurd c (by decide +kernel))
      refine zk_iconst hC dX9_opensAll_154 (v := nI 1) (by decide +kernel) ?_
      refine zr_goto hC dX9_opensAll_155 (tgt := 159) (by decide) ?_
      refine zr_istore_n hC dX9_opensAll_159 (by decide) ?_
      refine zn_iinc hC dX9_opensAll_160 rfl (by decide) (zk_inc _ 1) ?_
      refine zr_goto hC dX9_opensAll_163 (tgt := 64) (by decide) ?_
      have e2 : nI 1 = zb (opf D f (i + 1)).2 := by
        show _ = zb ((opf D f i).2 || ((opf D f i).1 (D 11 i) && !(opf D f i).1 (D 10 i)))
        rw [hm, hu, hn]; decide
      exact zR_sub [(0, .ref 245), (2, .int (zb (opf D f (i + 1)).2)), (3, .int (nI r)), (4, .int (nI (i + 1)))] ⟨rfl, congrArg (fun x => some (Value.int x)) e2, rfl, rfl, trivial⟩ (ih (i + 1) _ (by omega) (hf.put (by decide) (by decide)) (op_put hs (by rw [hu, hn]; decide)))
    · rw [hm]
      refine zr_aload_n hC dX9_opensAll_75 rfl ?_
      refine zs_getr hC dX9_opensAll_76 fl_X9_23 (a := 245) (r := 250) rfl (by decide) ?_
      refine zr_aload_n hC dX9_opensAll_79 rfl ?_
      refine zr_iload hC dX9_opensAll_80 rfl ?_
      refine zs_callV hC (b := 245) [_] [_] dX9_opensAll_82 ml_X9_114 mtX9_underOf tX9_underOf (by decide) (by decide) (by decide) rfl rfl (by decide) (by decide +kernel) (Nat.le_of_ble_eq_true rfl) rfl ?_
      refine ⟨i, D, rfl, by omega, hM1, ?_⟩
      dsimp only [Option.toList, List.cons_append, List.nil_append]
      refine zv_zald hC dX9_opensAll_85 (a := 250) (n := 230) rfl (by decide) (by decide) (j := D 11 i) rfl (by omega) ((hs _ hl.2).trans (congrArg zb hu)) ?_
      refine zr_if_eq hC dX9_opensAll_86 (tgt := 107) (by decide) (fun c => absurd c (by decide +kernel)) (fun c_86 => ?_)
      refine zr_aload_n hC dX9_opensAll_89 rfl ?_
      refine zs_getr hC dX9_opensAll_90 fl_X9_23 (a := 245) (r := 250) rfl (by decide) ?_
      refine zr_aload_n hC dX9_opensAll_93 rfl ?_
      refine zr_iload hC dX9_opensAll_94 rfl ?_
      refine zs_callV hC (b := 245) [_] [_] dX9_opensAll_96 ml_X9_120 mtX9_inOf tX9_inOf (by decide) (by decide) (by decide) rfl rfl (by decide) (by decide +kernel) (Nat.le_of_ble_eq_true rfl) rfl ?_
      refine ⟨i, D, rfl, by omega, hM1, ?_⟩
      dsimp only [Option.toList, List.cons_append, List.nil_append]
      refine zv_zald hC dX9_opensAll_99 (a := 250) (n := 230) rfl (by decide) (by decide) (j := D 10 i) rfl (by omega) ((hs _ hl.1).trans (congrArg zb hn)) ?_
      refine zr_if_ne hC dX9_opensAll_100 (tgt := 107) (by decide) (fun c => absurd c (by decide +kernel)) (fun c_100 => ?_)
      refine zk_iconst hC dX9_opensAll_103 (v := nI 1) (by decide +kernel) ?_
      refine zr_goto hC dX9_opensAll_104 (tgt := 108) (by decide) ?_
      refine zr_istore hC dX9_opensAll_108 (by decide) ?_
      refine zr_aload_n hC dX9_opensAll_110 rfl ?_
      refine zs_getr hC dX9_opensAll_111 fl_X9_23 (a := 245) (r := 250) rfl (by decide) ?_
      refine zr_aload_n hC dX9_opensAll_114 rfl ?_
      refine zr_iload hC dX9_opensAll_115 rfl ?_
      refine zs_callV hC (b := 245) [_] [_] dX9_opensAll_117 ml_X9_120 mtX9_inOf tX9_inOf (by decide) (by decide) (by decide) rfl rfl (by decide) (by decide +kernel) (Nat.le_of_ble_eq_true rfl) rfl ?_
      refine ⟨i, D, rfl, by omega, hM1, ?_⟩
      dsimp only [Option.toList, List.cons_append, List.nil_append]
      refine zr_aload_n hC dX9_opensAll_120 rfl ?_
      refine zs_getr hC dX9_opensAll_121 fl_X9_23 (a := 245) (r := 250) rfl (by decide) ?_
      refine zr_aload_n hC dX9_opensAll_124 rfl ?_
      refine zr_iload hC dX9_opensAll_125 rfl ?_
      refine zs_callV hC (b := 245) [_] [_, _, _] dX9_opensAll_127 ml_X9_120 mtX9_inOf tX9_inOf (by decide) (by decide) (by decide) rfl rfl (by decide) (by decide +kernel) (Nat.le_of_ble_eq_true rfl) rfl ?_
      refine ⟨i, D, rfl, by omega, hM1, ?_⟩
      dsimp only [Option.toList, List.cons_append, List.nil_append]
      refine zv_zald hC dX9_opensAll_130 (a := 250) (n := 230) rfl (by decide) (by decide) (j := D 10 i) rfl (by omega) ((hs _ hl.1).trans (congrArg zb hn)) ?_
      refine zr_if_ne hC dX9_opensAll_131 (tgt := 139) (by decide) (fun c => absurd c (by decide +kernel)) (fun c_131 => ?_)
      refine zr_iload hC dX9_opensAll_134 rfl ?_
      refine zr_if_eq hC dX9_opensAll_136 (tgt := 143) (by decide) (fun c => absurd c (by decide +kernel)) (fun c_136 => ?_)
      refine zk_iconst hC dX9_opensAll_139 (v := nI 1) (by decide +kernel) ?_
      refine zr_goto hC dX9_opensAll_140 (tgt := 144) (by decide) ?_
      refine zs_zast hC dX9_opensAll_144 (a := 250) (n := 230) rfl (by decide) (by decide) (j := D 10 i) rfl (by omega) (by first | exact Or.inl rfl | exact Or.inr rfl) ?_
      refine zr_iload_n hC dX9_opensAll_145 rfl ?_
      refine zr_if_ne hC dX9_opensAll_146 (tgt := 154) (by decide) (fun c => absurd c (by decide +kernel)) (fun c_146 => ?_)
      refine zr_iload hC dX9_opensAll_149 rfl ?_
      refine zr_if_eq hC dX9_opensAll_151 (tgt := 158) (by decide) (fun c => absurd c (by decide +kernel)) (fun c_151 => ?_)
      refine zk_iconst hC dX9_opensAll_154 (v := nI 1) (by decide +kernel) ?_
      refine zr_goto hC dX9_opensAll_155 (tgt := 159) (by decide) ?_
      refine zr_istore_n hC dX9_opensAll_159 (by decide) ?_
      refine zn_iinc hC dX9_opensAll_160 rfl (by decide) (zk_inc _ 1) ?_
      refine zr_goto hC dX9_opensAll_163 (tgt := 64) (by decide) ?_
      have e2 : nI 1 = zb (opf D f (i + 1)).2 := by
        show _ = zb ((opf D f i).2 || ((opf D f i).1 (D 11 i) && !(opf D f i).1 (D 10 i)))
        rw [hm, hu, hn]; decide
      exact zR_sub [(0, .ref 245), (2, .int (zb (opf D f (i + 1)).2)), (3, .int (nI r)), (4, .int (nI (i + 1)))] ⟨rfl, congrArg (fun x => some (Value.int x)) e2, rfl, rfl, trivial⟩ (ih (i + 1) _ (by omega) (hf.put (by decide) (by decide)) (op_put hs (by rw [hu, hn]; decide)))
    · rw [hm]
      refine zr_aload_n hC dX9_opensAll_75 rfl ?_
      refine zs_getr hC dX9_opensAll_76 fl_X9_23 (a := 245) (r := 250) rfl (by decide) ?_
      refine zr_aload_n hC dX9_opensAll_79 rfl ?_
      refine zr_iload hC dX9_opensAll_80 rfl ?_
      refine zs_callV hC (b := 245) [_] [_] dX9_opensAll_82 ml_X9_114 mtX9_underOf tX9_underOf (by decide) (by decide) (by decide) rfl rfl (by decide) (by decide +kernel) (Nat.le_of_ble_eq_true rfl) rfl ?_
      refine ⟨i, D, rfl, by omega, hM1, ?_⟩
      dsimp only [Option.toList, List.cons_append, List.nil_append]
      refine zv_zald hC dX9_opensAll_85 (a := 250) (n := 230) rfl (by decide) (by decide) (j := D 11 i) rfl (by omega) ((hs _ hl.2).trans (congrArg zb hu)) ?_
      refine zr_if_eq hC dX9_opensAll_86 (tgt := 107) (by decide) (fun c => absurd c (by decide +kernel)) (fun c_86 => ?_)
      refine zr_aload_n hC dX9_opensAll_89 rfl ?_
      refine zs_getr hC dX9_opensAll_90 fl_X9_23 (a := 245) (r := 250) rfl (by decide) ?_
      refine zr_aload_n hC dX9_opensAll_93 rfl ?_
      refine zr_iload hC dX9_opensAll_94 rfl ?_
      refine zs_callV hC (b := 245) [_] [_] dX9_opensAll_96 ml_X9_120 mtX9_inOf tX9_inOf (by decide) (by decide) (by decide) rfl rfl (by decide) (by decide +kernel) (Nat.le_of_ble_eq_true rfl) rfl ?_
      refine ⟨i, D, rfl, by omega, hM1, ?_⟩
      dsimp only [Option.toList, List.cons_append, List.nil_append]
      refine zv_zald hC dX9_opensAll_99 (a := 250) (n := 230) rfl (by decide) (by decide) (j := D 10 i) rfl (by omega) ((hs _ hl.1).trans (congrArg zb hn)) ?_
      refine zr_if_ne hC dX9_opensAll_100 (tgt := 107) (by decide) (fun c => absurd c (by decide +kernel)) (fun c_100 => ?_)
      refine zk_iconst hC dX9_opensAll_103 (v := nI 1) (by decide +kernel) ?_
      refine zr_goto hC dX9_opensAll_104 (tgt := 108) (by decide) ?_
      refine zr_istore hC dX9_opensAll_108 (by decide) ?_
      refine zr_aload_n hC dX9_opensAll_110 rfl ?_
      refine zs_getr hC dX9_opensAll_111 fl_X9_23 (a := 245) (r := 250) rfl (by decide) ?_
      refine zr_aload_n hC dX9_opensAll_114 rfl ?_
      refine zr_iload hC dX9_opensAll_115 rfl ?_
      refine zs_callV hC (b := 245) [_] [_] dX9_opensAll_117 ml_X9_120 mtX9_inOf tX9_inOf (by decide) (by decide) (by decide) rfl rfl (by decide) (by decide +kernel) (Nat.le_of_ble_eq_true rfl) rfl ?_
      refine ⟨i, D, rfl, by omega, hM1, ?_⟩
      dsimp only [Option.toList, List.cons_append, List.nil_append]
      refine zr_aload_n hC dX9_opensAll_120 rfl ?_
      refine zs_getr hC dX9_opensAll_121 fl_X9_23 (a := 245) (r := 250) rfl (by decide) ?_
      refine zr_aload_n hC dX9_opensAll_124 rfl ?_
      refine zr_iload hC dX9_opensAll_125 rfl ?_
      refine zs_callV hC (b := 245) [_] [_, _, _] dX9_opensAll_127 ml_X9_120 mtX9_inOf tX9_inOf (by decide) (by decide) (by decide) rfl rfl (by decide) (by decide +kernel) (Nat.le_of_ble_eq_true rfl) rfl ?_
      refine ⟨i, D, rfl, by omega, hM1, ?_⟩
      dsimp only [Option.toList, List.cons_append, List.nil_append]
      refine zv_zald hC dX9_opensAll_130 (a := 250) (n := 230) rfl (by decide) (by decide) (j := D 10 i) rfl (by omega) ((hs _ hl.1).trans (congrArg zb hn)) ?_
      refine zr_if_ne hC dX9_opensAll_131 (tgt := 139) (by decide) (fun c => absurd c (by decide +kernel)) (fun c_131 => ?_)
      refine zr_iload hC dX9_opensAll_134 rfl ?_
      refine zr_if_eq hC dX9_opensAll_136 (tgt := 143) (by decide) (fun c => absurd c (by decide +kernel)) (fun c_136 => ?_)
      refine zk_iconst hC dX9_opensAll_139 (v := nI 1) (by decide +kernel) ?_
      refine zr_goto hC dX9_opensAll_140 (tgt := 144) (by decide) ?_
      refine zs_zast hC dX9_opensAll_144 (a := 250) (n := 230) rfl (by decide) (by decide) (j := D 10 i) rfl (by omega) (by first | exact Or.inl rfl | exact Or.inr rfl) ?_
      refine zr_iload_n hC dX9_opensAll_145 rfl ?_
      refine zr_if_ne hC dX9_opensAll_146 (tgt := 154) (by decide) (fun c_146 => ?_) (fun c => absurd c (by decide +kernel))
      refine zk_iconst hC dX9_opensAll_154 (v := nI 1) (by decide +kernel) ?_
      refine zr_goto hC dX9_opensAll_155 (tgt := 159) (by decide) ?_
      refine zr_istore_n hC dX9_opensAll_159 (by decide) ?_
      refine zn_iinc hC dX9_opensAll_160 rfl (by decide) (zk_inc _ 1) ?_
      refine zr_goto hC dX9_opensAll_163 (tgt := 64) (by decide) ?_
      have e2 : nI 1 = zb (opf D f (i + 1)).2 := by
        show _ = zb ((opf D f i).2 || ((opf D f i).1 (D 11 i) && !(opf D f i).1 (D 10 i)))
        rw [hm, hu, hn]; decide
      exact zR_sub [(0, .ref 245), (2, .int (zb (opf D f (i + 1)).2)), (3, .int (nI r)), (4, .int (nI (i + 1)))] ⟨rfl, congrArg (fun x => some (Value.int x)) e2, rfl, rfl, trivial⟩ (ih (i + 1) _ (by omega) (hf.put (by decide) (by decide)) (op_put hs (by rw [hu, hn]; decide)))
    · rw [hm]
      refine zr_aload_n hC dX9_opensAll_75 rfl ?_
      refine zs_getr hC dX9_opensAll_76 fl_X9_23 (a := 245) (r := 250) rfl (by decide) ?_
      refine zr_aload_n hC dX9_opensAll_79 rfl ?_
      refine zr_iload hC dX9_opensAll_80 rfl ?_
      refine zs_callV hC (b := 245) [_] [_] dX9_opensAll_82 ml_X9_114 mtX9_underOf tX9_underOf (by decide) (by decide) (by decide) rfl rfl (by decide) (by decide +kernel) (Nat.le_of_ble_eq_true rfl) rfl ?_
      refine ⟨i, D, rfl, by omega, hM1, ?_⟩
      dsimp only [Option.toList, List.cons_append, List.nil_append]
      refine zv_zald hC dX9_opensAll_85 (a := 250) (n := 230) rfl (by decide) (by decide) (j := D 11 i) rfl (by omega) ((hs _ hl.2).trans (congrArg zb hu)) ?_
      refine zr_if_eq hC dX9_opensAll_86 (tgt := 107) (by decide) (fun c => absurd c (by decide +kernel)) (fun c_86 => ?_)
      refine zr_aload_n hC dX9_opensAll_89 rfl ?_
      refine zs_getr hC dX9_opensAll_90 fl_X9_23 (a := 245) (r := 250) rfl (by decide) ?_
      refine zr_aload_n hC dX9_opensAll_93 rfl ?_
      refine zr_iload hC dX9_opensAll_94 rfl ?_
      refine zs_callV hC (b := 245) [_] [_] dX9_opensAll_96 ml_X9_120 mtX9_inOf tX9_inOf (by decide) (by decide) (by decide) rfl rfl (by decide) (by decide +kernel) (Nat.le_of_ble_eq_true rfl) rfl ?_
      refine ⟨i, D, rfl, by omega, hM1, ?_⟩
      dsimp only [Option.toList, List.cons_append, List.nil_append]
      refine zv_zald hC dX9_opensAll_99 (a := 250) (n := 230) rfl (by decide) (by decide) (j := D 10 i) rfl (by omega) ((hs _ hl.1).trans (congrArg zb hn)) ?_
      refine zr_if_ne hC dX9_opensAll_100 (tgt := 107) (by decide) (fun c_100 => ?_) (fun c => absurd c (by decide +kernel))
      refine zk_iconst hC dX9_opensAll_107 (v := nI 0) (by decide +kernel) ?_
      refine zr_istore hC dX9_opensAll_108 (by decide) ?_
      refine zr_aload_n hC dX9_opensAll_110 rfl ?_
      refine zs_getr hC dX9_opensAll_111 fl_X9_23 (a := 245) (r := 250) rfl (by decide) ?_
      refine zr_aload_n hC dX9_opensAll_114 rfl ?_
      refine zr_iload hC dX9_opensAll_115 rfl ?_
      refine zs_callV hC (b := 245) [_] [_] dX9_opensAll_117 ml_X9_120 mtX9_inOf tX9_inOf (by decide) (by decide) (by decide) rfl rfl (by decide) (by decide +kernel) (Nat.le_of_ble_eq_true rfl) rfl ?_
      refine ⟨i, D, rfl, by omega, hM1, ?_⟩
      dsimp only [Option.toList, List.cons_append, List.nil_append]
      refine zr_aload_n hC dX9_opensAll_120 rfl ?_
      refine zs_getr hC dX9_opensAll_121 fl_X9_23 (a := 245) (r := 250) rfl (by decide) ?_
      refine zr_aload_n hC dX9_opensAll_124 rfl ?_
      refine zr_iload hC dX9_opensAll_125 rfl ?_
      refine zs_callV hC (b := 245) [_] [_, _, _] dX9_opensAll_127 ml_X9_120 mtX9_inOf tX9_inOf (by decide) (by decide) (by decide) rfl rfl (by decide) (by decide +kernel) (Nat.le_of_ble_eq_true rfl) rfl ?_
      refine ⟨i, D, rfl, by omega, hM1, ?_⟩
      dsimp only [Option.toList, List.cons_append, List.nil_append]
      refine zv_zald hC dX9_opensAll_130 (a := 250) (n := 230) rfl (by decide) (by decide) (j := D 10 i) rfl (by omega) ((hs _ hl.1).trans (congrArg zb hn)) ?_
      refine zr_if_ne hC dX9_opensAll_131 (tgt := 139) (by decide) (fun c_131 => ?_) (fun c => absurd c (by decide +kernel))
      refine zk_iconst hC dX9_opensAll_139 (v := nI 1) (by decide +kernel) ?_
      refine zr_goto hC dX9_opensAll_140 (tgt := 144) (by decide) ?_
      refine zs_zast hC dX9_opensAll_144 (a := 250) (n := 230) rfl (by decide) (by decide) (j := D 10 i) rfl (by omega) (by first | exact Or.inl rfl | exact Or.inr rfl) ?_
      refine zr_iload_n hC dX9_opensAll_145 rfl ?_
      refine zr_if_ne hC dX9_opensAll_146 (tgt := 154) (by decide) (fun c => absurd c (by decide +kernel)) (fun c_146 => ?_)
      refine zr_iload hC dX9_opensAll_149 rfl ?_
      refine zr_if_eq hC dX9_opensAll_151 (tgt := 158) (by decide) (fun c_151 => ?_) (fun c => absurd c (by decide +kernel))
      refine zk_iconst hC dX9_opensAll_158 (v := nI 0) (by decide +kernel) ?_
      refine zr_istore_n hC dX9_opensAll_159 (by decide) ?_
      refine zn_iinc hC dX9_opensAll_160 rfl (by decide) (zk_inc _ 1) ?_
      refine zr_goto hC dX9_opensAll_163 (tgt := 64) (by decide) ?_
      have e2 : nI 0 = zb (opf D f (i + 1)).2 := by
        show _ = zb ((opf D f i).2 || ((opf D f i).1 (D 11 i) && !(opf D f i).1 (D 10 i)))
        rw [hm, hu, hn]; decide
      exact zR_sub [(0, .ref 245), (2, .int (zb (opf D f (i + 1)).2)), (3, .int (nI r)), (4, .int (nI (i + 1)))] ⟨rfl, congrArg (fun x => some (Value.int x)) e2, rfl, rfl, trivial⟩ (ih (i + 1) _ (by omega) (hf.put (by decide) (by decide)) (op_put hs (by rw [hu, hn]; decide)))
    · rw [hm]
      refine zr_aload_n hC dX9_opensAll_75 rfl ?_
      refine zs_getr hC dX9_opensAll_76 fl_X9_23 (a := 245) (r := 250) rfl (by decide) ?_
      refine zr_aload_n hC dX9_opensAll_79 rfl ?_
      refine zr_iload hC dX9_opensAll_80 rfl ?_
      refine zs_callV hC (b := 245) [_] [_] dX9_opensAll_82 ml_X9_114 mtX9_underOf tX9_underOf (by decide) (by decide) (by decide) rfl rfl (by decide) (by decide +kernel) (Nat.le_of_ble_eq_true rfl) rfl ?_
      refine ⟨i, D, rfl, by omega, hM1, ?_⟩
      dsimp only [Option.toList, List.cons_append, List.nil_append]
      refine zv_zald hC dX9_opensAll_85 (a := 250) (n := 230) rfl (by decide) (by decide) (j := D 11 i) rfl (by omega) ((hs _ hl.2).trans (congrArg zb hu)) ?_
      refine zr_if_eq hC dX9_opensAll_86 (tgt := 107) (by decide) (fun c => absurd c (by decide +kernel)) (fun c_86 => ?_)
      refine zr_aload_n hC dX9_opensAll_89 rfl ?_
      refine zs_getr hC dX9_opensAll_90 fl_X9_23 (a := 245) (r := 250) rfl (by decide) ?_
      refine zr_aload_n hC dX9_opensAll_93 rfl ?_
      refine zr_iload hC dX9_opensAll_94 rfl ?_
      refine zs_callV hC (b := 245) [_] [_] dX9_opensAll_96 ml_X9_120 mtX9_inOf tX9_inOf (by decide) (by decide) (by decide) rfl rfl (by decide) (by decide +kernel) (Nat.le_of_ble_eq_true rfl) rfl ?_
      refine ⟨i, D, rfl, by omega, hM1, ?_⟩
      dsimp only [Option.toList, List.cons_append, List.nil_append]
      refine zv_zald hC dX9_opensAll_99 (a := 250) (n := 230) rfl (by decide) (by decide) (j := D 10 i) rfl (by omega) ((hs _ hl.1).trans (congrArg zb hn)) ?_
      refine zr_if_ne hC dX9_opensAll_100 (tgt := 107) (by decide) (fun c_100 => ?_) (fun c => absurd c (by decide +kernel))
      refine zk_iconst hC dX9_opensAll_107 (v := nI 0) (by decide +kernel) ?_
      refine zr_istore hC dX9_opensAll_108 (by decide) ?_
      refine zr_aload_n hC dX9_opensAll_110 rfl ?_
      refine zs_getr hC dX9_opensAll_111 fl_X9_23 (a := 245) (r := 250) rfl (by decide) ?_
      refine zr_aload_n hC dX9_opensAll_114 rfl ?_
      refine zr_iload hC dX9_opensAll_115 rfl ?_
      refine zs_callV hC (b := 245) [_] [_] dX9_opensAll_117 ml_X9_120 mtX9_inOf tX9_inOf (by decide) (by decide) (by decide) rfl rfl (by decide) (by decide +kernel) (Nat.le_of_ble_eq_true rfl) rfl ?_
      refine ⟨i, D, rfl, by omega, hM1, ?_⟩
      dsimp only [Option.toList, List.cons_append, List.nil_append]
      refine zr_aload_n hC dX9_opensAll_120 rfl ?_
      refine zs_getr hC dX9_opensAll_121 fl_X9_23 (a := 245) (r := 250) rfl (by decide) ?_
      refine zr_aload_n hC dX9_opensAll_124 rfl ?_
      refine zr_iload hC dX9_opensAll_125 rfl ?_
      refine zs_callV hC (b := 245) [_] [_, _, _] dX9_opensAll_127 ml_X9_120 mtX9_inOf tX9_inOf (by decide) (by decide) (by decide) rfl rfl (by decide) (by decide +kernel) (Nat.le_of_ble_eq_true rfl) rfl ?_
      refine ⟨i, D, rfl, by omega, hM1, ?_⟩
      dsimp only [Option.toList, List.cons_append, List.nil_append]
      refine zv_zald hC dX9_opensAll_130 (a := 250) (n := 230) rfl (by decide) (by decide) (j := D 10 i) rfl (by omega) ((hs _ hl.1).trans (congrArg zb hn)) ?_
      refine zr_if_ne hC dX9_opensAll_131 (tgt := 139) (by decide) (fun c_131 => ?_) (fun c => absurd c (by decide +kernel))
      refine zk_iconst hC dX9_opensAll_139 (v := nI 1) (by decide +kernel) ?_
      refine zr_goto hC dX9_opensAll_140 (tgt := 144) (by decide) ?_
      refine zs_zast hC dX9_opensAll_144 (a := 250) (n := 230) rfl (by decide) (by decide) (j := D 10 i) rfl (by omega) (by first | exact Or.inl rfl | exact Or.inr rfl) ?_
      refine zr_iload_n hC dX9_opensAll_145 rfl ?_
      refine zr_if_ne hC dX9_opensAll_146 (tgt := 154) (by decide) (fun c_146 => ?_) (fun c => absurd c (by decide +kernel))
      refine zk_iconst hC dX9_opensAll_154 (v := nI 1) (by decide +kernel) ?_
      refine zr_goto hC dX9_opensAll_155 (tgt := 159) (by decide) ?_
      refine zr_istore_n hC dX9_opensAll_159 (by decide) ?_
      refine zn_iinc hC dX9_opensAll_160 rfl (by decide) (zk_inc _ 1) ?_
      refine zr_goto hC dX9_opensAll_163 (tgt := 64) (by decide) ?_
      have e2 : nI 1 = zb (opf D f (i + 1)).2 := by
        show _ = zb ((opf D f i).2 || ((opf D f i).1 (D 11 i) && !(opf D f i).1 (D 10 i)))
        rw [hm, hu, hn]; decide
      exact zR_sub [(0, .ref 245), (2, .int (zb (opf D f (i + 1)).2)), (3, .int (nI r)), (4, .int (nI (i + 1)))] ⟨rfl, congrArg (fun x => some (Value.int x)) e2, rfl, rfl, trivial⟩ (ih (i + 1) _ (by omega) (hf.put (by decide) (by decide)) (op_put hs (by rw [hu, hn]; decide)))
set_option maxHeartbeats 4000000 in
set_option maxRecDepth 100000 in
theorem l9_open2 {C : zCx} {τ : Nat → ClassId} {ι : Nat → Nat} (hC : zOK C τ (zrm 1 0 0) yX9_opensAll.cls cX9_opensAll 6) {S0 : zS} {D : zD} (hM : MW (S0.1 246) D) {f : Nat → Bool} (hL : ∀ i, i < D 6 1 → D 10 i < D 6 0 ∧ D 11 i < D 6 0) (k : ∀ S lv, zfrm 250 251 S0 S → (∀ j, j < D 6 0 → S.1 250 j = zb ((opr D f 230).1 j)) → zR C τ ι 6 0 0 172 lv [] (zcells S)) : ∀ (d i : Nat) (S : zS), i + d = 230 → zfrm 250 251 S0 S → (∀ j, j < D 6 0 → S.1 250 j = zb ((opr D f i).1 j)) → zR C τ ι 6 0 0 48 [(0, .ref 245), (2, .int (zb (opr D f i).2)), (3, .int (nI i))] [] (zcells S) := by
  intro d
  induction d with
  | zero =>
    intro i S hi hf hs
    refine zr_iload_n hC dX9_opensAll_48 rfl ?_
    refine zk_sipush hC dX9_opensAll_49 (v := nI 230) (by decide +kernel) ?_
    refine zr_icmp_ge hC dX9_opensAll_52 (tgt := 172) (by decide) (fun c_52 => ?_) (fun c => absurd c (not_not_intro (nI_le (by omega) (by omega))))
    obtain rfl : i = 230 := (by omega)
    exact k S _ hf hs
  | succ d ih =>
    intro i S hi hf hs
    cases hm : (opr D f i).2
    · refine zr_iload_n hC dX9_opensAll_48 rfl ?_
      refine zk_sipush hC dX9_opensAll_49 (v := nI 230) (by decide +kernel) ?_
      refine zr_icmp_ge hC dX9_opensAll_52 (tgt := 172) (by decide) (fun c => absurd c (nI_ge (by omega) (by omega))) (fun c_52 => ?_)
      refine zr_iload_n hC dX9_opensAll_55 rfl ?_
      refine zr_if_eq hC dX9_opensAll_56 (tgt := 172) (by decide) (fun c_56 => ?_) (fun c => absurd c (by decide +kernel))
      refine k S _ hf (fun j hj => ?_)
      rw [show 230 = i + (d + 1) by omega, opr_stop hm (d + 1)]
      exact hs j hj
    · refine zr_iload_n hC dX9_opensAll_48 rfl ?_
      refine zk_sipush hC dX9_opensAll_49 (v := nI 230) (by decide +kernel) ?_
      refine zr_icmp_ge hC dX9_opensAll_52 (tgt := 172) (by decide) (fun c => absurd c (nI_ge (by omega) (by omega))) (fun c_52 => ?_)
      refine zr_iload_n hC dX9_opensAll_55 rfl ?_
      refine zr_if_eq hC dX9_opensAll_56 (tgt := 172) (by decide) (fun c => absurd c (by decide +kernel)) (fun c_56 => ?_)
      refine zk_iconst hC dX9_opensAll_59 (v := nI 0) (by decide +kernel) ?_
      refine zr_istore_n hC dX9_opensAll_60 (by decide) ?_
      refine zk_iconst hC dX9_opensAll_61 (v := nI 0) (by decide +kernel) ?_
      refine zr_istore hC dX9_opensAll_62 (by decide) ?_
      refine zR_sub [(0, .ref 245), (2, .int (zb (opf D (opr D f i).1 0).2)), (3, .int (nI i)), (4, .int (nI 0))] ⟨rfl, rfl, rfl, rfl, trivial⟩ (l9_open3 hC hM hL (fun S1 lv h1 h2 g0 g2 g3 => ?_) (D 6 1) 0 S (by omega) hf hs)
      have e1 : opr D f (i + 1) = opf D (opr D f i).1 (D 6 1) := if_pos hm
      refine zR_sub [(0, .ref 245), (2, .int (zb (opr D f (i + 1)).2)), (3, .int (nI i))] ⟨g0, by rw [e1]; exact g2, g3, trivial⟩ ?_
      refine zn_iinc hC dX9_opensAll_166 rfl (by decide) (zk_inc _ 1) ?_
      refine zr_goto hC dX9_opensAll_169 (tgt := 48) (by decide) ?_
      exact zR_sub [(0, .ref 245), (2, .int (zb (opr D f (i + 1)).2)), (3, .int (nI (i + 1)))] ⟨rfl, rfl, rfl, trivial⟩ (ih (i + 1) S1 (by omega) h1 (by rw [e1]; exact h2))
def spX9_opensAll : zSp := fun av S Q => ∃ (s : Nat) (D : zD), av = [.ref 245, .int (nI s)] ∧ s < 65536 ∧ MW (S.1 246) D ∧ (∀ i, i < D 6 1 → D 10 i < D 6 0 ∧ D 11 i < D 6 0) ∧ ∀ S', (∀ j, j < D 6 0 → S'.1 250 j = zb ((opr D (f0 D s) 230).1 j)) → zfrm 250 251 S S' → Q none S'
set_option maxHeartbeats 4000000 in
set_option maxRecDepth 100000 in
theorem tX9_opensAll : zM yX9_opensAll cX9_opensAll 6 none 1 spX9_opensAll := by
  refine zM.of (by decide) (by decide) (fun av S Q h => by obtain ⟨s, D, rfl, hsl, hM, hL, hQ⟩ := h; exact Nat.le_of_ble_eq_true rfl) (fun C τ ι av S Q Qr h hr hC hE => ?_)
  obtain ⟨s, D, rfl, hsl, hM, hL, hQ⟩ := h
  show zR C τ ι _ 0 0 0 [(0, .ref 245), (1, .int (nI s))] [] _
  refine zk_iconst hC dX9_opensAll_0 (v := nI 0) (by decide +kernel) ?_
  refine zr_istore_n hC dX9_opensAll_1 (by decide) ?_
  refine zR_sub [(0, .ref 245), (1, .int (nI s)), (2, .int (nI 0))] ⟨rfl, rfl, rfl, trivial⟩ (l9_open1 hC hM hsl (fun S1 lv h1 h2 g0 => ?_) (D 6 0) 0 S (by omega) zfrm.rf (fun j hj => absurd hj (Nat.not_lt_zero j)))
  refine zR_sub [(0, .ref 245)] ⟨g0, trivial⟩ ?_
  refine zk_iconst hC dX9_opensAll_44 (v := nI 1) (by decide +kernel) ?_
  refine zr_istore_n hC dX9_opensAll_45 (by decide) ?_
  refine zk_iconst hC dX9_opensAll_46 (v := nI 0) (by decide +kernel) ?_
  refine zr_istore_n hC dX9_opensAll_47 (by decide) ?_
  refine zR_sub [(0, .ref 245), (2, .int (zb (opr D (f0 D s) 0).2)), (3, .int (nI 0))] ⟨rfl, rfl, rfl, trivial⟩ (l9_open2 hC hM hL (fun S2 lv h3 h4 => ?_) 230 0 S1 rfl h1 h2)
  exact zr_vreturn hC hE dX9_opensAll_172 (hr _ _ (hQ _ h4 h3))
theorem MG.scr {S S' : zS} {G : zG} {lo hi : Nat} (h : MG S G) (hf : zfrm lo hi S S') (hx : (247 ≤ lo ∧ hi ≤ 251) ∨ 258 ≤ lo) : MG S' G := h.same (hf.1 _ (by omega)) (fun k _ => by rw [hf.1 245 (by omega)]) (fun a q1 q2 => hf.1 a (by omega)) (by rw [hf.2])
theorem z_65 {x : Int32} (h : nI 65535 < x) : nI 65536 ≤ x := by
  rw [Int32.lt_iff_toInt_lt, nI_toInt (by decide)] at h
  rw [Int32.le_iff_toInt_le, nI_toInt (by decide)]
  omega
def spX9_opens : zSp := fun av S Q => ∃ (G : zG) (s : Int32) (k : Int32), av = [.ref 245, .int s, .int k] ∧ MG S G ∧ GI G ∧ ∀ S', MG S' G → zfm S S' → Q (some (.int (fOpens s k G))) S'
set_option maxHeartbeats 4000000 in
set_option maxRecDepth 100000 in
theorem tX9_opens : zM yX9_opens cX9_opens 3 (some .int) 2 spX9_opens := by
  refine zM.of (by decide) (by decide) (fun av S Q h => by obtain ⟨G, s, k, rfl, hMG, hGI, hQ⟩ := h; exact Nat.le_of_ble_eq_true rfl) (fun C τ ι av S Q Qr h hr hC hE => ?_)
  obtain ⟨G, s, k, rfl, hMG, hGI, hQ⟩ := h
  show zR C τ ι _ 0 0 0 [(0, .ref 245), (1, .int s), (2, .int k)] [] _
  refine zr_iload_n hC dX9_opens_0 rfl ?_
  refine zr_i2l hC dX9_opens_1 ?_
  refine zr_lconst hC dX9_opens_2 ?_
  refine zr_ldc2 hC dX9_opens_3 kl_X9_190 ?_
  refine zs_callS hC [_, _, _] [] dX9_opens_6 ml_X9_60 mtX9_in tX9_in (by decide) (by decide) (by decide) rfl (Nat.le_of_ble_eq_true rfl) rfl ?_
  refine ⟨_, _, _, rfl, fun r e => ?_⟩
  obtain ⟨w1, w2⟩ := z_one (x := s) (lo := nI 0) (hi := nI 65535) rfl (show Int64.ofNat 0 = _ by decide +kernel) (show (65535 : Int64) = _ by decide +kernel)
  have e : (r = nI 1 ∧ ¬ s < nI 0 ∧ ¬ nI 65535 < s) ∨ (r = nI 0 ∧ (s < nI 0 ∨ nI 65535 < s)) := by
    rcases e with ⟨e, e1, e2⟩ | ⟨e, e1⟩
    · exact Or.inl ⟨e, fun q => e1 (w1.mpr q), fun q => e2 (w2.mpr q)⟩
    · exact Or.inr ⟨e, e1.imp w1.mp w2.mp⟩
  rcases e with ⟨rfl, e1, e2⟩ | ⟨rfl, e1⟩
  · obtain ⟨t, -, b2, rfl⟩ := rg_in e1 e2 (by decide) (by decide)
    have ht : t < 65536 := by omega
    dsimp only [Option.toList, List.cons_append, List.nil_append]
    refine zr_if_eq hC dX9_opens_9 (tgt := 20) (by decide) (fun c => absurd c (by decide +kernel)) (fun c_9 => ?_)
    refine zr_aload_n hC dX9_opens_12 rfl ?_
    refine zr_iload_n hC dX9_opens_13 rfl ?_
    refine zs_callV hC (b := 245) [_] [] dX9_opens_14 ml_X9_177 mtX9_isKey tX9_isKey (by decide) (by decide) (by decide) rfl rfl (by decide) (by decide +kernel) (Nat.le_of_ble_eq_true rfl) rfl ?_
    refine ⟨k, G.1, rfl, hMG.1, fun r e => ?_⟩
    rcases e with ⟨rfl, k, hk, rfl⟩ | ⟨rfl, hx⟩
    · have h60 := hGI.1.made
      simp only [fOpens, mm_yes ht (show 65536 < 2147483648 by decide), mm_yes hk (show G.1 6 0 < 2147483648 by omega)] at hQ
      dsimp only [Option.toList, List.cons_append, List.nil_append]
      refine zr_if_ne hC dX9_opens_17 (tgt := 22) (by decide) (fun c_17 => ?_) (fun c => absurd c (by decide +kernel))
      refine zr_aload_n hC dX9_opens_22 rfl ?_
      refine zr_iload_n hC dX9_opens_23 rfl ?_
      refine zs_callV hC (b := 245) [_] [] dX9_opens_24 ml_X9_192 mtX9_opensAll tX9_opensAll (by decide) (by decide) (by decide) rfl rfl (by decide) (by decide +kernel) (Nat.le_of_ble_eq_true rfl) rfl ?_
      refine ⟨t, G.1, rfl, ht, hMG.1, fun i hi => ⟨(hGI.1.lets hi).1, (hGI.1.lets hi).2.1⟩, fun S1 hs1 hf1 => ?_⟩
      rw [opr_enough (fun i hi => (hGI.1.lets hi).1) h60 hk] at hQ
      dsimp only [Option.toList, List.nil_append]
      refine zr_aload_n hC dX9_opens_27 rfl ?_
      refine zs_getr hC dX9_opens_28 fl_X9_23 (a := 245) (r := 250) rfl (by decide) ?_
      refine zr_iload_n hC dX9_opens_31 rfl ?_
      refine zv_zald hC dX9_opens_32 (a := 250) (n := 230) rfl (by decide) (by decide) (j := k) rfl (by omega) (hs1 k hk) ?_
      refine zr_if_eq hC dX9_opens_33 (tgt := 40) (by decide) (fun c_33 => ?_) (fun c_33 => ?_)
      · rw [(zb_eq0 _).mp c_33] at hQ
        refine zk_iconst hC dX9_opens_40 (v := nI 0) (by decide +kernel) ?_
        exact zr_ireturn hC hE dX9_opens_41 (hr _ _ (by first | exact hQ _ (hMG.scr hf1 (by decide)) (hf1.m (by decide)) | exact hQ _ hMG zfm.rf))
      · rw [(zb_ne0 _).mp c_33] at hQ
        refine zk_iconst hC dX9_opens_36 (v := nI 1) (by decide +kernel) ?_
        refine zr_goto hC dX9_opens_37 (tgt := 41) (by decide) ?_
        exact zr_ireturn hC hE dX9_opens_41 (hr _ _ (by first | exact hQ _ (hMG.scr hf1 (by decide)) (hf1.m (by decide)) | exact hQ _ hMG zfm.rf))
    · simp only [fOpens, mm_yes ht (show 65536 < 2147483648 by decide), mm_no hx] at hQ
      dsimp only [Option.toList, List.cons_append, List.nil_append]
      refine zr_if_ne hC dX9_opens_17 (tgt := 22) (by decide) (fun c => absurd c (by decide +kernel)) (fun c_17 => ?_)
      refine zk_iconst hC dX9_opens_20 (v := (-1)) (by decide +kernel) ?_
      exact zr_ireturn hC hE dX9_opens_21 (hr _ _ (by first | exact hQ _ (hMG.scr hf1 (by decide)) (hf1.m (by decide)) | exact hQ _ hMG zfm.rf))
  · simp only [fOpens, mm_no (n := 65536) (e1.imp id z_65)] at hQ
    dsimp only [Option.toList, List.cons_append, List.nil_append]
    refine zr_if_eq hC dX9_opens_9 (tgt := 20) (by decide) (fun c_9 => ?_) (fun c => absurd c (by decide +kernel))
    refine zk_iconst hC dX9_opens_20 (v := (-1)) (by decide +kernel) ?_
    exact zr_ireturn hC hE dX9_opens_21 (hr _ _ (by first | exact hQ _ (hMG.scr hf1 (by decide)) (hf1.m (by decide)) | exact hQ _ hMG zfm.rf))
