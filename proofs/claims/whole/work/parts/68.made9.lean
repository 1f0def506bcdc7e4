/-! THE CONSTRUCTOR of KeyTreesModel -/
section ZJ
variable {C : zCx} {τ : Nat → ClassId} {ι : Nat → Nat} {own : String} {cc : ByteArray} {nL kc ks pc d mc ms : Nat} {lv : List (Nat × Value)} {st : List Value} {w : List va_E} {b : Nat} {e : va_E} {L : List va_E}
theorem zo_iast (hC : zOK C τ (zrm d mc ms) own cc nL) {j i n : Nat} {f : Nat → Int32} {x : Int32} (hdg : decode cc pc = .ok (.iastore, 1)) (hB : zNB w b e L) (hj : L[j]? = some (zaI n f)) (hi : i < n) (hn : n < 5000)
    (kk : zNB w b e (L.set j (zaI n (upd f i x))) → zR C τ ι nL kc ks (pc + 1) lv st (zN w b e (L.set j (zaI n (upd f i x))))) : zR C τ ι nL kc ks pc lv (.int x :: .int (nI i) :: .ref (w.length + j) :: st) (zN w b e L) := by
  refine zr_iast hC hdg (zN_new.trans hj) (vp_in_n hi (by omega)) ?_
  rw [nI_toNat (by omega), zN_setn]
  have h2 := hB.call (j := j) (y := zaI n (upd f i x)) (M := []) zeb_i (fun x hx => by cases hx)
  rw [List.append_nil] at h2
  exact kk h2
end ZJ
abbrev obX9_init (n : Nat) : va_E := .inr (9, [.ref n, .ref (n + 1), .ref (n + 2), .ref (n + 3), .ref (n + 4), .ref (n + 5), .int 0, .int 0, .int 0, .ref (n + 6), .int 0, .ref (n + 7), .ref (n + 8), .int (-1), .ref (n + 9), .ref (n + 10), .ref (n + 11), .ref (n + 12), .ref (n + 13)])
abbrev LxX9_init (n : Nat) : List va_E := [zaI 752 (upd (fun _ => 0) 3 (nI 1)), zai 16, zab 32, zab 32, zab 230, zai 90, zai 4512, zai 752, zai 4512, zaI 4 (upd (upd (upd (upd (fun _ => 0) 0 (-1)) 1 (-1)) 2 (-1)) 3 (-1)), zai 4, zal 96, zal 24, zab 230]
set_option maxHeartbeats 2000000 in
theorem tX9_init : zMetN yX9_init cX9_init 2 1 14 11286 (zIni 9 [.null, .null, .null, .null, .null, .null, .int 0, .int 0, .int 0, .null, .int 0, .null, .null, .int 0, .null, .null, .null, .null, .null] obX9_init LxX9_init) := by
  refine zMetN.of (by decide) (by decide +kernel) (by decide) (fun av w Qr h => by obtain ⟨b, rfl, -⟩ := h; exact Nat.le_of_ble_eq_true rfl) (fun C τ ι av w Qr h hC hE => ?_)
  obtain ⟨b, rfl, hb, hw, hQ⟩ := h
  have hB := zNB.start hb hw
  have hag : ∀ k, k < w.length → ι k = ι k := fun _ _ => rfl
  show zR C τ ι _ 0 0 0 [(0, .ref b)] [] w
  rw [← zN_0 hb]
  refine zr_aload_n hC dX9_init_0 rfl ?_
  refine zr_objI hC (by decide) dX9_init_1 ml_X9_1 oI_i oI_c ?_
  refine zr_aload_n hC dX9_init_4 rfl ?_
  refine zk_sipush hC dX9_init_5 (v := nI 752) (by decide +kernel) ?_
  refine zo_newa hC dX9_init_8 (t := 0) (N := 752) (a0 := (752, .inl (fun _ => 0))) (by decide) rfl aw_int (fun _ => rfl) (fun _ => rfl) (by decide) (by decide +kernel) (by decide) (by decide) (by decide) hB zeb_i hag (zl1 hB.1) (zs1 hB.1) (fun ι hag hB => ?_)
  refine zo_put hC hE dX9_init_10 fl_X9_7 fp_X9_0 (Or.inr ⟨_, rfl⟩) ⟨_, _, rfl⟩ (Nat.le_of_ble_eq_true rfl) (by simp) hB (fun hB => ?_)
  refine zr_aload_n hC dX9_init_13 rfl ?_
  refine zk_bipush hC dX9_init_14 (v := nI 16) (by decide +kernel) ?_
  refine zo_newa hC dX9_init_16 (t := 0) (N := 16) (a0 := (16, .inl (fun _ => 0))) (by decide) rfl aw_int (fun _ => rfl) (fun _ => rfl) (by decide) (by decide +kernel) (by decide) (by decide) (by decide) hB zeb_i hag (zl1 hB.1) (zs1 hB.1) (fun ι hag hB => ?_)
  refine zo_put hC hE dX9_init_18 fl_X9_13 fp_X9_1 (Or.inr ⟨_, rfl⟩) ⟨_, _, rfl⟩ (Nat.le_of_ble_eq_true rfl) (by simp) hB (fun hB => ?_)
  refine zr_aload_n hC dX9_init_21 rfl ?_
  refine zk_bipush hC dX9_init_22 (v := nI 32) (by decide +kernel) ?_
  refine zo_newa hC dX9_init_24 (t := 2) (N := 32) (a0 := (32, .inl (fun _ => 0))) (by decide) rfl aw_bool (fun _ => rfl) (fun _ => rfl) (by decide) (by decide +kernel) (by decide) (by decide) (by decide) hB zeb_i hag (zl1 hB.1) (zs1 hB.1) (fun ι hag hB => ?_)
  refine zo_put hC hE dX9_init_26 fl_X9_16 fp_X9_2 (Or.inr ⟨_, rfl⟩) ⟨_, _, rfl⟩ (Nat.le_of_ble_eq_true rfl) (by simp) hB (fun hB => ?_)
  refine zr_aload_n hC dX9_init_29 rfl ?_
  refine zk_bipush hC dX9_init_30 (v := nI 32) (by decide +kernel) ?_
  refine zo_newa hC dX9_init_32 (t := 2) (N := 32) (a0 := (32, .inl (fun _ => 0))) (by decide) rfl aw_bool (fun _ => rfl) (fun _ => rfl) (by decide) (by decide +kernel) (by decide) (by decide) (by decide) hB zeb_i hag (zl1 hB.1) (zs1 hB.1) (fun ι hag hB => ?_)
  refine zo_put hC hE dX9_init_34 fl_X9_20 fp_X9_3 (Or.inr ⟨_, rfl⟩) ⟨_, _, rfl⟩ (Nat.le_of_ble_eq_true rfl) (by simp) hB (fun hB => ?_)
  refine zr_aload_n hC dX9_init_37 rfl ?_
  refine zk_sipush hC dX9_init_38 (v := nI 230) (by decide +kernel) ?_
  refine zo_newa hC dX9_init_41 (t := 2) (N := 230) (a0 := (230, .inl (fun _ => 0))) (by decide) rfl aw_bool (fun _ => rfl) (fun _ => rfl) (by decide) (by decide +kernel) (by decide) (by decide) (by decide) hB zeb_i hag (zl1 hB.1) (zs1 hB.1) (fun ι hag hB => ?_)
  refine zo_put hC hE dX9_init_43 fl_X9_23 fp_X9_4 (Or.inr ⟨_, rfl⟩) ⟨_, _, rfl⟩ (Nat.le_of_ble_eq_true rfl) (by simp) hB (fun hB => ?_)
  refine zr_aload_n hC dX9_init_46 rfl ?_
  refine zk_bipush hC dX9_init_47 (v := nI 90) (by decide +kernel) ?_
  refine zo_newa hC dX9_init_49 (t := 0) (N := 90) (a0 := (90, .inl (fun _ => 0))) (by decide) rfl aw_int (fun _ => rfl) (fun _ => rfl) (by decide) (by decide +kernel) (by decide) (by decide) (by decide) hB zeb_i hag (zl1 hB.1) (zs1 hB.1) (fun ι hag hB => ?_)
  refine zo_put hC hE dX9_init_51 fl_X9_26 fp_X9_5 (Or.inr ⟨_, rfl⟩) ⟨_, _, rfl⟩ (Nat.le_of_ble_eq_true rfl) (by simp) hB (fun hB => ?_)
  refine zr_aload_n hC dX9_init_54 rfl ?_
  refine zk_sipush hC dX9_init_55 (v := nI 4512) (by decide +kernel) ?_
  refine zo_newa hC dX9_init_58 (t := 0) (N := 4512) (a0 := (4512, .inl (fun _ => 0))) (by decide) rfl aw_int (fun _ => rfl) (fun _ => rfl) (by decide) (by decide +kernel) (by decide) (by decide) (by decide) hB zeb_i hag (zl1 hB.1) (zs1 hB.1) (fun ι hag hB => ?_)
  refine zo_put hC hE dX9_init_60 fl_X9_29 fp_X9_9 (Or.inr ⟨_, rfl⟩) ⟨_, _, rfl⟩ (Nat.le_of_ble_eq_true rfl) (by simp) hB (fun hB => ?_)
  refine zr_aload_n hC dX9_init_63 rfl ?_
  refine zk_sipush hC dX9_init_64 (v := nI 752) (by decide +kernel) ?_
  refine zo_newa hC dX9_init_67 (t := 0) (N := 752) (a0 := (752, .inl (fun _ => 0))) (by decide) rfl aw_int (fun _ => rfl) (fun _ => rfl) (by decide) (by decide +kernel) (by decide) (by decide) (by decide) hB zeb_i hag (zl1 hB.1) (zs1 hB.1) (fun ι hag hB => ?_)
  refine zo_put hC hE dX9_init_69 fl_X9_32 fp_X9_11 (Or.inr ⟨_, rfl⟩) ⟨_, _, rfl⟩ (Nat.le_of_ble_eq_true rfl) (by simp) hB (fun hB => ?_)
  refine zr_aload_n hC dX9_init_72 rfl ?_
  refine zk_sipush hC dX9_init_73 (v := nI 4512) (by decide +kernel) ?_
  refine zo_newa hC dX9_init_76 (t := 0) (N := 4512) (a0 := (4512, .inl (fun _ => 0))) (by decide) rfl aw_int (fun _ => rfl) (fun _ => rfl) (by decide) (by decide +kernel) (by decide) (by decide) (by decide) hB zeb_i hag (zl1 hB.1) (zs1 hB.1) (fun ι hag hB => ?_)
  refine zo_put hC hE dX9_init_78 fl_X9_35 fp_X9_12 (Or.inr ⟨_, rfl⟩) ⟨_, _, rfl⟩ (Nat.le_of_ble_eq_true rfl) (by simp) hB (fun hB => ?_)
  refine zr_aload_n hC dX9_init_81 rfl ?_
  refine zk_iconst hC dX9_init_82 (v := (-1)) (by decide +kernel) ?_
  refine zr_puti hC dX9_init_83 fl_X9_38 fp_X9_13 (zN_at hB.1) (Nat.le_of_ble_eq_true rfl) ?_
  rw [zN_set hB.1]
  have hB := hB.ownI (k := 13) (x := (-1))
  refine zr_aload_n hC dX9_init_86 rfl ?_
  refine zk_iconst hC dX9_init_87 (v := nI 4) (by decide +kernel) ?_
  refine zo_newa hC dX9_init_88 (t := 0) (N := 4) (a0 := (4, .inl (fun _ => 0))) (by decide) rfl aw_int (fun _ => rfl) (fun _ => rfl) (by decide) (by decide +kernel) (by decide) (by decide) (by decide) hB zeb_i hag (zl1 hB.1) (zs1 hB.1) (fun ι hag hB => ?_)
  refine zo_put hC hE dX9_init_90 fl_X9_42 fp_X9_14 (Or.inr ⟨_, rfl⟩) ⟨_, _, rfl⟩ (Nat.le_of_ble_eq_true rfl) (by simp) hB (fun hB => ?_)
  refine zr_aload_n hC dX9_init_93 rfl ?_
  refine zk_iconst hC dX9_init_94 (v := nI 4) (by decide +kernel) ?_
  refine zo_newa hC dX9_init_95 (t := 0) (N := 4) (a0 := (4, .inl (fun _ => 0))) (by decide) rfl aw_int (fun _ => rfl) (fun _ => rfl) (by decide) (by decide +kernel) (by decide) (by decide) (by decide) hB zeb_i hag (zl1 hB.1) (zs1 hB.1) (fun ι hag hB => ?_)
  refine zo_put hC hE dX9_init_97 fl_X9_45 fp_X9_15 (Or.inr ⟨_, rfl⟩) ⟨_, _, rfl⟩ (Nat.le_of_ble_eq_true rfl) (by simp) hB (fun hB => ?_)
  refine zr_aload_n hC dX9_init_100 rfl ?_
  refine zk_bipush hC dX9_init_101 (v := nI 96) (by decide +kernel) ?_
  refine zo_newa hC dX9_init_103 (t := 1) (N := 96) (a0 := (96, .inr (.inl (fun _ => 0)))) (by decide) rfl aw_long (fun _ => rfl) (fun _ => rfl) (by decide) (by decide +kernel) (by decide) (by decide) (by decide) hB zeb_l hag (zl1 hB.1) (zs1 hB.1) (fun ι hag hB => ?_)
  refine zo_put hC hE dX9_init_105 fl_X9_48 fp_X9_16 (Or.inr ⟨_, rfl⟩) ⟨_, _, rfl⟩ (Nat.le_of_ble_eq_true rfl) (by simp) hB (fun hB => ?_)
  refine zr_aload_n hC dX9_init_108 rfl ?_
  refine zk_bipush hC dX9_init_109 (v := nI 24) (by decide +kernel) ?_
  refine zo_newa hC dX9_init_111 (t := 1) (N := 24) (a0 := (24, .inr (.inl (fun _ => 0)))) (by decide) rfl aw_long (fun _ => rfl) (fun _ => rfl) (by decide) (by decide +kernel) (by decide) (by decide) (by decide) hB zeb_l hag (zl1 hB.1) (zs1 hB.1) (fun ι hag hB => ?_)
  refine zo_put hC hE dX9_init_113 fl_X9_52 fp_X9_17 (Or.inr ⟨_, rfl⟩) ⟨_, _, rfl⟩ (Nat.le_of_ble_eq_true rfl) (by simp) hB (fun hB => ?_)
  refine zr_aload_n hC dX9_init_116 rfl ?_
  refine zk_sipush hC dX9_init_117 (v := nI 230) (by decide +kernel) ?_
  refine zo_newa hC dX9_init_120 (t := 2) (N := 230) (a0 := (230, .inl (fun _ => 0))) (by decide) rfl aw_bool (fun _ => rfl) (fun _ => rfl) (by decide) (by decide +kernel) (by decide) (by decide) (by decide) hB zeb_i hag (zl1 hB.1) (zs1 hB.1) (fun ι hag hB => ?_)
  refine zo_put hC hE dX9_init_122 fl_X9_55 fp_X9_18 (Or.inr ⟨_, rfl⟩) ⟨_, _, rfl⟩ (Nat.le_of_ble_eq_true rfl) (by simp) hB (fun hB => ?_)
  refine zr_aload_n hC dX9_init_125 rfl ?_
  refine zr_getf hC dX9_init_126 fl_X9_7 (zN_at hB.1) (v := .ref (w.length + 0)) rfl ?_
  refine zk_iconst hC dX9_init_129 (v := nI 3) (by decide +kernel) ?_
  refine zk_iconst hC dX9_init_130 (v := nI 1) (by decide +kernel) ?_
  refine zo_iast hC dX9_init_131 hB (f := fun _ => 0) (n := 752) rfl (by decide) (by decide) (fun hB => ?_)
  refine zk_iconst hC dX9_init_132 (v := nI 0) (by decide +kernel) ?_
  refine zr_istore_n hC dX9_init_133 (by decide) ?_
  refine zR_sub [(0, .ref b), (1, .int (nI 0))] ⟨rfl, rfl, trivial⟩ ?_
  refine zr_iload_n hC dX9_init_134 rfl ?_
  refine zk_iconst hC dX9_init_135 (v := nI 4) (by decide +kernel) ?_
  refine zr_icmp_ge hC dX9_init_136 (tgt := 152) (by decide) (fun c => absurd c (by decide +kernel)) (fun c_136 => ?_)
  refine zr_aload_n hC dX9_init_139 rfl ?_
  refine zr_getf hC dX9_init_140 fl_X9_42 (zN_at hB.1) (v := .ref (w.length + 9)) rfl ?_
  refine zr_iload_n hC dX9_init_143 rfl ?_
  refine zk_iconst hC dX9_init_144 (v := (-1)) (by decide +kernel) ?_
  refine zo_iast hC dX9_init_145 hB (f := (fun _ => 0)) (n := 4) rfl (by decide) (by decide) (fun hB => ?_)
  refine zn_iinc hC dX9_init_146 rfl (by decide) (v := nI 1) (by decide +kernel) ?_
  refine zr_goto hC dX9_init_149 (tgt := 134) (by decide) ?_
  refine zR_sub [(0, .ref b), (1, .int (nI 1))] ⟨rfl, rfl, trivial⟩ ?_
  refine zr_iload_n hC dX9_init_134 rfl ?_
  refine zk_iconst hC dX9_init_135 (v := nI 4) (by decide +kernel) ?_
  refine zr_icmp_ge hC dX9_init_136 (tgt := 152) (by decide) (fun c => absurd c (by decide +kernel)) (fun c_136 => ?_)
  refine zr_aload_n hC dX9_init_139 rfl ?_
  refine zr_getf hC dX9_init_140 fl_X9_42 (zN_at hB.1) (v := .ref (w.length + 9)) rfl ?_
  refine zr_iload_n hC dX9_init_143 rfl ?_
  refine zk_iconst hC dX9_init_144 (v := (-1)) (by decide +kernel) ?_
  refine zo_iast hC dX9_init_145 hB (f := (upd (fun _ => 0) 0 (-1))) (n := 4) rfl (by decide) (by decide) (fun hB => ?_)
  refine zn_iinc hC dX9_init_146 rfl (by decide) (v := nI 2) (by decide +kernel) ?_
  refine zr_goto hC dX9_init_149 (tgt := 134) (by decide) ?_
  refine zR_sub [(0, .ref b), (1, .int (nI 2))] ⟨rfl, rfl, trivial⟩ ?_
  refine zr_iload_n hC dX9_init_134 rfl ?_
  refine zk_iconst hC dX9_init_135 (v := nI 4) (by decide +kernel) ?_
  refine zr_icmp_ge hC dX9_init_136 (tgt := 152) (by decide) (fun c => absurd c (by decide +kernel)) (fun c_136 => ?_)
  refine zr_aload_n hC dX9_init_139 rfl ?_
  refine zr_getf hC dX9_init_140 fl_X9_42 (zN_at hB.1) (v := .ref (w.length + 9)) rfl ?_
  refine zr_iload_n hC dX9_init_143 rfl ?_
  refine zk_iconst hC dX9_init_144 (v := (-1)) (by decide +kernel) ?_
  refine zo_iast hC dX9_init_145 hB (f := (upd (upd (fun _ => 0) 0 (-1)) 1 (-1))) (n := 4) rfl (by decide) (by decide) (fun hB => ?_)
  refine zn_iinc hC dX9_init_146 rfl (by decide) (v := nI 3) (by decide +kernel) ?_
  refine zr_goto hC dX9_init_149 (tgt := 134) (by decide) ?_
  refine zR_sub [(0, .ref b), (1, .int (nI 3))] ⟨rfl, rfl, trivial⟩ ?_
  refine zr_iload_n hC dX9_init_134 rfl ?_
  refine zk_iconst hC dX9_init_135 (v := nI 4) (by decide +kernel) ?_
  refine zr_icmp_ge hC dX9_init_136 (tgt := 152) (by decide) (fun c => absurd c (by decide +kernel)) (fun c_136 => ?_)
  refine zr_aload_n hC dX9_init_139 rfl ?_
  refine zr_getf hC dX9_init_140 fl_X9_42 (zN_at hB.1) (v := .ref (w.length + 9)) rfl ?_
  refine zr_iload_n hC dX9_init_143 rfl ?_
  refine zk_iconst hC dX9_init_144 (v := (-1)) (by decide +kernel) ?_
  refine zo_iast hC dX9_init_145 hB (f := (upd (upd (upd (fun _ => 0) 0 (-1)) 1 (-1)) 2 (-1))) (n := 4) rfl (by decide) (by decide) (fun hB => ?_)
  refine zn_iinc hC dX9_init_146 rfl (by decide) (v := nI 4) (by decide +kernel) ?_
  refine zr_goto hC dX9_init_149 (tgt := 134) (by decide) ?_
  refine zR_sub [(0, .ref b), (1, .int (nI 4))] ⟨rfl, rfl, trivial⟩ ?_
  refine zr_iload_n hC dX9_init_134 rfl ?_
  refine zk_iconst hC dX9_init_135 (v := nI 4) (by decide +kernel) ?_
  refine zr_icmp_ge hC dX9_init_136 (tgt := 152) (by decide) (fun c_136 => ?_) (fun c => absurd c (by decide +kernel))
  exact zr_vretN hC hE hag (by decide) (by decide) dX9_init_152 hQ
