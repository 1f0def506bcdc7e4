/-! THE CALLS OF THE MODEL: texts, drifts -/
theorem sk_self {tp : Nat → Nat} {tn d : Nat} (h : d ≠ 0 → tp (tn - d) ≠ 32) : sk tp tn d = d := by
  cases d with
  | zero => rfl
  | succ d => exact if_neg (h (Nat.succ_ne_zero d))
theorem MG.untape {S S' : zS} {G : zG} (h : MG S G) {D : zD} (hM : MW (S'.1 246) D) (e : zfe S S') {t : Nat → Nat} : MG (zput S' 245 6 (nI 0)) (gtape (gset G D) (t, 0)) :=
  (h.fe hM e).tape ⟨zput_at _ _ _ _, Nat.zero_le _, fun i hi => absurd hi (Nat.not_lt_zero i)⟩ (fun k hk => zput_k _ _ hk) (fun a q1 _ => zput_ne _ _ q1) rfl
def spX9_read : zSp := fun av S Q => ∃ (G : zG), av = [.ref 245] ∧ MG S G ∧ GI G ∧ ∀ S', MG S' (fRead G).2 → zfm S S' → Q (some (.int (fRead G).1)) S'
set_option maxHeartbeats 1000000 in
set_option maxRecDepth 100000 in
theorem tX9_read : zM yX9_read cX9_read 3 (some .int) 7 spX9_read := by
  refine zM.of (by decide) (by decide) (fun av S Q h => by obtain ⟨G, rfl, hMG, hGI, hQ⟩ := h; exact Nat.le_of_ble_eq_true rfl) (fun C τ ι av S Q Qr h hr hC hE => ?_)
  obtain ⟨G, rfl, hMG, hGI, hQ⟩ := h
  show zR C τ ι _ 0 0 0 [(0, .ref 245)] [] _
  refine zr_aload_n hC dX9_read_0 rfl ?_
  refine zk_iconst hC dX9_read_1 (v := nI 0) (by decide +kernel) ?_
  refine zs_callV hC (b := 245) [_] [] dX9_read_2 ml_X9_230 mtX9_goesThrough tX9_goesThrough (by decide) (by decide) (by decide) rfl rfl (by decide) (by decide +kernel) (Nat.le_of_ble_eq_true rfl) rfl ?_
  refine ⟨false, G.2.2.2.1.1, G.2.2.2.1.2, G.1, rfl, hMG.2.2.2.1, hGI.2.2.2.1.2, hMG.1, hGI.1, fun _ S1 w hf1 d1 g7 gd gt gf => ?_, fun q => by cases q⟩
  have hT1 : MT S1 (G.2.2.2.1.1, G.2.2.2.1.2) := hMG.2.2.2.1.fe hf1.e
  dsimp only [Option.toList, List.cons_append, List.nil_append]
  cases w
  · obtain ⟨hfl, hne⟩ := gf rfl
    have hsk := sk_self hne
    simp only [fRead, hfl] at hQ
    refine zr_istore_n hC dX9_read_5 (by decide) ?_
    refine zr_aload_n hC dX9_read_6 rfl ?_
    refine zs_callV hC (b := 245) [] [] dX9_read_7 ml_X9_210 mtX9_here tX9_here (by decide) (by decide) (by decide) rfl rfl (by decide) (by decide +kernel) (Nat.le_of_ble_eq_true rfl) rfl ?_
    refine ⟨G.2.2.2.1.1, G.2.2.2.1.2, d1, rfl, hT1, hGI.2.2.2.1.2, g7, gd, ?_⟩
    have hfz : zfz S (zput S1 245 7 (nI (G.2.2.2.1.2 - sk G.2.2.2.1.1 G.2.2.2.1.2 d1))) := hf1.tr (zfz.put (Or.inl rfl))
    have hM2 : MW ((zput S1 245 7 (nI (G.2.2.2.1.2 - sk G.2.2.2.1.1 G.2.2.2.1.2 d1))).1 246) G.1 := by rw [hfz.1 246 (by decide)]; exact hMG.1
    dsimp only [Option.toList, List.cons_append, List.nil_append]
    refine zr_if_ne hC dX9_read_10 (tgt := 20) (by decide) (fun c_10 => ?_) (fun c_10 => ?_)
    · refine zr_aload_n hC dX9_read_20 rfl ?_
      refine zv_geti hC dX9_read_21 fl_X9_207 (a := 245) rfl (by decide) ((zput_at S1 245 7 _).trans (show nI (G.2.2.2.1.2 - sk G.2.2.2.1.1 G.2.2.2.1.2 d1) = nI (G.2.2.2.1.2 - d1) from congrArg (fun z => nI (G.2.2.2.1.2 - z)) hsk)) ?_
      refine zr_istore_n hC dX9_read_24 (by decide) ?_
      refine zr_iload_n hC dX9_read_25 rfl ?_
      refine zr_if_eq hC dX9_read_26 (tgt := 39) (by decide) (fun c_26 => ?_) (fun c => absurd c (by decide +kernel))
      refine zr_aload_n hC dX9_read_39 rfl ?_
      refine zk_iconst hC dX9_read_40 (v := nI 0) (by decide +kernel) ?_
      refine zs_puti hC dX9_read_41 fl_X9_204 fp_X9_6 (a := 245) rfl (by decide) ?_
      refine zr_iload_n hC dX9_read_44 rfl ?_
      refine zr_if_eq hC dX9_read_45 (tgt := 55) (by decide) (fun c_45 => ?_) (fun c => absurd c (by decide +kernel))
      refine zk_bipush hC dX9_read_55 (v := (-20)) (by decide +kernel) ?_
      refine zr_iload_n hC dX9_read_57 rfl ?_
      refine zr_isub hC dX9_read_58 ?_
      exact zr_ireturn hC hE dX9_read_59 (hr _ _ (by first | exact hQ _ (hMG.untape (D := G.1) hM2 hfz.e) (hfz.e.m.tr (zput_m (by decide))) | (rw [hsk]; exact hQ _ (hMG.untape (D := G.1) hM2 hfz.e) (hfz.e.m.tr (zput_m (by decide))))))
    · have hz := hcN_z hGI.2.2.2.1.2 (Nat.le_trans (sk_le d1) gd) c_10
      refine zr_aload_n hC dX9_read_13 rfl ?_
      refine zv_geti hC dX9_read_14 fl_X9_204 (a := 245) rfl (by decide) (((zput_k _ _ (by decide)).trans hT1.1).trans (show nI G.2.2.2.1.2 = nI (G.2.2.2.1.2 - d1) from congrArg nI (by rw [hsk] at hz; omega))) ?_
      refine zr_goto hC dX9_read_17 (tgt := 24) (by decide) ?_
      refine zr_istore_n hC dX9_read_24 (by decide) ?_
      refine zr_iload_n hC dX9_read_25 rfl ?_
      refine zr_if_eq hC dX9_read_26 (tgt := 39) (by decide) (fun c_26 => ?_) (fun c => absurd c (by decide +kernel))
      refine zr_aload_n hC dX9_read_39 rfl ?_
      refine zk_iconst hC dX9_read_40 (v := nI 0) (by decide +kernel) ?_
      refine zs_puti hC dX9_read_41 fl_X9_204 fp_X9_6 (a := 245) rfl (by decide) ?_
      refine zr_iload_n hC dX9_read_44 rfl ?_
      refine zr_if_eq hC dX9_read_45 (tgt := 55) (by decide) (fun c_45 => ?_) (fun c => absurd c (by decide +kernel))
      refine zk_bipush hC dX9_read_55 (v := (-20)) (by decide +kernel) ?_
      refine zr_iload_n hC dX9_read_57 rfl ?_
      refine zr_isub hC dX9_read_58 ?_
      exact zr_ireturn hC hE dX9_read_59 (hr _ _ (by first | exact hQ _ (hMG.untape (D := G.1) hM2 hfz.e) (hfz.e.m.tr (zput_m (by decide))) | (rw [hsk]; exact hQ _ (hMG.untape (D := G.1) hM2 hfz.e) (hfz.e.m.tr (zput_m (by decide))))))
  · have hfl := gt rfl
    simp only [fRead, hfl] at hQ
    refine zr_istore_n hC dX9_read_5 (by decide) ?_
    refine zr_aload_n hC dX9_read_6 rfl ?_
    refine zs_callV hC (b := 245) [] [] dX9_read_7 ml_X9_210 mtX9_here tX9_here (by decide) (by decide) (by decide) rfl rfl (by decide) (by decide +kernel) (Nat.le_of_ble_eq_true rfl) rfl ?_
    refine ⟨G.2.2.2.1.1, G.2.2.2.1.2, d1, rfl, hT1, hGI.2.2.2.1.2, g7, gd, ?_⟩
    have hfz : zfz S (zput S1 245 7 (nI (G.2.2.2.1.2 - sk G.2.2.2.1.1 G.2.2.2.1.2 d1))) := hf1.tr (zfz.put (Or.inl rfl))
    have hM2 : MW ((zput S1 245 7 (nI (G.2.2.2.1.2 - sk G.2.2.2.1.1 G.2.2.2.1.2 d1))).1 246) G.1 := by rw [hfz.1 246 (by decide)]; exact hMG.1
    dsimp only [Option.toList, List.cons_append, List.nil_append]
    refine zr_if_ne hC dX9_read_10 (tgt := 20) (by decide) (fun c_10 => ?_) (fun c_10 => ?_)
    · refine zr_aload_n hC dX9_read_20 rfl ?_
      refine zv_geti hC dX9_read_21 fl_X9_207 (a := 245) rfl (by decide) (zput_at _ 245 7 _) ?_
      refine zr_istore_n hC dX9_read_24 (by decide) ?_
      refine zr_iload_n hC dX9_read_25 rfl ?_
      refine zr_if_eq hC dX9_read_26 (tgt := 39) (by decide) (fun c => absurd c (by decide +kernel)) (fun c_26 => ?_)
      refine zr_aload_n hC dX9_read_29 rfl ?_
      refine zs_callV hC (b := 245) [] [] dX9_read_30 ml_X9_101 mtX9_notes tX9_notes (by decide) (by decide) (by decide) rfl rfl (by decide) (by decide +kernel) (Nat.le_of_ble_eq_true rfl) rfl ?_
      have hMG2 : MG (zput S1 245 7 (nI (G.2.2.2.1.2 - sk G.2.2.2.1.1 G.2.2.2.1.2 d1))) G := hMG.fe (D := G.1) hM2 hfz.e
      refine keepM hMG2 (fun S3 hM3 hf3 h251 h245 => ?_)
      dsimp only [Option.toList, List.nil_append]
      refine zr_aload_n hC dX9_read_33 rfl ?_
      refine zk_iconst hC dX9_read_34 (v := nI 1) (by decide +kernel) ?_
      refine zs_callV hC (b := 245) [_] [] dX9_read_35 ml_X9_230 mtX9_goesThrough tX9_goesThrough (by decide) (by decide) (by decide) rfl rfl (by decide) (by decide +kernel) (Nat.le_of_ble_eq_true rfl) rfl ?_
      refine ⟨true, G.2.2.2.1.1, G.2.2.2.1.2, G.1, rfl, hM3.2.2.2.1, hGI.2.2.2.1.2, hM3.1, hGI.1, fun q => (by cases q), fun _ => ⟨hfl, fun S4 hf4 hm4 hi4 g8 => ?_⟩⟩
      dsimp only [Option.toList, List.cons_append, List.nil_append]
      refine zr_pop hC dX9_read_38 rfl ?_
      refine zr_aload_n hC dX9_read_39 rfl ?_
      refine zk_iconst hC dX9_read_40 (v := nI 0) (by decide +kernel) ?_
      refine zs_puti hC dX9_read_41 fl_X9_204 fp_X9_6 (a := 245) rfl (by decide) ?_
      refine zr_iload_n hC dX9_read_44 rfl ?_
      refine zr_if_eq hC dX9_read_45 (tgt := 55) (by decide) (fun c => absurd c (by decide +kernel)) (fun c_45 => ?_)
      refine zr_aload_n hC dX9_read_48 rfl ?_
      refine zv_geti hC dX9_read_49 fl_X9_221 (a := 245) rfl (by decide) ((zput_k _ _ (by decide)).trans g8) ?_
      refine zr_goto hC dX9_read_52 (tgt := 59) (by decide) ?_
      exact zr_ireturn hC hE dX9_read_59 (hr _ _ (hQ _ (hM3.untape hm4 hf4) ((hfz.e.m.tr hf3).tr (hf4.m.tr (zput_m (by decide))))))
    · have hz := hcN_z hGI.2.2.2.1.2 (Nat.le_trans (sk_le d1) gd) c_10
      refine zr_aload_n hC dX9_read_13 rfl ?_
      refine zv_geti hC dX9_read_14 fl_X9_204 (a := 245) rfl (by decide) ((zput_k _ _ (by decide)).trans hT1.1) ?_
      refine zr_goto hC dX9_read_17 (tgt := 24) (by decide) ?_
      refine zr_istore_n hC dX9_read_24 (by decide) ?_
      refine zr_iload_n hC dX9_read_25 rfl ?_
      refine zr_if_eq hC dX9_read_26 (tgt := 39) (by decide) (fun c => absurd c (by decide +kernel)) (fun c_26 => ?_)
      refine zr_aload_n hC dX9_read_29 rfl ?_
      refine zs_callV hC (b := 245) [] [] dX9_read_30 ml_X9_101 mtX9_notes tX9_notes (by decide) (by decide) (by decide) rfl rfl (by decide) (by decide +kernel) (Nat.le_of_ble_eq_true rfl) rfl ?_
      have hMG2 : MG (zput S1 245 7 (nI (G.2.2.2.1.2 - sk G.2.2.2.1.1 G.2.2.2.1.2 d1))) G := hMG.fe (D := G.1) hM2 hfz.e
      refine keepM hMG2 (fun S3 hM3 hf3 h251 h245 => ?_)
      dsimp only [Option.toList, List.nil_append]
      refine zr_aload_n hC dX9_read_33 rfl ?_
      refine zk_iconst hC dX9_read_34 (v := nI 1) (by decide +kernel) ?_
      refine zs_callV hC (b := 245) [_] [] dX9_read_35 ml_X9_230 mtX9_goesThrough tX9_goesThrough (by decide) (by decide) (by decide) rfl rfl (by decide) (by decide +kernel) (Nat.le_of_ble_eq_true rfl) rfl ?_
      refine ⟨true, G.2.2.2.1.1, G.2.2.2.1.2, G.1, rfl, hM3.2.2.2.1, hGI.2.2.2.1.2, hM3.1, hGI.1, fun q => (by cases q), fun _ => ⟨hfl, fun S4 hf4 hm4 hi4 g8 => ?_⟩⟩
      dsimp only [Option.toList, List.cons_append, List.nil_append]
      refine zr_pop hC dX9_read_38 rfl ?_
      refine zr_aload_n hC dX9_read_39 rfl ?_
      refine zk_iconst hC dX9_read_40 (v := nI 0) (by decide +kernel) ?_
      refine zs_puti hC dX9_read_41 fl_X9_204 fp_X9_6 (a := 245) rfl (by decide) ?_
      refine zr_iload_n hC dX9_read_44 rfl ?_
      refine zr_if_eq hC dX9_read_45 (tgt := 55) (by decide) (fun c => absurd c (by decide +kernel)) (fun c_45 => ?_)
      refine zr_aload_n hC dX9_read_48 rfl ?_
      refine zv_geti hC dX9_read_49 fl_X9_221 (a := 245) rfl (by decide) ((zput_k _ _ (by decide)).trans g8) ?_
      refine zr_goto hC dX9_read_52 (tgt := 59) (by decide) ?_
      exact zr_ireturn hC hE dX9_read_59 (hr _ _ (hQ _ (hM3.untape hm4 hf4) ((hfz.e.m.tr hf3).tr (hf4.m.tr (zput_m (by decide))))))
theorem try_b {D D' : zD} (h : ev2 32 D = some D') : tryB D = D' := by
  rw [ev2_32] at h
  unfold tryB
  split at h
  next q => rw [if_pos q]; exact Option.some.inj h
  next => cases h
theorem try_bn {D : zD} (h : ev2 32 D = none) : tryB D = D := by
  rw [ev2_32] at h
  unfold tryB
  split at h
  · cases h
  next q => exact if_neg q
theorem try_c {D D' : zD} {m : Nat} (hm : m < 16) (h : ev2 m D = some D') : tryC m D = D' := by
  rw [ev2_c D hm] at h
  unfold tryC
  split at h
  next q => rw [if_pos q]; exact Option.some.inj h
  next => cases h
theorem try_cn {D : zD} {m : Nat} (hm : m < 16) (h : ev2 m D = none) : tryC m D = D := by
  rw [ev2_c D hm] at h
  unfold tryC
  split at h
  · cases h
  next q => exact if_neg q
theorem try_l {D D' : zD} {m : Nat} (hm : m < 16) (h : ev2 (16 + m) D = some D') : tryL m D = D' := by
  rw [ev2_l D hm] at h
  unfold tryL
  split at h
  next q => rw [if_pos q]; exact Option.some.inj h
  next => cases h
theorem try_ln {D : zD} {m : Nat} (hm : m < 16) (h : ev2 (16 + m) D = none) : tryL m D = D := by
  rw [ev2_l D hm] at h
  unfold tryL
  split at h
  · cases h
  next q => exact if_neg q
def spX9_happens : zSp := fun av S Q => ∃ (x : Nat) (D : zD), av = [.ref 245, .int (nI x)] ∧ x < 2147483648 ∧ MW (S.1 246) D ∧ INV D ∧ ∀ S', MW (S'.1 246) (dr2 (x % 8) (x / 16 % 16) D) → zfe S S' → Q none S'
set_option maxHeartbeats 1000000 in
set_option maxRecDepth 100000 in
theorem tX9_happens : zM yX9_happens cX9_happens 5 none 6 spX9_happens := by
  refine zM.of (by decide) (by decide) (fun av S Q h => by obtain ⟨x, D, rfl, hx0, hM, hI, hQ⟩ := h; exact Nat.le_of_ble_eq_true rfl) (fun C τ ι av S Q Qr h hr hC hE => ?_)
  obtain ⟨x, D, rfl, hx0, hM, hI, hQ⟩ := h
  show zR C τ ι _ 0 0 0 [(0, .ref 245), (1, .int (nI x))] [] _
  refine zr_iload_n hC dX9_happens_0 rfl ?_
  refine zk_bipush hC dX9_happens_1 (v := nI 16) (by decide +kernel) ?_
  refine zn_idiv hC dX9_happens_3 (by decide +kernel) (pk_div hx0 (by decide) (by decide)) ?_
  refine zk_bipush hC dX9_happens_4 (v := nI 16) (by decide +kernel) ?_
  refine zn_irem hC dX9_happens_6 (by decide +kernel) (z_rem (Nat.lt_of_le_of_lt (Nat.div_le_self _ _) hx0) (by decide) (by decide)) ?_
  refine zr_istore_n hC dX9_happens_7 (by decide) ?_
  have hm : x / 16 % 16 < 16 := Nat.mod_lt _ (by decide)
  generalize x / 16 % 16 = m at *
  refine zr_iload_n hC dX9_happens_8 rfl ?_
  refine zk_bipush hC dX9_happens_9 (v := nI 8) (by decide +kernel) ?_
  refine zn_irem hC dX9_happens_11 (by decide +kernel) (z_rem hx0 (by decide) (by decide)) ?_
  rcases (by omega : x % 8 = 0 ∨ x % 8 = 1 ∨ x % 8 = 2 ∨ x % 8 = 3 ∨ x % 8 = 4 ∨ x % 8 = 5 ∨ x % 8 = 6 ∨ x % 8 = 7) with h8 | h8 | h8 | h8 | h8 | h8 | h8 | h8
  · rw [h8]
    rw [h8] at hQ
    rw [show dr2 0 m D = if D 0 m ≠ 0 then tryL m D else tryC m D from rfl] at hQ
    refine zr_istore_n hC dX9_happens_12 (by decide) ?_
    refine zr_iload_n hC dX9_happens_13 rfl ?_
    refine zk_iconst hC dX9_happens_14 (v := nI 4) (by decide +kernel) ?_
    refine zr_icmp_ge hC dX9_happens_15 (tgt := 42) (by decide) (fun c => absurd c (by decide +kernel)) (fun c_15 => ?_)
    refine zr_aload_n hC dX9_happens_18 rfl ?_
    refine zr_aload_n hC dX9_happens_19 rfl ?_
    refine zr_iload_n hC dX9_happens_20 rfl ?_
    refine zs_callV hC (b := 245) [_] [_] dX9_happens_21 ml_X9_68 mtX9_sits tX9_sits (by decide) (by decide) (by decide) rfl rfl (by decide) (by decide +kernel) (Nat.le_of_ble_eq_true rfl) rfl ?_
    refine ⟨m, D, rfl, hm, hM, fun r e => ?_⟩
    rcases e with ⟨rfl, hx⟩ | ⟨rfl, hx⟩
    · rw [if_pos hx] at hQ
      dsimp only [Option.toList, List.cons_append, List.nil_append]
      refine zr_if_eq hC dX9_happens_24 (tgt := 34) (by decide) (fun c => absurd c (by decide +kernel)) (fun c_24 => ?_)
      refine zk_bipush hC dX9_happens_27 (v := nI 16) (by decide +kernel) ?_
      refine zr_iload_n hC dX9_happens_29 rfl ?_
      refine zn_iadd hC dX9_happens_30 (nI_add _ _) ?_
      refine zr_goto hC dX9_happens_31 (tgt := 35) (by decide) ?_
      refine zs_callV hC (b := 245) [_] [] dX9_happens_35 ml_X9_227 mtX9_does tX9_does (by decide) (by decide) (by decide) rfl rfl (by decide) (by decide +kernel) (Nat.le_of_ble_eq_true rfl) rfl ?_
      refine ⟨16 + m, D, rfl, by omega, hM, hI, fun he => ?_, fun D2 he S1 hM1 hf1 => ?_⟩
      · rw [try_ln hm he] at hQ
        dsimp only [Option.toList, List.cons_append, List.nil_append]
        refine zr_pop hC dX9_happens_38 rfl ?_
        refine zr_goto hC dX9_happens_39 (tgt := 135) (by decide) ?_
        exact zr_vreturn hC hE dX9_happens_135 (hr _ _ (by first | exact hQ _ (by rw [zput_ne _ _ (by decide)]; exact hM3) ((hf2.e.tr (hf3.up (by decide) (by decide) : zfrm 246 250 _ _).e).tr (zfe.put (Or.inr rfl))) | exact hQ _ (by rw [zput_ne _ _ (by decide)]; exact hM2) (hf2.e.tr (zfe.put (Or.inr rfl))) | exact hQ _ (by rw [zput_ne _ _ (by decide)]; exact hM2) ((hf2.up (by decide) (by decide) : zfrm 246 250 _ _).e.tr (zfe.put (Or.inr rfl))) | exact hQ _ hM1 hf1.e | exact hQ _ hM zfe.rf))
      · rw [try_l hm he] at hQ
        dsimp only [Option.toList, List.cons_append, List.nil_append]
        refine zr_pop hC dX9_happens_38 rfl ?_
        refine zr_goto hC dX9_happens_39 (tgt := 135) (by decide) ?_
        exact zr_vreturn hC hE dX9_happens_135 (hr _ _ (by first | exact hQ _ (by rw [zput_ne _ _ (by decide)]; exact hM3) ((hf2.e.tr (hf3.up (by decide) (by decide) : zfrm 246 250 _ _).e).tr (zfe.put (Or.inr rfl))) | exact hQ _ (by rw [zput_ne _ _ (by decide)]; exact hM2) (hf2.e.tr (zfe.put (Or.inr rfl))) | exact hQ _ (by rw [zput_ne _ _ (by decide)]; exact hM2) ((hf2.up (by decide) (by decide) : zfrm 246 250 _ _).e.tr (zfe.put (Or.inr rfl))) | exact hQ _ hM1 hf1.e | exact hQ _ hM zfe.rf))
    · rw [if_neg (not_not_intro hx)] at hQ
      dsimp only [Option.toList, List.cons_append, List.nil_append]
      refine zr_if_eq hC dX9_happens_24 (tgt := 34) (by decide) (fun c_24 => ?_) (fun c => absurd c (by decide +kernel))
      refine zr_iload_n hC dX9_happens_34 rfl ?_
      refine zs_callV hC (b := 245) [_] [] dX9_happens_35 ml_X9_227 mtX9_does tX9_does (by decide) (by decide) (by decide) rfl rfl (by decide) (by decide +kernel) (Nat.le_of_ble_eq_true rfl) rfl ?_
      refine ⟨m, D, rfl, by omega, hM, hI, fun he => ?_, fun D2 he S1 hM1 hf1 => ?_⟩
      · rw [try_cn hm he] at hQ
        dsimp only [Option.toList, List.cons_append, List.nil_append]
        refine zr_pop hC dX9_happens_38 rfl ?_
        refine zr_goto hC dX9_happens_39 (tgt := 135) (by decide) ?_
        exact zr_vreturn hC hE dX9_happens_135 (hr _ _ (by first | exact hQ _ (by rw [zput_ne _ _ (by decide)]; exact hM3) ((hf2.e.tr (hf3.up (by decide) (by decide) : zfrm 246 250 _ _).e).tr (zfe.put (Or.inr rfl))) | exact hQ _ (by rw [zput_ne _ _ (by decide)]; exact hM2) (hf2.e.tr (zfe.put (Or.inr rfl))) | exact hQ _ (by rw [zput_ne _ _ (by decide)]; exact hM2) ((hf2.up (by decide) (by decide) : zfrm 246 250 _ _).e.tr (zfe.put (Or.inr rfl))) | exact hQ _ hM1 hf1.e | exact hQ _ hM zfe.rf))
      · rw [try_c hm he] at hQ
        dsimp only [Option.toList, List.cons_append, List.nil_append]
        refine zr_pop hC dX9_happens_38 rfl ?_
        refine zr_goto hC dX9_happens_39 (tgt := 135) (by decide) ?_
        exact zr_vreturn hC hE dX9_happens_135 (hr _ _ (by first | exact hQ _ (by rw [zput_ne _ _ (by decide)]; exact hM3) ((hf2.e.tr (hf3.up (by decide) (by decide) : zfrm 246 250 _ _).e).tr (zfe.put (Or.inr rfl))) | exact hQ _ (by rw [zput_ne _ _ (by decide)]; exact hM2) (hf2.e.tr (zfe.put (Or.inr rfl))) | exact hQ _ (by rw [zput_ne _ _ (by decide)]; exact hM2) ((hf2.up (by decide) (by decide) : zfrm 246 250 _ _).e.tr (zfe.put (Or.inr rfl))) | exact hQ _ hM1 hf1.e | exact hQ _ hM zfe.rf))
  · rw [h8]
    rw [h8] at hQ
    rw [show dr2 1 m D = if D 0 m ≠ 0 then tryL m D else tryC m D from rfl] at hQ
    refine zr_istore_n hC dX9_happens_12 (by decide) ?_
    refine zr_iload_n hC dX9_happens_13 rfl ?_
    refine zk_iconst hC dX9_happens_14 (v := nI 4) (by decide +kernel) ?_
    refine zr_icmp_ge hC dX9_happens_15 (tgt := 42) (by decide) (fun c => absurd c (by decide +kernel)) (fun c_15 => ?_)
    refine zr_aload_n hC dX9_happens_18 rfl ?_
    refine zr_aload_n hC dX9_happens_19 rfl ?_
    refine zr_iload_n hC dX9_happens_20 rfl ?_
    refine zs_callV hC (b := 245) [_] [_] dX9_happens_21 ml_X9_68 mtX9_sits tX9_sits (by decide) (by decide) (by decide) rfl rfl (by decide) (by decide +kernel) (Nat.le_of_ble_eq_true rfl) rfl ?_
    refine ⟨m, D, rfl, hm, hM, fun r e => ?_⟩
    rcases e with ⟨rfl, hx⟩ | ⟨rfl, hx⟩
    · rw [if_pos hx] at hQ
      dsimp only [Option.toList, List.cons_append, List.nil_append]
      refine zr_if_eq hC dX9_happens_24 (tgt := 34) (by decide) (fun c => absurd c (by decide +kernel)) (fun c_24 => ?_)
      refine zk_bipush hC dX9_happens_27 (v := nI 16) (by decide +kernel) ?_
      refine zr_iload_n hC dX9_happens_29 rfl ?_
      refine zn_iadd hC dX9_happens_30 (nI_add _ _) ?_
      refine zr_goto hC dX9_happens_31 (tgt := 35) (by decide) ?_
      refine zs_callV hC (b := 245) [_] [] dX9_happens_35 ml_X9_227 mtX9_does tX9_does (by decide) (by decide) (by decide) rfl rfl (by decide) (by decide +kernel) (Nat.le_of_ble_eq_true rfl) rfl ?_
      refine ⟨16 + m, D, rfl, by omega, hM, hI, fun he => ?_, fun D2 he S1 hM1 hf1 => ?_⟩
      · rw [try_ln hm he] at hQ
        dsimp only [Option.toList, List.cons_append, List.nil_append]
        refine zr_pop hC dX9_happens_38 rfl ?_
        refine zr_goto hC dX9_happens_39 (tgt := 135) (by decide) ?_
        exact zr_vreturn hC hE dX9_happens_135 (hr _ _ (by first | exact hQ _ (by rw [zput_ne _ _ (by decide)]; exact hM3) ((hf2.e.tr (hf3.up (by decide) (by decide) : zfrm 246 250 _ _).e).tr (zfe.put (Or.inr rfl))) | exact hQ _ (by rw [zput_ne _ _ (by decide)]; exact hM2) (hf2.e.tr (zfe.put (Or.inr rfl))) | exact hQ _ (by rw [zput_ne _ _ (by decide)]; exact hM2) ((hf2.up (by decide) (by decide) : zfrm 246 250 _ _).e.tr (zfe.put (Or.inr rfl))) | exact hQ _ hM1 hf1.e | exact hQ _ hM zfe.rf))
      · rw [try_l hm he] at hQ
        dsimp only [Option.toList, List.cons_append, List.nil_append]
        refine zr_pop hC dX9_happens_38 rfl ?_
        refine zr_goto hC dX9_happens_39 (tgt := 135) (by decide) ?_
        exact zr_vreturn hC hE dX9_happens_135 (hr _ _ (by first | exact hQ _ (by rw [zput_ne _ _ (by decide)]; exact hM3) ((hf2.e.tr (hf3.up (by decide) (by decide) : zfrm 246 250 _ _).e).tr (zfe.put (Or.inr rfl))) | exact hQ _ (by rw [zput_ne _ _ (by decide)]; exact hM2) (hf2.e.tr (zfe.put (Or.inr rfl))) | exact hQ _ (by rw [zput_ne _ _ (by decide)]; exact hM2) ((hf2.up (by decide) (by decide) : zfrm 246 250 _ _).e.tr (zfe.put (Or.inr rfl))) | exact hQ _ hM1 hf1.e | exact hQ _ hM zfe.rf))
    · rw [if_neg (not_not_intro hx)] at hQ
      dsimp only [Option.toList, List.cons_append, List.nil_append]
      refine zr_if_eq hC dX9_happens_24 (tgt := 34) (by decide) (fun c_24 => ?_) (fun c => absurd c (by decide +kernel))
      refine zr_iload_n hC dX9_happens_34 rfl ?_
      refine zs_callV hC (b := 245) [_] [] dX9_happens_35 ml_X9_227 mtX9_does tX9_does (by decide) (by decide) (by decide) rfl rfl (by decide) (by decide +kernel) (Nat.le_of_ble_eq_true rfl) rfl ?_
      refine ⟨m, D, rfl, by omega, hM, hI, fun he => ?_, fun D2 he S1 hM1 hf1 => ?_⟩
      · rw [try_cn hm he] at hQ
        dsimp only [Option.toList, List.cons_append, List.nil_append]
        refine zr_pop hC dX9_happens_38 rfl ?_
        refine zr_goto hC dX9_happens_39 (tgt := 135) (by decide) ?_
        exact zr_vreturn hC hE dX9_happens_135 (hr _ _ (by first | exact hQ _ (by rw [zput_ne _ _ (by decide)]; exact hM3) ((hf2.e.tr (hf3.up (by decide) (by decide) : zfrm 246 250 _ _).e).tr (zfe.put (Or.inr rfl))) | exact hQ _ (by rw [zput_ne _ _ (by decide)]; exact hM2) (hf2.e.tr (zfe.put (Or.inr rfl))) | exact hQ _ (by rw [zput_ne _ _ (by decide)]; exact hM2) ((hf2.up (by decide) (by decide) : zfrm 246 250 _ _).e.tr (zfe.put (Or.inr rfl))) | exact hQ _ hM1 hf1.e | exact hQ _ hM zfe.rf))
      · rw [try_c hm he] at hQ
        dsimp only [Option.toList, List.cons_append, List.nil_append]
        refine zr_pop hC dX9_happens_38 rfl ?_
        refine zr_goto hC dX9_happens_39 (tgt := 135) (by decide) ?_
        exact zr_vreturn hC hE dX9_happens_135 (hr _ _ (by first | exact hQ _ (by rw [zput_ne _ _ (by decide)]; exact hM3) ((hf2.e.tr (hf3.up (by decide) (by decide) : zfrm 246 250 _ _).e).tr (zfe.put (Or.inr rfl))) | exact hQ _ (by rw [zput_ne _ _ (by decide)]; exact hM2) (hf2.e.tr (zfe.put (Or.inr rfl))) | exact hQ _ (by rw [zput_ne _ _ (by decide)]; exact hM2) ((hf2.up (by decide) (by decide) : zfrm 246 250 _ _).e.tr (zfe.put (Or.inr rfl))) | exact hQ _ hM1 hf1.e | exact hQ _ hM zfe.rf))
  · rw [h8]
    rw [h8] at hQ
    rw [show dr2 2 m D = if D 0 m ≠ 0 then tryL m D else tryC m D from rfl] at hQ
    refine zr_istore_n hC dX9_happens_12 (by decide) ?_
    refine zr_iload_n hC dX9_happens_13 rfl ?_
    refine zk_iconst hC dX9_happens_14 (v := nI 4) (by decide +kernel) ?_
    refine zr_icmp_ge hC dX9_happens_15 (tgt := 42) (by decide) (fun c => absurd c (by decide +kernel)) (fun c_15 => ?_)
    refine zr_aload_n hC dX9_happens_18 rfl ?_
    refine zr_aload_n hC dX9_happens_19 rfl ?_
    refine zr_iload_n hC dX9_happens_20 rfl ?_
    refine zs_callV hC (b := 245) [_] [_] dX9_happens_21 ml_X9_68 mtX9_sits tX9_sits (by decide) (by decide) (by decide) rfl rfl (by decide) (by decide +kernel) (Nat.le_of_ble_eq_true rfl) rfl ?_
    refine ⟨m, D, rfl, hm, hM, fun r e => ?_⟩
    rcases e with ⟨rfl, hx⟩ | ⟨rfl, hx⟩
    · rw [if_pos hx] at hQ
      dsimp only [Option.toList, List.cons_append, List.nil_append]
      refine zr_if_eq hC dX9_happens_24 (tgt := 34) (by decide) (fun c => absurd c (by decide +kernel)) (fun c_24 => ?_)
      refine zk_bipush hC dX9_happens_27 (v := nI 16) (by decide +kernel) ?_
      refine zr_iload_n hC dX9_happens_29 rfl ?_
      refine zn_iadd hC dX9_happens_30 (nI_add _ _) ?_
      refine zr_goto hC dX9_happens_31 (tgt := 35) (by decide) ?_
      refine zs_callV hC (b := 245) [_] [] dX9_happens_35 ml_X9_227 mtX9_does tX9_does (by decide) (by decide) (by decide) rfl rfl (by decide) (by decide +kernel) (Nat.le_of_ble_eq_true rfl) rfl ?_
      refine ⟨16 + m, D, rfl, by omega, hM, hI, fun he => ?_, fun D2 he S1 hM1 hf1 => ?_⟩
      · rw [try_ln hm he] at hQ
        dsimp only [Option.toList, List.cons_append, List.nil_append]
        refine zr_pop hC dX9_happens_38 rfl ?_
        refine zr_goto hC dX9_happens_39 (tgt := 135) (by decide) ?_
        exact zr_vreturn hC hE dX9_happens_135 (hr _ _ (by first | exact hQ _ (by rw [zput_ne _ _ (by decide)]; exact hM3) ((hf2.e.tr (hf3.up (by decide) (by decide) : zfrm 246 250 _ _).e).tr (zfe.put (Or.inr rfl))) | exact hQ _ (by rw [zput_ne _ _ (by decide)]; exact hM2) (hf2.e.tr (zfe.put (Or.inr rfl))) | exact hQ _ (by rw [zput_ne _ _ (by decide)]; exact hM2) ((hf2.up (by decide) (by decide) : zfrm 246 250 _ _).e.tr (zfe.put (Or.inr rfl))) | exact hQ _ hM1 hf1.e | exact hQ _ hM zfe.rf))
      · rw [try_l hm he] at hQ
        dsimp only [Option.toList, List.cons_append, List.nil_append]
        refine zr_pop hC dX9_happens_38 rfl ?_
        refine zr_goto hC dX9_happens_39 (tgt := 135) (by decide) ?_
        exact zr_vreturn hC hE dX9_happens_135 (hr _ _ (by first | exact hQ _ (by rw [zput_ne _ _ (by decide)]; exact hM3) ((hf2.e.tr (hf3.up (by decide) (by decide) : zfrm 246 250 _ _).e).tr (zfe.put (Or.inr rfl))) | exact hQ _ (by rw [zput_ne _ _ (by decide)]; exact hM2) (hf2.e.tr (zfe.put (Or.inr rfl))) | exact hQ _ (by rw [zput_ne _ _ (by decide)]; exact hM2) ((hf2.up (by decide) (by decide) : zfrm 246 250 _ _).e.tr (zfe.put (Or.inr rfl))) | exact hQ _ hM1 hf1.e | exact hQ _ hM zfe.rf))
    · rw [if_neg (not_not_intro hx)] at hQ
      dsimp only [Option.toList, List.cons_append, List.nil_append]
      refine zr_if_eq hC dX9_happens_24 (tgt := 34) (by decide) (fun c_24 => ?_) (fun c => absurd c (by decide +kernel))
      refine zr_iload_n hC dX9_happens_34 rfl ?_
      refine zs_callV hC (b := 245) [_] [] dX9_happens_35 ml_X9_227 mtX9_does tX9_does (by decide) (by decide) (by decide) rfl rfl (by decide) (by decide +kernel) (Nat.le_of_ble_eq_true rfl) rfl ?_
      refine ⟨m, D, rfl, by omega, hM, hI, fun he => ?_, fun D2 he S1 hM1 hf1 => ?_⟩
      · rw [try_cn hm he] at hQ
        dsimp only [Option.toList, List.cons_append, List.nil_append]
        refine zr_pop hC dX9_happens_38 rfl ?_
        refine zr_goto hC dX9_happens_39 (tgt := 135) (by decide) ?_
        exact zr_vreturn hC hE dX9_happens_135 (hr _ _ (by first | exact hQ _ (by rw [zput_ne _ _ (by decide)]; exact hM3) ((hf2.e.tr (hf3.up (by decide) (by decide) : zfrm 246 250 _ _).e).tr (zfe.put (Or.inr rfl))) | exact hQ _ (by rw [zput_ne _ _ (by decide)]; exact hM2) (hf2.e.tr (zfe.put (Or.inr rfl))) | exact hQ _ (by rw [zput_ne _ _ (by decide)]; exact hM2) ((hf2.up (by decide) (by decide) : zfrm 246 250 _ _).e.tr (zfe.put (Or.inr rfl))) | exact hQ _ hM1 hf1.e | exact hQ _ hM zfe.rf))
      · rw [try_c hm he] at hQ
        dsimp only [Option.toList, List.cons_append, List.nil_append]
        refine zr_pop hC dX9_happens_38 rfl ?_
        refine zr_goto hC dX9_happens_39 (tgt := 135) (by decide) ?_
        exact zr_vreturn hC hE dX9_happens_135 (hr _ _ (by first | exact hQ _ (by rw [zput_ne _ _ (by decide)]; exact hM3) ((hf2.e.tr (hf3.up (by decide) (by decide) : zfrm 246 250 _ _).e).tr (zfe.put (Or.inr rfl))) | exact hQ _ (by rw [zput_ne _ _ (by decide)]; exact hM2) (hf2.e.tr (zfe.put (Or.inr rfl))) | exact hQ _ (by rw [zput_ne _ _ (by decide)]; exact hM2) ((hf2.up (by decide) (by decide) : zfrm 246 250 _ _).e.tr (zfe.put (Or.inr rfl))) | exact hQ _ hM1 hf1.e | exact hQ _ hM zfe.rf))
  · rw [h8]
    rw [h8] at hQ
    rw [show dr2 3 m D = if D 0 m ≠ 0 then tryL m D else tryC m D from rfl] at hQ
    refine zr_istore_n hC dX9_happens_12 (by decide) ?_
    refine zr_iload_n hC dX9_happens_13 rfl ?_
    refine zk_iconst hC dX9_happens_14 (v := nI 4) (by decide +kernel) ?_
    refine zr_icmp_ge hC dX9_happens_15 (tgt := 42) (by decide) (fun c => absurd c (by decide +kernel)) (fun c_15 => ?_)
    refine zr_aload_n hC dX9_happens_18 rfl ?_
    refine zr_aload_n hC dX9_happens_19 rfl ?_
    refine zr_iload_n hC dX9_happens_20 rfl ?_
    refine zs_callV hC (b := 245) [_] [_] dX9_happens_21 ml_X9_68 mtX9_sits tX9_sits (by decide) (by decide) (by decide) rfl rfl (by decide) (by decide +kernel) (Nat.le_of_ble_eq_true rfl) rfl ?_
    refine ⟨m, D, rfl, hm, hM, fun r e => ?_⟩
    rcases e with ⟨rfl, hx⟩ | ⟨rfl, hx⟩
    · rw [if_pos hx] at hQ
      dsimp only [Option.toList, List.cons_append, List.nil_append]
      refine zr_if_eq hC dX9_happens_24 (tgt := 34) (by decide) (fun c => absurd c (by decide +kernel)) (fun c_24 => ?_)
      refine zk_bipush hC dX9_happens_27 (v := nI 16) (by decide +kernel) ?_
      refine zr_iload_n hC dX9_happens_29 rfl ?_
      refine zn_iadd hC dX9_happens_30 (nI_add _ _) ?_
      refine zr_goto hC dX9_happens_31 (tgt := 35) (by decide) ?_
      refine zs_callV hC (b := 245) [_] [] dX9_happens_35 ml_X9_227 mtX9_does tX9_does (by decide) (by decide) (by decide) rfl rfl (by decide) (by decide +kernel) (Nat.le_of_ble_eq_true rfl) rfl ?_
      refine ⟨16 + m, D, rfl, by omega, hM, hI, fun he => ?_, fun D2 he S1 hM1 hf1 => ?_⟩
      · rw [try_ln hm he] at hQ
        dsimp only [Option.toList, List.cons_append, List.nil_append]
        refine zr_pop hC dX9_happens_38 rfl ?_
        refine zr_goto hC dX9_happens_39 (tgt := 135) (by decide) ?_
        exact zr_vreturn hC hE dX9_happens_135 (hr _ _ (by first | exact hQ _ (by rw [zput_ne _ _ (by decide)]; exact hM3) ((hf2.e.tr (hf3.up (by decide) (by decide) : zfrm 246 250 _ _).e).tr (zfe.put (Or.inr rfl))) | exact hQ _ (by rw [zput_ne _ _ (by decide)]; exact hM2) (hf2.e.tr (zfe.put (Or.inr rfl))) | exact hQ _ (by rw [zput_ne _ _ (by decide)]; exact hM2) ((hf2.up (by decide) (by decide) : zfrm 246 250 _ _).e.tr (zfe.put (Or.inr rfl))) | exact hQ _ hM1 hf1.e | exact hQ _ hM zfe.rf))
      · rw [try_l hm he] at hQ
        dsimp only [Option.toList, List.cons_append, List.nil_append]
        refine zr_pop hC dX9_happens_38 rfl ?_
        refine zr_goto hC dX9_happens_39 (tgt := 135) (by decide) ?_
        exact zr_vreturn hC hE dX9_happens_135 (hr _ _ (by first | exact hQ _ (by rw [zput_ne _ _ (by decide)]; exact hM3) ((hf2.e.tr (hf3.up (by decide) (by decide) : zfrm 246 250 _ _).e).tr (zfe.put (Or.inr rfl))) | exact hQ _ (by rw [zput_ne _ _ (by decide)]; exact hM2) (hf2.e.tr (zfe.put (Or.inr rfl))) | exact hQ _ (by rw [zput_ne _ _ (by decide)]; exact hM2) ((hf2.up (by decide) (by decide) : zfrm 246 250 _ _).e.tr (zfe.put (Or.inr rfl))) | exact hQ _ hM1 hf1.e | exact hQ _ hM zfe.rf))
    · rw [if_neg (not_not_intro hx)] at hQ
      dsimp only [Option.toList, List.cons_append, List.nil_append]
      refine zr_if_eq hC dX9_happens_24 (tgt := 34) (by decide) (fun c_24 => ?_) (fun c => absurd c (by decide +kernel))
      refine zr_iload_n hC dX9_happens_34 rfl ?_
      refine zs_callV hC (b := 245) [_] [] dX9_happens_35 ml_X9_227 mtX9_does tX9_does (by decide) (by decide) (by decide) rfl rfl (by decide) (by decide +kernel) (Nat.le_of_ble_eq_true rfl) rfl ?_
      refine ⟨m, D, rfl, by omega, hM, hI, fun he => ?_, fun D2 he S1 hM1 hf1 => ?_⟩
      · rw [try_cn hm he] at hQ
        dsimp only [Option.toList, List.cons_append, List.nil_append]
        refine zr_pop hC dX9_happens_38 rfl ?_
        refine zr_goto hC dX9_happens_39 (tgt := 135) (by decide) ?_
        exact zr_vreturn hC hE dX9_happens_135 (hr _ _ (by first | exact hQ _ (by rw [zput_ne _ _ (by decide)]; exact hM3) ((hf2.e.tr (hf3.up (by decide) (by decide) : zfrm 246 250 _ _).e).tr (zfe.put (Or.inr rfl))) | exact hQ _ (by rw [zput_ne _ _ (by decide)]; exact hM2) (hf2.e.tr (zfe.put (Or.inr rfl))) | exact hQ _ (by rw [zput_ne _ _ (by decide)]; exact hM2) ((hf2.up (by decide) (by decide) : zfrm 246 250 _ _).e.tr (zfe.put (Or.inr rfl))) | exact hQ _ hM1 hf1.e | exact hQ _ hM zfe.rf))
      · rw [try_c hm he] at hQ
        dsimp only [Option.toList, List.cons_append, List.nil_append]
        refine zr_pop hC dX9_happens_38 rfl ?_
        refine zr_goto hC dX9_happens_39 (tgt := 135) (by decide) ?_
        exact zr_vreturn hC hE dX9_happens_135 (hr _ _ (by first | exact hQ _ (by rw [zput_ne _ _ (by decide)]; exact hM3) ((hf2.e.tr (hf3.up (by decide) (by decide) : zfrm 246 250 _ _).e).tr (zfe.put (Or.inr rfl))) | exact hQ _ (by rw [zput_ne _ _ (by decide)]; exact hM2) (hf2.e.tr (zfe.put (Or.inr rfl))) | exact hQ _ (by rw [zput_ne _ _ (by decide)]; exact hM2) ((hf2.up (by decide) (by decide) : zfrm 246 250 _ _).e.tr (zfe.put (Or.inr rfl))) | exact hQ _ hM1 hf1.e | exact hQ _ hM zfe.rf))
  · rw [h8]
    rw [h8] at hQ
    rw [show dr2 4 m D = tryB D from rfl] at hQ
    refine zr_istore_n hC dX9_happens_12 (by decide) ?_
    refine zr_iload_n hC dX9_happens_13 rfl ?_
    refine zk_iconst hC dX9_happens_14 (v := nI 4) (by decide +kernel) ?_
    refine zr_icmp_ge hC dX9_happens_15 (tgt := 42) (by decide) (fun c_15 => ?_) (fun c => absurd c (by decide +kernel))
    refine zr_iload_n hC dX9_happens_42 rfl ?_
    refine zk_bipush hC dX9_happens_43 (v := nI 6) (by decide +kernel) ?_
    refine zr_icmp_ge hC dX9_happens_45 (tgt := 58) (by decide) (fun c => absurd c (by decide +kernel)) (fun c_45 => ?_)
    refine zr_aload_n hC dX9_happens_48 rfl ?_
    refine zk_bipush hC dX9_happens_49 (v := nI 32) (by decide +kernel) ?_
    refine zs_callV hC (b := 245) [_] [] dX9_happens_51 ml_X9_227 mtX9_does tX9_does (by decide) (by decide) (by decide) rfl rfl (by decide) (by decide +kernel) (Nat.le_of_ble_eq_true rfl) rfl ?_
    refine ⟨32, D, rfl, by omega, hM, hI, fun he => ?_, fun D2 he S1 hM1 hf1 => ?_⟩
    · rw [try_bn he] at hQ
      dsimp only [Option.toList, List.cons_append, List.nil_append]
      refine zr_pop hC dX9_happens_54 rfl ?_
      refine zr_goto hC dX9_happens_55 (tgt := 135) (by decide) ?_
      exact zr_vreturn hC hE dX9_happens_135 (hr _ _ (by first | exact hQ _ (by rw [zput_ne _ _ (by decide)]; exact hM3) ((hf2.e.tr (hf3.up (by decide) (by decide) : zfrm 246 250 _ _).e).tr (zfe.put (Or.inr rfl))) | exact hQ _ (by rw [zput_ne _ _ (by decide)]; exact hM2) (hf2.e.tr (zfe.put (Or.inr rfl))) | exact hQ _ (by rw [zput_ne _ _ (by decide)]; exact hM2) ((hf2.up (by decide) (by decide) : zfrm 246 250 _ _).e.tr (zfe.put (Or.inr rfl))) | exact hQ _ hM1 hf1.e | exact hQ _ hM zfe.rf))
    · rw [try_b he] at hQ
      dsimp only [Option.toList, List.cons_append, List.nil_append]
      refine zr_pop hC dX9_happens_54 rfl ?_
      refine zr_goto hC dX9_happens_55 (tgt := 135) (by decide) ?_
      exact zr_vreturn hC hE dX9_happens_135 (hr _ _ (by first | exact hQ _ (by rw [zput_ne _ _ (by decide)]; exact hM3) ((hf2.e.tr (hf3.up (by decide) (by decide) : zfrm 246 250 _ _).e).tr (zfe.put (Or.inr rfl))) | exact hQ _ (by rw [zput_ne _ _ (by decide)]; exact hM2) (hf2.e.tr (zfe.put (Or.inr rfl))) | exact hQ _ (by rw [zput_ne _ _ (by decide)]; exact hM2) ((hf2.up (by decide) (by decide) : zfrm 246 250 _ _).e.tr (zfe.put (Or.inr rfl))) | exact hQ _ hM1 hf1.e | exact hQ _ hM zfe.rf))
  · rw [h8]
    rw [h8] at hQ
    rw [show dr2 5 m D = tryB D from rfl] at hQ
    refine zr_istore_n hC dX9_happens_12 (by decide) ?_
    refine zr_iload_n hC dX9_happens_13 rfl ?_
    refine zk_iconst hC dX9_happens_14 (v := nI 4) (by decide +kernel) ?_
    refine zr_icmp_ge hC dX9_happens_15 (tgt := 42) (by decide) (fun c_15 => ?_) (fun c => absurd c (by decide +kernel))
    refine zr_iload_n hC dX9_happens_42 rfl ?_
    refine zk_bipush hC dX9_happens_43 (v := nI 6) (by decide +kernel) ?_
    refine zr_icmp_ge hC dX9_happens_45 (tgt := 58) (by decide) (fun c => absurd c (by decide +kernel)) (fun c_45 => ?_)
    refine zr_aload_n hC dX9_happens_48 rfl ?_
    refine zk_bipush hC dX9_happens_49 (v := nI 32) (by decide +kernel) ?_
    refine zs_callV hC (b := 245) [_] [] dX9_happens_51 ml_X9_227 mtX9_does tX9_does (by decide) (by decide) (by decide) rfl rfl (by decide) (by decide +kernel) (Nat.le_of_ble_eq_true rfl) rfl ?_
    refine ⟨32, D, rfl, by omega, hM, hI, fun he => ?_, fun D2 he S1 hM1 hf1 => ?_⟩
    · rw [try_bn he] at hQ
      dsimp only [Option.toList, List.cons_append, List.nil_append]
      refine zr_pop hC dX9_happens_54 rfl ?_
      refine zr_goto hC dX9_happens_55 (tgt := 135) (by decide) ?_
      exact zr_vreturn hC hE dX9_happens_135 (hr _ _ (by first | exact hQ _ (by rw [zput_ne _ _ (by decide)]; exact hM3) ((hf2.e.tr (hf3.up (by decide) (by decide) : zfrm 246 250 _ _).e).tr (zfe.put (Or.inr rfl))) | exact hQ _ (by rw [zput_ne _ _ (by decide)]; exact hM2) (hf2.e.tr (zfe.put (Or.inr rfl))) | exact hQ _ (by rw [zput_ne _ _ (by decide)]; exact hM2) ((hf2.up (by decide) (by decide) : zfrm 246 250 _ _).e.tr (zfe.put (Or.inr rfl))) | exact hQ _ hM1 hf1.e | exact hQ _ hM zfe.rf))
    · rw [try_b he] at hQ
      dsimp only [Option.toList, List.cons_append, List.nil_append]
      refine zr_pop hC dX9_happens_54 rfl ?_
      refine zr_goto hC dX9_happens_55 (tgt := 135) (by decide) ?_
      exact zr_vreturn hC hE dX9_happens_135 (hr _ _ (by first | exact hQ _ (by rw [zput_ne _ _ (by decide)]; exact hM3) ((hf2.e.tr (hf3.up (by decide) (by decide) : zfrm 246 250 _ _).e).tr (zfe.put (Or.inr rfl))) | exact hQ _ (by rw [zput_ne _ _ (by decide)]; exact hM2) (hf2.e.tr (zfe.put (Or.inr rfl))) | exact hQ _ (by rw [zput_ne _ _ (by decide)]; exact hM2) ((hf2.up (by decide) (by decide) : zfrm 246 250 _ _).e.tr (zfe.put (Or.inr rfl))) | exact hQ _ hM1 hf1.e | exact hQ _ hM zfe.rf))
  · rw [h8]
    rw [h8] at hQ
    rw [show dr2 6 m D = (if D 0 m ≠ 0 ∧ D 2 m ≠ 1 then dset D 2 m 1 else if D 2 m = 1 then rdm m (dset D 2 m 0) else D) from rfl] at hQ
    refine zr_istore_n hC dX9_happens_12 (by decide) ?_
    refine zr_iload_n hC dX9_happens_13 rfl ?_
    refine zk_iconst hC dX9_happens_14 (v := nI 4) (by decide +kernel) ?_
    refine zr_icmp_ge hC dX9_happens_15 (tgt := 42) (by decide) (fun c_15 => ?_) (fun c => absurd c (by decide +kernel))
    refine zr_iload_n hC dX9_happens_42 rfl ?_
    refine zk_bipush hC dX9_happens_43 (v := nI 6) (by decide +kernel) ?_
    refine zr_icmp_ge hC dX9_happens_45 (tgt := 58) (by decide) (fun c_45 => ?_) (fun c => absurd c (by decide +kernel))
    refine zr_iload_n hC dX9_happens_58 rfl ?_
    refine zk_bipush hC dX9_happens_59 (v := nI 6) (by decide +kernel) ?_
    refine zr_icmp_ne hC dX9_happens_61 (tgt := 112) (by decide) (fun c => absurd c (by decide +kernel)) (fun c_61 => ?_)
    refine zr_aload_n hC dX9_happens_64 rfl ?_
    refine zr_iload_n hC dX9_happens_65 rfl ?_
    refine zs_callV hC (b := 245) [_] [] dX9_happens_66 ml_X9_68 mtX9_sits tX9_sits (by decide) (by decide) (by decide) rfl rfl (by decide) (by decide +kernel) (Nat.le_of_ble_eq_true rfl) rfl ?_
    refine ⟨m, D, rfl, hm, hM, fun r e => ?_⟩
    rcases e with ⟨rfl, hx⟩ | ⟨rfl, hx⟩
    · dsimp only [Option.toList, List.cons_append, List.nil_append]
      refine zr_if_eq hC dX9_happens_69 (tgt := 112) (by decide) (fun c => absurd c (by decide +kernel)) (fun c_69 => ?_)
      refine zr_aload_n hC dX9_happens_72 rfl ?_
      refine zr_iload_n hC dX9_happens_73 rfl ?_
      refine zk_iconst hC dX9_happens_74 (v := nI 1) (by decide +kernel) ?_
      refine zs_callV hC (b := 245) [_, _] [] dX9_happens_75 ml_X9_64 mtX9_of tX9_of (by decide) (by decide) (by decide) rfl rfl (by decide) (by decide +kernel) (Nat.le_of_ble_eq_true rfl) rfl ?_
      refine ⟨m, 1, rfl, hm, by decide, ?_⟩
      rw [show S.1 246 (4 + 6 * m + 1) = nI (D 2 m) from MW.mem hM hm (by decide)]
      dsimp only [Option.toList, List.cons_append, List.nil_append]
      rcases hI.late hm with h2 | h2
      · rw [h2]
        rw [if_pos ⟨hx, by omega⟩] at hQ
        refine zr_istore hC dX9_happens_78 (by decide) ?_
        refine zr_aload_n hC dX9_happens_80 rfl ?_
        refine zr_iload_n hC dX9_happens_81 rfl ?_
        refine zk_iconst hC dX9_happens_82 (v := nI 1) (by decide +kernel) ?_
        refine zk_iconst hC dX9_happens_83 (v := nI 1) (by decide +kernel) ?_
        refine zr_iload hC dX9_happens_84 rfl ?_
        refine zn_isub hC dX9_happens_86 (v := nI 1) (by decide +kernel) ?_
        refine zs_callV hC (b := 245) [_, _, _] [] dX9_happens_87 ml_X9_104 mtX9_put tX9_put (by decide) (by decide) (by decide) rfl rfl (by decide) (by decide +kernel) (Nat.le_of_ble_eq_true rfl) rfl ?_
        refine ⟨m, 1, _, rfl, hm, by decide, ?_⟩
        have hM2 : MW ((zput S 246 (4 + 6 * m + 1) (nI 1)).1 246) (dset D 2 m 1) := by rw [zput_arr]; exact MW.put (w := 1) hM hm (by decide) ⟨fun q => absurd q (by decide), fun q => absurd q (by decide), fun _ => by decide⟩
        have hf2 : zfrm 246 250 S (zput S 246 (4 + 6 * m + 1) (nI 1)) := zfrm.rf.put (by decide) (by decide)
        generalize zput S 246 (4 + 6 * m + 1) (nI 1) = S2 at *
        dsimp only [Option.toList, List.nil_append]
        refine zr_aload_n hC dX9_happens_90 rfl ?_
        refine zr_iload hC dX9_happens_91 rfl ?_
        refine zk_iconst hC dX9_happens_93 (v := nI 1) (by decide +kernel) ?_
        refine zr_icmp_ne hC dX9_happens_94 (tgt := 105) (by decide) (fun c_94 => ?_) (fun c => absurd c (by decide +kernel))
        refine zk_iconst hC dX9_happens_105 (v := nI 0) (by decide +kernel) ?_
        refine zs_puti hC dX9_happens_106 fl_X9_221 fp_X9_8 (a := 245) rfl (by decide) ?_
        refine zr_goto hC dX9_happens_109 (tgt := 135) (by decide) ?_
        exact zr_vreturn hC hE dX9_happens_135 (hr _ _ (by first | exact hQ _ (by rw [zput_ne _ _ (by decide)]; exact hM3) ((hf2.e.tr (hf3.up (by decide) (by decide) : zfrm 246 250 _ _).e).tr (zfe.put (Or.inr rfl))) | exact hQ _ (by rw [zput_ne _ _ (by decide)]; exact hM2) (hf2.e.tr (zfe.put (Or.inr rfl))) | exact hQ _ (by rw [zput_ne _ _ (by decide)]; exact hM2) ((hf2.up (by decide) (by decide) : zfrm 246 250 _ _).e.tr (zfe.put (Or.inr rfl))) | exact hQ _ hM1 hf1.e | exact hQ _ hM zfe.rf))
      · rw [h2.1]
        rw [if_neg (fun q => q.2 h2.1), if_pos h2.1] at hQ
        refine zr_istore hC dX9_happens_78 (by decide) ?_
        refine zr_aload_n hC dX9_happens_80 rfl ?_
        refine zr_iload_n hC dX9_happens_81 rfl ?_
        refine zk_iconst hC dX9_happens_82 (v := nI 1) (by decide +kernel) ?_
        refine zk_iconst hC dX9_happens_83 (v := nI 1) (by decide +kernel) ?_
        refine zr_iload hC dX9_happens_84 rfl ?_
        refine zn_isub hC dX9_happens_86 (v := nI 0) (by decide +kernel) ?_
        refine zs_callV hC (b := 245) [_, _, _] [] dX9_happens_87 ml_X9_104 mtX9_put tX9_put (by decide) (by decide) (by decide) rfl rfl (by decide) (by decide +kernel) (Nat.le_of_ble_eq_true rfl) rfl ?_
        refine ⟨m, 1, _, rfl, hm, by decide, ?_⟩
        have hM2 : MW ((zput S 246 (4 + 6 * m + 1) (nI 0)).1 246) (dset D 2 m 0) := by rw [zput_arr]; exact MW.put (w := 1) hM hm (by decide) ⟨fun q => absurd q (by decide), fun q => absurd q (by decide), fun _ => by decide⟩
        have hf2 : zfrm 246 250 S (zput S 246 (4 + 6 * m + 1) (nI 0)) := zfrm.rf.put (by decide) (by decide)
        generalize zput S 246 (4 + 6 * m + 1) (nI 0) = S2 at *
        dsimp only [Option.toList, List.nil_append]
        refine zr_aload_n hC dX9_happens_90 rfl ?_
        refine zr_iload hC dX9_happens_91 rfl ?_
        refine zk_iconst hC dX9_happens_93 (v := nI 1) (by decide +kernel) ?_
        refine zr_icmp_ne hC dX9_happens_94 (tgt := 105) (by decide) (fun c => absurd c (by decide +kernel)) (fun c_94 => ?_)
        refine zr_aload_n hC dX9_happens_97 rfl ?_
        refine zr_iload_n hC dX9_happens_98 rfl ?_
        refine zs_callV hC (b := 245) [_] [_] dX9_happens_99 ml_X9_123 mtX9_reads tX9_reads (by decide) (by decide) (by decide) rfl rfl (by decide) (by decide +kernel) (Nat.le_of_ble_eq_true rfl) rfl ?_
        refine ⟨m, _, rfl, hm, hM2, (hI.wake (m := m)).rd, hI.read hm hx, fun S3 hM3 hf3 => ?_⟩
        dsimp only [Option.toList, List.cons_append, List.nil_append]
        refine zr_goto hC dX9_happens_102 (tgt := 106) (by decide) ?_
        refine zs_puti hC dX9_happens_106 fl_X9_221 fp_X9_8 (a := 245) rfl (by decide) ?_
        refine zr_goto hC dX9_happens_109 (tgt := 135) (by decide) ?_
        exact zr_vreturn hC hE dX9_happens_135 (hr _ _ (by first | exact hQ _ (by rw [zput_ne _ _ (by decide)]; exact hM3) ((hf2.e.tr (hf3.up (by decide) (by decide) : zfrm 246 250 _ _).e).tr (zfe.put (Or.inr rfl))) | exact hQ _ (by rw [zput_ne _ _ (by decide)]; exact hM2) (hf2.e.tr (zfe.put (Or.inr rfl))) | exact hQ _ (by rw [zput_ne _ _ (by decide)]; exact hM2) ((hf2.up (by decide) (by decide) : zfrm 246 250 _ _).e.tr (zfe.put (Or.inr rfl))) | exact hQ _ hM1 hf1.e | exact hQ _ hM zfe.rf))
    · have h2 : D 2 m = 0 := by have := hI.late hm; omega
      rw [if_neg (fun q => q.1 hx), if_neg (by omega)] at hQ
      dsimp only [Option.toList, List.cons_append, List.nil_append]
      refine zr_if_eq hC dX9_happens_69 (tgt := 112) (by decide) (fun c_69 => ?_) (fun c => absurd c (by decide +kernel))
      refine zr_iload_n hC dX9_happens_112 rfl ?_
      refine zk_bipush hC dX9_happens_113 (v := nI 7) (by decide +kernel) ?_
      refine zr_icmp_ne hC dX9_happens_115 (tgt := 135) (by decide) (fun c_115 => ?_) (fun c => absurd c (by decide +kernel))
      exact zr_vreturn hC hE dX9_happens_135 (hr _ _ (by first | exact hQ _ (by rw [zput_ne _ _ (by decide)]; exact hM3) ((hf2.e.tr (hf3.up (by decide) (by decide) : zfrm 246 250 _ _).e).tr (zfe.put (Or.inr rfl))) | exact hQ _ (by rw [zput_ne _ _ (by decide)]; exact hM2) (hf2.e.tr (zfe.put (Or.inr rfl))) | exact hQ _ (by rw [zput_ne _ _ (by decide)]; exact hM2) ((hf2.up (by decide) (by decide) : zfrm 246 250 _ _).e.tr (zfe.put (Or.inr rfl))) | exact hQ _ hM1 hf1.e | exact hQ _ hM zfe.rf))
  · rw [h8]
    rw [h8] at hQ
    rw [show dr2 7 m D = (if mrf D m = nI 0 then mnd m D else D) from rfl] at hQ
    refine zr_istore_n hC dX9_happens_12 (by decide) ?_
    refine zr_iload_n hC dX9_happens_13 rfl ?_
    refine zk_iconst hC dX9_happens_14 (v := nI 4) (by decide +kernel) ?_
    refine zr_icmp_ge hC dX9_happens_15 (tgt := 42) (by decide) (fun c_15 => ?_) (fun c => absurd c (by decide +kernel))
    refine zr_iload_n hC dX9_happens_42 rfl ?_
    refine zk_bipush hC dX9_happens_43 (v := nI 6) (by decide +kernel) ?_
    refine zr_icmp_ge hC dX9_happens_45 (tgt := 58) (by decide) (fun c_45 => ?_) (fun c => absurd c (by decide +kernel))
    refine zr_iload_n hC dX9_happens_58 rfl ?_
    refine zk_bipush hC dX9_happens_59 (v := nI 6) (by decide +kernel) ?_
    refine zr_icmp_ne hC dX9_happens_61 (tgt := 112) (by decide) (fun c_61 => ?_) (fun c => absurd c (by decide +kernel))
    refine zr_iload_n hC dX9_happens_112 rfl ?_
    refine zk_bipush hC dX9_happens_113 (v := nI 7) (by decide +kernel) ?_
    refine zr_icmp_ne hC dX9_happens_115 (tgt := 135) (by decide) (fun c => absurd c (by decide +kernel)) (fun c_115 => ?_)
    refine zr_aload_n hC dX9_happens_118 rfl ?_
    refine zr_iload_n hC dX9_happens_119 rfl ?_
    refine zs_callV hC (b := 245) [_] [] dX9_happens_120 ml_X9_160 mtX9_mendRefusal tX9_mendRefusal (by decide) (by decide) (by decide) rfl rfl (by decide) (by decide +kernel) (Nat.le_of_ble_eq_true rfl) rfl ?_
    refine ⟨m, D, rfl, hm, hM, hI, ?_⟩
    dsimp only [Option.toList, List.cons_append, List.nil_append]
    refine zr_if_ne hC dX9_happens_123 (tgt := 135) (by decide) (fun c_123 => ?_) (fun c_123 => ?_)
    · rw [if_neg (fun q => c_123 (q.trans nI_0))] at hQ
      exact zr_vreturn hC hE dX9_happens_135 (hr _ _ (by first | exact hQ _ (by rw [zput_ne _ _ (by decide)]; exact hM3) ((hf2.e.tr (hf3.up (by decide) (by decide) : zfrm 246 250 _ _).e).tr (zfe.put (Or.inr rfl))) | exact hQ _ (by rw [zput_ne _ _ (by decide)]; exact hM2) (hf2.e.tr (zfe.put (Or.inr rfl))) | exact hQ _ (by rw [zput_ne _ _ (by decide)]; exact hM2) ((hf2.up (by decide) (by decide) : zfrm 246 250 _ _).e.tr (zfe.put (Or.inr rfl))) | exact hQ _ hM1 hf1.e | exact hQ _ hM zfe.rf))
    · have hb : mrf D m = nI 0 := c_123.trans nI_0.symm
      rw [if_pos hb] at hQ
      refine zr_aload_n hC dX9_happens_126 rfl ?_
      refine zr_aload_n hC dX9_happens_127 rfl ?_
      refine zr_iload_n hC dX9_happens_128 rfl ?_
      refine zs_callV hC (b := 245) [_] [_] dX9_happens_129 ml_X9_163 mtX9_mends tX9_mends (by decide) (by decide) (by decide) rfl rfl (by decide) (by decide +kernel) (Nat.le_of_ble_eq_true rfl) rfl ?_
      refine ⟨m, D, rfl, hm, hM, hI, hb, fun S2 hM2 hf2 => ?_⟩
      dsimp only [Option.toList, List.cons_append, List.nil_append]
      refine zs_puti hC dX9_happens_132 fl_X9_221 fp_X9_8 (a := 245) rfl (by decide) ?_
      exact zr_vreturn hC hE dX9_happens_135 (hr _ _ (by first | exact hQ _ (by rw [zput_ne _ _ (by decide)]; exact hM3) ((hf2.e.tr (hf3.up (by decide) (by decide) : zfrm 246 250 _ _).e).tr (zfe.put (Or.inr rfl))) | exact hQ _ (by rw [zput_ne _ _ (by decide)]; exact hM2) (hf2.e.tr (zfe.put (Or.inr rfl))) | exact hQ _ (by rw [zput_ne _ _ (by decide)]; exact hM2) ((hf2.up (by decide) (by decide) : zfrm 246 250 _ _).e.tr (zfe.put (Or.inr rfl))) | exact hQ _ hM1 hf1.e | exact hQ _ hM zfe.rf))
theorem lI_mul {a b : Int64} {x y : Nat} (ha : a.toInt = x) (hb : b.toInt = y) (h : x * y < 9223372036854775808) : (a * b).toInt = (x * y : Nat) := by
  rw [Int64.toInt_mul, ha, hb]
  exact (Int.bmod_eq_of_le (by omega) (by omega)).trans (by push_cast; rfl)
theorem lI_add {a b : Int64} {x y : Nat} (ha : a.toInt = x) (hb : b.toInt = y) (h : x + y < 9223372036854775808) : (a + b).toInt = (x + y : Nat) := by
  rw [Int64.toInt_add, ha, hb]
  exact (Int.bmod_eq_of_le (by omega) (by omega)).trans (by push_cast; rfl)
theorem lI_sub {a b : Int64} {x y : Nat} (ha : a.toInt = x) (hb : b.toInt = y) (h : y ≤ x) (hx : x < 9223372036854775808) : (a - b).toInt = (x - y : Nat) := by
  rw [Int64.toInt_sub, ha, hb]
  exact (Int.bmod_eq_of_le (by omega) (by omega)).trans (by omega)
theorem lI_div {a b : Int64} {x y : Nat} (ha : a.toInt = x) (hb : b.toInt = y) (hx : x < 9223372036854775808) : (a / b).toInt = (x / y : Nat) := by
  rw [Int64.toInt_div, ha, hb, Int.tdiv_eq_ediv_of_nonneg (Int.natCast_nonneg x)]
  have h := Nat.div_le_self x y
  rw [show (x : Int) / (y : Int) = ((x / y : Nat) : Int) from (Int.natCast_ediv x y).symm]
  generalize x / y = q at h ⊢
  exact Int.bmod_eq_of_le (by omega) (by omega)
theorem lI_rem {a b : Int64} {x y : Nat} (ha : a.toInt = x) (hb : b.toInt = y) (hx : x < 9223372036854775808) : (a - a / b * b).toInt = (x % y : Nat) := by
  have h := Nat.div_mul_le_self x y
  rw [lI_sub ha (lI_mul (lI_div ha hb hx) hb (by omega)) h hx]
  have h2 := Nat.div_add_mod x y
  rw [Nat.mul_comm] at h2
  omega
theorem lI_i32 {a : Int64} {x : Nat} (ha : a.toInt = x) (hx : x < 2147483648) : a.toInt32 = nI x := by
  rw [← Int32.toInt_inj, nI_toInt hx, Int64.toInt_toInt32, ha]
  exact Int.bmod_eq_of_le (by omega) (by omega)
theorem z_lcg {x : Nat} (hx : x < 2147483648) : (((nI x).toInt64 * 1103515245 + 12345) - ((nI x).toInt64 * 1103515245 + 12345) / 2147483648 * 2147483648 : Int64).toInt = (drw x : Nat) := by
  have e1 : (nI x).toInt64.toInt = (x : Int) := by rw [z_i32, nI_toInt hx]
  exact lI_rem (y := 2147483648) (lI_add (y := 12345) (lI_mul (y := 1103515245) e1 (by decide) (by omega)) (by decide) (by omega)) (by decide) (by omega)
set_option maxHeartbeats 1000000 in
set_option maxRecDepth 100000 in
theorem l9_drift {C : zCx} {τ : Nat → ClassId} {ι : Nat → Nat} (hC : zOK C τ (zrm 7 0 0) yX9_drift.cls cX9_drift 5) {S0 : zS} {G : zG} {n : Nat} (hGI : GI G) (hn : n ≤ 40) (k : ∀ S lv, MG S (drt G n) → zfm S0 S → zlk 0 lv = some (.ref 245) → zR C τ ι 5 0 0 69 lv [] (zcells S)) : ∀ (d t : Nat) (S : zS), t + d = n → MG S (drt G t) → zfm S0 S → zR C τ ι 5 0 0 16 [(0, .ref 245), (1, .int (nI n)), (2, .int (nI t))] [] (zcells S) := by
  intro d
  induction d with
  | zero =>
    intro t S ht hMG hF
    refine zr_iload_n hC dX9_drift_16 rfl ?_
    refine zr_iload_n hC dX9_drift_17 rfl ?_
    refine zr_icmp_ge hC dX9_drift_18 (tgt := 69) (by decide) (fun c_18 => ?_) (fun c => absurd c (not_not_intro (nI_le (by omega) (by omega))))
    exact k S _ (by rw [show n = t by omega]; exact hMG) hF rfl
  | succ d ih =>
    intro t S ht hMG hF
    refine zr_iload_n hC dX9_drift_16 rfl ?_
    refine zr_iload_n hC dX9_drift_17 rfl ?_
    refine zr_icmp_ge hC dX9_drift_18 (tgt := 69) (by decide) (fun c => absurd c (nI_ge (by omega) (by omega))) (fun c_18 => ?_)
    refine zr_aload_n hC dX9_drift_21 rfl ?_
    refine zs_callV hC (b := 245) [] [] dX9_drift_22 ml_X9_101 mtX9_notes tX9_notes (by decide) (by decide) (by decide) rfl rfl (by decide) (by decide +kernel) (Nat.le_of_ble_eq_true rfl) rfl ?_
    refine keepM hMG (fun S1 hM1 hf1 _ _ => ?_)
    have hI1 := (drt_GI hGI t).1
    dsimp only [Option.toList, List.nil_append]
    refine zr_aload_n hC dX9_drift_25 rfl ?_
    refine zs_getr hC dX9_drift_26 fl_X9_7 (a := 245) (r := 246) rfl (by decide) ?_
    refine zk_iconst hC dX9_drift_29 (v := nI 3) (by decide +kernel) ?_
    refine zv_iald hC dX9_drift_30 (a := 246) (n := 752) rfl (by decide) (by decide) (j := 3) rfl (by decide) ((show S1.1 246 3 = nI ((drt G t).1 6 3) from hM1.1.1.1.2.2.2)) ?_
    refine zr_i2l hC dX9_drift_31 ?_
    refine zr_ldc2 hC dX9_drift_32 kl_X9_234 ?_
    refine zr_lmul hC dX9_drift_35 ?_
    refine zr_ldc2 hC dX9_drift_36 kl_X9_236 ?_
    refine zr_ladd hC dX9_drift_39 ?_
    refine zr_ldc2 hC dX9_drift_40 kl_X9_238 ?_
    refine zr_lrem hC dX9_drift_43 (by decide +kernel) ?_
    have hl := z_lcg hI1.draw
    obtain ⟨v, hv⟩ : ∃ v : Int64, v = ((nI ((drt G t).1 6 3)).toInt64 * 1103515245 + 12345) - ((nI ((drt G t).1 6 3)).toInt64 * 1103515245 + 12345) / 2147483648 * 2147483648 := ⟨_, rfl⟩
    rw [← hv] at hl ⊢
    refine zr_lstore_n hC dX9_drift_44 (by decide) ?_
    refine zr_aload_n hC dX9_drift_45 rfl ?_
    refine zs_getr hC dX9_drift_46 fl_X9_7 (a := 245) (r := 246) rfl (by decide) ?_
    refine zk_iconst hC dX9_drift_49 (v := nI 3) (by decide +kernel) ?_
    refine zr_lload_n hC dX9_drift_50 rfl ?_
    refine zr_l2i hC dX9_drift_51 ?_
    rw [lI_i32 hl (drw_lt _)]
    refine zs_iast hC dX9_drift_52 (a := 246) (n := 752) rfl (by decide) (by decide) (j := 3) rfl (by decide) ?_
    refine zr_aload_n hC dX9_drift_53 rfl ?_
    refine zr_lload_n hC dX9_drift_54 rfl ?_
    refine zr_ldc2 hC dX9_drift_55 kl_X9_240 ?_
    refine zr_ldiv hC dX9_drift_58 (by decide +kernel) ?_
    refine zr_l2i hC dX9_drift_59 ?_
    refine zs_callV hC (b := 245) [_] [] dX9_drift_60 ml_X9_242 mtX9_happens tX9_happens (by decide) (by decide) (by decide) rfl rfl (by decide) (by decide +kernel) (Nat.le_of_ble_eq_true rfl) rfl ?_
    rw [lI_i32 (lI_div (y := 65536) hl (by decide) (Nat.lt_trans (drw_lt _) (by decide))) (Nat.lt_of_le_of_lt (Nat.div_le_self _ _) (drw_lt _))]
    have hf2 : zfrm 246 250 S1 (zput S1 246 3 (nI (drw ((drt G t).1 6 3)))) := zfrm.rf.put (by decide) (by decide)
    have hM2 : MW ((zput S1 246 3 (nI (drw ((drt G t).1 6 3)))).1 246) (dset (drt G t).1 6 3 (drw ((drt G t).1 6 3))) := by rw [zput_arr]; exact MW.set6 hM1.1 (Or.inr rfl) (fun q => absurd q (by decide))
    refine ⟨_, _, rfl, Nat.lt_of_le_of_lt (Nat.div_le_self _ _) (drw_lt _), hM2, hI1.draw1 (drw_lt _), fun S3 hM3 hf3 => ?_⟩
    dsimp only [Option.toList, List.nil_append]
    refine zn_iinc hC dX9_drift_63 rfl (by decide) (zk_inc _ 1) ?_
    refine zr_goto hC dX9_drift_66 (tgt := 16) (by decide) ?_
    exact zR_sub [(0, .ref 245), (1, .int (nI n)), (2, .int (nI (t + 1)))] ⟨rfl, rfl, rfl, trivial⟩ (ih (t + 1) S3 (by omega) (hM1.fe (D := dr1 (drt G t).1) hM3 (hf2.e.tr hf3)) ((hF.tr hf1).tr ((hf2.e.tr hf3).m)))
def spX9_drift : zSp := fun av S Q => ∃ (G : zG) (x : Int32), av = [.ref 245, .int x] ∧ MG S G ∧ GI G ∧ ∀ S', MG S' (fDrift x G).2 → zfm S S' → Q (some (.int (fDrift x G).1)) S'
set_option maxHeartbeats 1000000 in
set_option maxRecDepth 100000 in
theorem tX9_drift : zM yX9_drift cX9_drift 5 (some .int) 7 spX9_drift := by
  refine zM.of (by decide) (by decide) (fun av S Q h => by obtain ⟨G, x, rfl, hMG, hGI, hQ⟩ := h; exact Nat.le_of_ble_eq_true rfl) (fun C τ ι av S Q Qr h hr hC hE => ?_)
  obtain ⟨G, x, rfl, hMG, hGI, hQ⟩ := h
  show zR C τ ι _ 0 0 0 [(0, .ref 245), (1, .int x)] [] _
  refine zr_iload_n hC dX9_drift_0 rfl ?_
  refine zr_i2l hC dX9_drift_1 ?_
  refine zr_lconst hC dX9_drift_2 ?_
  refine zr_ldc2 hC dX9_drift_3 kl_X9_155 ?_
  refine zs_callS hC [_, _, _] [] dX9_drift_6 ml_X9_60 mtX9_in tX9_in (by decide) (by decide) (by decide) rfl (Nat.le_of_ble_eq_true rfl) rfl ?_
  refine ⟨_, _, _, rfl, fun r e => ?_⟩
  obtain ⟨w1, w2⟩ := z_one (x := x) (lo := nI 1) (hi := nI 40) rfl (show Int64.ofNat 1 = _ by decide +kernel) (show (40 : Int64) = _ by decide +kernel)
  have e : (r = nI 1 ∧ ¬ x < nI 1 ∧ ¬ nI 40 < x) ∨ (r = nI 0 ∧ (x < nI 1 ∨ nI 40 < x)) := by
    rcases e with ⟨e, e1, e2⟩ | ⟨e, e1⟩
    · exact Or.inl ⟨e, fun q => e1 (w1.mpr q), fun q => e2 (w2.mpr q)⟩
    · exact Or.inr ⟨e, e1.imp w1.mp w2.mp⟩
  rcases e with ⟨rfl, e1, e2⟩ | ⟨rfl, e1⟩
  · obtain ⟨n, n1, n2, rfl⟩ := rg_in e1 e2 (by decide) (by decide)
    simp only [fDrift, rg_yes n1 n2 (show 40 < 2147483648 by decide)] at hQ
    dsimp only [Option.toList, List.cons_append, List.nil_append]
    refine zr_if_ne hC dX9_drift_9 (tgt := 14) (by decide) (fun c_9 => ?_) (fun c => absurd c (by decide +kernel))
    refine zk_iconst hC dX9_drift_14 (v := nI 0) (by decide +kernel) ?_
    refine zr_istore_n hC dX9_drift_15 (by decide) ?_
    refine zR_sub [(0, .ref 245), (1, .int (nI n)), (2, .int (nI 0))] ⟨rfl, rfl, rfl, trivial⟩ (l9_drift hC hGI n2 (fun S1 lv hM1 hf1 h0 => ?_) n 0 S (by omega) hMG zfm.rf)
    refine zR_sub [(0, .ref 245)] ⟨h0, trivial⟩ ?_
    refine zr_aload_n hC dX9_drift_69 rfl ?_
    refine zk_iconst hC dX9_drift_70 (v := nI 0) (by decide +kernel) ?_
    refine zk_iconst hC dX9_drift_71 (v := nI 0) (by decide +kernel) ?_
    refine zs_callV hC (b := 245) [_, _] [] dX9_drift_72 ml_X9_108 mtX9_those tX9_those (by decide) (by decide) (by decide) rfl rfl (by decide) (by decide +kernel) (Nat.le_of_ble_eq_true rfl) rfl ?_
    refine ⟨0, 0, (drt G n).1, rfl, Or.inl rfl, by decide, hM1.1, ?_⟩
    rw [(drt_GI hGI n).1.sits1]
    dsimp only [Option.toList, List.cons_append, List.nil_append]
    exact zr_ireturn hC hE dX9_drift_75 (hr _ _ (hQ _ hM1 hf1))
  · simp only [fDrift, rg_no e1] at hQ
    dsimp only [Option.toList, List.cons_append, List.nil_append]
    refine zr_if_ne hC dX9_drift_9 (tgt := 14) (by decide) (fun c => absurd c (by decide +kernel)) (fun c_9 => ?_)
    refine zk_iconst hC dX9_drift_12 (v := (-1)) (by decide +kernel) ?_
    exact zr_ireturn hC hE dX9_drift_13 (hr _ _ (hQ _ hMG zfm.rf))
