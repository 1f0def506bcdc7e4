/-! THE CALLS OF THE CLASS: texts and drifts -/
theorem nI_ne1 {k : Nat} (h : k < 2147483648) : ¬ nI k = -1 := fun e => by
  have h2 : ¬ nI k < 0 := nI_pos h
  rw [e] at h2
  exact absurd (by decide) h2
theorem fig_lt {c f : Nat} (h : fig c = some f) : f < 16 := by
  unfold fig at h
  split at h
  · cases h; omega
  · split at h
    · cases h; omega
    · cases h
theorem tryC_inv {D : zD} (h : INV D) {m : Nat} (h0 : D 0 m = 0) : INV (dset D 1 m 1) := h.come h0
theorem ev1_inv {c : Nat} {cm : Bool} {D D' : zD} (h : INV D) (he : ev1 c cm D = some D') : INV D' := by
  unfold ev1 at he
  split at he
  · split at he
    next hb => rw [← Option.some.inj he]; exact h.btc hb
    next => cases he
  · split at he
    · cases he
    next m hm =>
      split at he
      · split at he
        next hb => rw [← Option.some.inj he]; exact h.come hb.1
        next => cases he
      · split at he
        next hb => rw [← Option.some.inj he]; exact h.leave hb.1
        next => cases he
def spX8_doEvent : zSp := fun av S Q => ∃ (cc : Nat) (cm : Bool) (D : zD), av = [.ref 0, .int (nI cc), .int (zb cm)] ∧ cc < 127 ∧ CR S D ∧ INV D ∧ (ev1 cc cm D = none → Q (some (.int (nI 0))) S) ∧ (∀ D', ev1 cc cm D = some D' → ∀ S', CR S' D' → zfrm 1 17 S S' → Q (some (.int (nI 1))) S')
theorem z_ev (c : Nat) : c = 43 ∨ c = 45 ∨ c = 32 ∨ (c ≠ 43 ∧ c ≠ 45 ∧ c ≠ 32) := by omega
def spX8_doEvents : zSp := fun av S Q => ∃ (D : zD) (tp : Nat → Nat) (tn : Nat), av = [.ref 0] ∧ CR S D ∧ INV D ∧ TR S tp tn ∧ ∀ S', CR S' (evd tp tn tn D 0 false).1 → INV (evd tp tn tn D 0 false).1 → zfrm 1 17 S S' → Q (some (.int (nI (evd tp tn tn D 0 false).2))) S'
theorem TR.zero {S : zS} {tp : Nat → Nat} : TR (zput S 229 1 (nI 0)) tp 0 := ⟨zput_at _ _ _ _, by decide, fun i hi => absurd hi (Nat.not_lt_zero i)⟩
theorem flt_le {tp : Nat → Nat} {tn : Nat} : ∀ d aw p, flt tp tn d aw = some p → p ≤ tn
  | 0, aw, p, h => by
    unfold flt at h
    split at h
    · cases h; exact Nat.le_refl _
    · cases h
  | d + 1, aw, p, h => by
    unfold flt at h
    split at h
    · cases h; omega
    · exact flt_le d _ p h
def spX8_read : zSp := fun av S Q => ∃ (G : zG), av = [.ref 0] ∧ CG S G ∧ GI G ∧ ∀ S', CG S' (fRead G).2 → zfc S S' → Q (some (.int (fRead G).1)) S'
theorem drw_lt (x : Nat) : drw x < 2147483648 := Nat.mod_lt _ (by decide)
theorem z_draw (x : Nat) : nI (x * 1103515245 + 12345) &&& 2147483647 = nI (drw x) := by
  rw [show (2147483647 : Int32) = nI (2 ^ 31 - 1) by decide +kernel, fa_mask]
  rfl
theorem z_ushr16 {n : Nat} (h : n < 2147483648) : ((nI n).toUInt32 >>> ((nI 16).toUInt32 &&& Int32.toUInt32 31)).toInt32 = nI (n / 65536) := pk_ushrN (by omega) (nI 16) 16 (by decide)
theorem CR.draw {S : zS} {D : zD} (h : CR S D) (x : Nat) : CR (zput S 1 7 (nI x)) (dset D 6 3 x) := by
  obtain ⟨h1, h2, h3, h4, h5, h6, h7⟩ := h
  have f : ∀ f, f ≠ 6 → dset D 6 3 x f = D f := fun f hf => dset_ff _ _ _ hf
  have g : ∀ k, k ≠ 3 → dset D 6 3 x 6 k = D 6 k := fun k hk => dset_k _ _ _ hk
  refine ⟨?_, ?_, ?_, ?_, ?_, ?_, ?_⟩
  · rw [f 0 (by decide)]; exact h1.kept (zput_ne _ _ (by decide)) (zput_ne _ _ (by decide))
  · unfold KR; rw [g 0 (by decide), f 7 (by decide), f 8 (by decide), f 9 (by decide), zput_ne _ _ (by decide), zput_ne _ _ (by decide), zput_ne _ _ (by decide), zput_ne _ _ (by decide)]; exact h2
  · intro v a b
    rw [f 0 (by decide), kof_cong (f 7 (by decide)) (g 0 (by decide)), zput_ne _ _ (by decide)]; exact h3 v a b
  · unfold LR; rw [g 1 (by decide), f 10 (by decide), f 11 (by decide), f 12 (by decide), zput_ne _ _ (by decide), zput_ne _ _ (by decide), zput_ne _ _ (by decide), zput_ne _ _ (by decide)]; exact h4
  · unfold MRs cms lvs sls; rw [f 1 (by decide), f 2 (by decide), zput_k _ _ (by decide), zput_k _ _ (by decide), zput_k _ _ (by decide)]; exact h5
  · unfold QR; rw [g 2 (by decide), dset_at, zput_k _ _ (by decide), zput_at]; exact ⟨h6.1, rfl⟩
  · unfold AR; rw [f 0 (by decide), f 3 (by decide), f 4 (by decide), f 5 (by decide), zput_ne _ _ (by decide), zput_ne _ _ (by decide), zput_ne _ _ (by decide)]; exact h7
theorem tryB_inv {D : zD} (h : INV D) : INV (tryB D) := by
  unfold tryB; split
  next hb => exact h.btc hb
  next => exact h
theorem dr2_inv {x m : Nat} {D : zD} (h : INV D) (hm : m < 16) : INV (dr2 x m D) := by
  unfold dr2
  split
  · exact tryB_inv h
  · split
    · split
      next hb => exact h.sleep hb.1
      next => split
              next hb => exact (h.wake).rdm hm
              next => exact h
    · split
      · split
        next hb => exact h.mnd hm hb
        next => exact h
      · split
        next h0 =>
          unfold tryL; split
          next hb => exact h.leave hb.1
          next => exact h
        next h0 =>
          unfold tryC; split
          next hb => exact h.come hb.1
          next => exact h
theorem dr1_inv {D : zD} (h : INV D) : INV (dr1 D) := dr2_inv (h.draw1 (drw_lt _)) (Nat.mod_lt _ (by decide))
theorem drt_GI {G : zG} (h : GI G) : ∀ n, GI (drt G n)
  | 0 => h
  | n + 1 => (drt_GI h n).kp.set (dr1_inv (drt_GI h n).1)
def spX8_driftOnce : zSp := fun av S Q => ∃ D : zD, av = [.ref 0] ∧ CR S D ∧ INV D ∧ ∀ S', CR S' (dr1 D) → zfrm 1 17 S S' → Q none S'
set_option maxHeartbeats 4000000 in
set_option maxRecDepth 100000 in
theorem tX8_driftOnce : zM yX8_driftOnce cX8_driftOnce 3 none 7 spX8_driftOnce := by
  refine zM.of (by decide) (by decide) (fun av S Q h => by obtain ⟨D, rfl, hCR, hI, hQ⟩ := h; exact Nat.le_of_ble_eq_true rfl) (fun C τ ι av S Q Qr h hr hC hE => ?_)
  obtain ⟨D, rfl, hCR, hI, hQ⟩ := h
  show zR C τ ι _ 0 0 0 [(0, .ref 0)] [] _
  refine zr_aload_n hC dX8_driftOnce_0 rfl ?_
  refine zs_getr hC dX8_driftOnce_1 fl_X8_12 (a := 0) (r := 1) rfl (by decide) ?_
  refine zr_aload_n hC dX8_driftOnce_4 rfl ?_
  refine zs_getr hC dX8_driftOnce_5 fl_X8_12 (a := 0) (r := 1) rfl (by decide) ?_
  refine zv_geti hC dX8_driftOnce_8 fl_X8_254 (a := 1) rfl (by decide) (hCR.qr.2) ?_
  refine zr_ldcw hC dX8_driftOnce_11 kc_X8_332 ?_
  refine zn_imul hC dX8_driftOnce_14 (show nI _ * nI 1103515245 = _ from pk_mul _ _) ?_
  refine zk_sipush hC dX8_driftOnce_15 (v := nI 12345) (by decide +kernel) ?_
  refine zn_iadd hC dX8_driftOnce_18 (nI_add _ _) ?_
  refine zr_ldcw hC dX8_driftOnce_19 kc_X8_333 ?_
  refine zn_iand hC dX8_driftOnce_22 (z_draw _) ?_
  refine zs_puti hC dX8_driftOnce_23 fl_X8_254 fp_X0_7 (a := 1) rfl (by decide) ?_
  refine zr_aload_n hC dX8_driftOnce_26 rfl ?_
  refine zs_getr hC dX8_driftOnce_27 fl_X8_12 (a := 0) (r := 1) rfl (by decide) ?_
  refine zv_geti hC dX8_driftOnce_30 fl_X8_254 (a := 1) rfl (by decide) (zput_at _ _ _ _) ?_
  refine zk_bipush hC dX8_driftOnce_33 (v := nI 16) (by decide +kernel) ?_
  refine zn_iushr hC dX8_driftOnce_35 (z_ushr16 (drw_lt _)) ?_
  refine zr_istore_n hC dX8_driftOnce_36 (by decide) ?_
  refine zr_iload_n hC dX8_driftOnce_37 rfl ?_
  refine zk_bipush hC dX8_driftOnce_38 (v := nI 16) (by decide +kernel) ?_
  refine zn_idiv hC dX8_driftOnce_40 (by decide +kernel) (pk_div (Nat.lt_of_le_of_lt (Nat.div_le_self _ _) (drw_lt _)) (by decide) (by decide)) ?_
  refine zk_bipush hC dX8_driftOnce_41 (v := nI 16) (by decide +kernel) ?_
  refine zn_irem hC dX8_driftOnce_43 (by decide +kernel) (z_rem (Nat.lt_of_le_of_lt (Nat.div_le_self _ _) (Nat.lt_of_le_of_lt (Nat.div_le_self _ _) (drw_lt _))) (by decide) (by decide)) ?_
  refine zr_istore_n hC dX8_driftOnce_44 (by decide) ?_
  have hC1 := hCR.draw (drw (D 6 3))
  have hI1 := hI.draw1 (drw_lt (D 6 3))
  have hf0 : zfrm 1 17 S (zput S 1 7 (nI (drw (D 6 3)))) := zfrm.rf.put (by decide) (by decide)
  have hdw := drw_lt (D 6 3)
  have hm : drw (D 6 3) / 65536 / 16 % 16 < 16 := Nat.mod_lt _ (by decide)
  have hx8 : drw (D 6 3) / 65536 % 8 < 8 := Nat.mod_lt _ (by decide)
  unfold dr1 at hQ
  generalize drw (D 6 3) / 65536 / 16 % 16 = m at *
  generalize zput S 1 7 (nI (drw (D 6 3))) = S1 at *
  generalize dset D 6 3 (drw (D 6 3)) = E at *
  have hq : drw (D 6 3) / 65536 < 2147483648 := Nat.lt_of_le_of_lt (Nat.div_le_self _ _) hdw
  generalize drw (D 6 3) / 65536 = q at *
  rcases (by omega : q % 8 = 0 ∨ q % 8 = 1 ∨ q % 8 = 2 ∨ q % 8 = 3 ∨ q % 8 = 4 ∨ q % 8 = 5 ∨ q % 8 = 6 ∨ q % 8 = 7) with h8 | h8 | h8 | h8 | h8 | h8 | h8 | h8
  · refine zr_iload_n hC dX8_driftOnce_45 rfl ?_
    refine zk_bipush hC dX8_driftOnce_46 (v := nI 8) (by decide +kernel) ?_
    refine zn_irem hC dX8_driftOnce_48 (by decide +kernel) ((z_rem (by omega) (by decide) (by decide)).trans (congrArg nI h8)) ?_
    refine zr_tableOut hC dX8_driftOnce_49 (tgt := 160) (by decide +kernel) (by decide) ?_
    rw [h8] at hQ
    rw [show dr2 0 m E = if E 0 m ≠ 0 then tryL m E else tryC m E from rfl] at hQ
    refine zr_aload_n hC dX8_driftOnce_160 rfl ?_
    refine zs_getr hC dX8_driftOnce_161 fl_X8_12 (a := 0) (r := 1) rfl (by decide) ?_
    refine zs_getr hC dX8_driftOnce_164 fl_X8_132 (a := 1) (r := 2) rfl (by decide) ?_
    refine zr_iload_n hC dX8_driftOnce_167 rfl ?_
    refine zs_callV hC (b := 2) [_] [] dX8_driftOnce_168 ml_X8_135 mtX5_sits tX5_sits (by decide) (by decide) (by decide) rfl rfl (by decide) (by decide +kernel) (Nat.le_of_ble_eq_true rfl) rfl ?_
    refine ⟨2, m, rfl, Or.inl rfl, hm, fun r e => ?_⟩
    rcases e with ⟨rfl, hx⟩ | ⟨rfl, hx⟩
    · have hx : E 0 m ≠ 0 := fun q => hx ((hC1.sr.at0 hm).mpr q)
      rw [if_pos hx] at hQ
      dsimp only [Option.toList, List.cons_append, List.nil_append]
      refine zr_if_eq hC dX8_driftOnce_171 (tgt := 186) (by decide) (fun c => absurd c (by decide +kernel)) (fun c_171 => ?_)
      refine zr_aload_n hC dX8_driftOnce_174 rfl ?_
      refine zs_getr hC dX8_driftOnce_175 fl_X8_12 (a := 0) (r := 1) rfl (by decide) ?_
      refine zr_iload_n hC dX8_driftOnce_178 rfl ?_
      refine zs_callV hC (b := 1) [_] [] dX8_driftOnce_179 ml_X8_329 mtX0_tryLeave tX0_tryLeave (by decide) (by decide) (by decide) rfl rfl (by decide) (by decide +kernel) (Nat.le_of_ble_eq_true rfl) rfl ?_
      refine ⟨m, E, rfl, hm, hC1, hI1.told hm, fun hb => ?_, fun hb S2 h1 h2 => ?_⟩
      · rw [show tryL m E = E from if_neg hb] at hQ
        dsimp only [Option.toList, List.cons_append, List.nil_append]
        refine zr_pop hC dX8_driftOnce_182 rfl ?_
        refine zr_goto hC dX8_driftOnce_183 (tgt := 195) (by decide) ?_
        exact zr_vreturn hC hE dX8_driftOnce_195 (hr _ _ (by first | exact hQ _ h1 (hf0.tr h2) | exact hQ _ hC1 hf0))
      · rw [show tryL m E = _ from if_pos hb] at hQ
        dsimp only [Option.toList, List.cons_append, List.nil_append]
        refine zr_pop hC dX8_driftOnce_182 rfl ?_
        refine zr_goto hC dX8_driftOnce_183 (tgt := 195) (by decide) ?_
        exact zr_vreturn hC hE dX8_driftOnce_195 (hr _ _ (by first | exact hQ _ h1 (hf0.tr h2) | exact hQ _ hC1 hf0))
    · have hx : E 0 m = 0 := (hC1.sr.at0 hm).mp hx
      rw [if_neg (not_not_intro hx)] at hQ
      dsimp only [Option.toList, List.cons_append, List.nil_append]
      refine zr_if_eq hC dX8_driftOnce_171 (tgt := 186) (by decide) (fun c_171 => ?_) (fun c => absurd c (by decide +kernel))
      refine zr_aload_n hC dX8_driftOnce_186 rfl ?_
      refine zs_getr hC dX8_driftOnce_187 fl_X8_12 (a := 0) (r := 1) rfl (by decide) ?_
      refine zr_iload_n hC dX8_driftOnce_190 rfl ?_
      refine zs_callV hC (b := 1) [_] [] dX8_driftOnce_191 ml_X8_326 mtX0_tryCome tX0_tryCome (by decide) (by decide) (by decide) rfl rfl (by decide) (by decide +kernel) (Nat.le_of_ble_eq_true rfl) rfl ?_
      refine ⟨m, E, rfl, hm, hC1, hI1.told hm, fun hb => ?_, fun hb S2 h1 h2 => ?_⟩
      · rw [show tryC m E = E from if_neg hb] at hQ
        dsimp only [Option.toList, List.cons_append, List.nil_append]
        refine zr_pop hC dX8_driftOnce_194 rfl ?_
        exact zr_vreturn hC hE dX8_driftOnce_195 (hr _ _ (by first | exact hQ _ h1 (hf0.tr h2) | exact hQ _ hC1 hf0))
      · rw [show tryC m E = _ from if_pos hb] at hQ
        dsimp only [Option.toList, List.cons_append, List.nil_append]
        refine zr_pop hC dX8_driftOnce_194 rfl ?_
        exact zr_vreturn hC hE dX8_driftOnce_195 (hr _ _ (by first | exact hQ _ h1 (hf0.tr h2) | exact hQ _ hC1 hf0))
  · refine zr_iload_n hC dX8_driftOnce_45 rfl ?_
    refine zk_bipush hC dX8_driftOnce_46 (v := nI 8) (by decide +kernel) ?_
    refine zn_irem hC dX8_driftOnce_48 (by decide +kernel) ((z_rem (by omega) (by decide) (by decide)).trans (congrArg nI h8)) ?_
    refine zr_tableOut hC dX8_driftOnce_49 (tgt := 160) (by decide +kernel) (by decide) ?_
    rw [h8] at hQ
    rw [show dr2 1 m E = if E 0 m ≠ 0 then tryL m E else tryC m E from rfl] at hQ
    refine zr_aload_n hC dX8_driftOnce_160 rfl ?_
    refine zs_getr hC dX8_driftOnce_161 fl_X8_12 (a := 0) (r := 1) rfl (by decide) ?_
    refine zs_getr hC dX8_driftOnce_164 fl_X8_132 (a := 1) (r := 2) rfl (by decide) ?_
    refine zr_iload_n hC dX8_driftOnce_167 rfl ?_
    refine zs_callV hC (b := 2) [_] [] dX8_driftOnce_168 ml_X8_135 mtX5_sits tX5_sits (by decide) (by decide) (by decide) rfl rfl (by decide) (by decide +kernel) (Nat.le_of_ble_eq_true rfl) rfl ?_
    refine ⟨2, m, rfl, Or.inl rfl, hm, fun r e => ?_⟩
    rcases e with ⟨rfl, hx⟩ | ⟨rfl, hx⟩
    · have hx : E 0 m ≠ 0 := fun q => hx ((hC1.sr.at0 hm).mpr q)
      rw [if_pos hx] at hQ
      dsimp only [Option.toList, List.cons_append, List.nil_append]
      refine zr_if_eq hC dX8_driftOnce_171 (tgt := 186) (by decide) (fun c => absurd c (by decide +kernel)) (fun c_171 => ?_)
      refine zr_aload_n hC dX8_driftOnce_174 rfl ?_
      refine zs_getr hC dX8_driftOnce_175 fl_X8_12 (a := 0) (r := 1) rfl (by decide) ?_
      refine zr_iload_n hC dX8_driftOnce_178 rfl ?_
      refine zs_callV hC (b := 1) [_] [] dX8_driftOnce_179 ml_X8_329 mtX0_tryLeave tX0_tryLeave (by decide) (by decide) (by decide) rfl rfl (by decide) (by decide +kernel) (Nat.le_of_ble_eq_true rfl) rfl ?_
      refine ⟨m, E, rfl, hm, hC1, hI1.told hm, fun hb => ?_, fun hb S2 h1 h2 => ?_⟩
      · rw [show tryL m E = E from if_neg hb] at hQ
        dsimp only [Option.toList, List.cons_append, List.nil_append]
        refine zr_pop hC dX8_driftOnce_182 rfl ?_
        refine zr_goto hC dX8_driftOnce_183 (tgt := 195) (by decide) ?_
        exact zr_vreturn hC hE dX8_driftOnce_195 (hr _ _ (by first | exact hQ _ h1 (hf0.tr h2) | exact hQ _ hC1 hf0))
      · rw [show tryL m E = _ from if_pos hb] at hQ
        dsimp only [Option.toList, List.cons_append, List.nil_append]
        refine zr_pop hC dX8_driftOnce_182 rfl ?_
        refine zr_goto hC dX8_driftOnce_183 (tgt := 195) (by decide) ?_
        exact zr_vreturn hC hE dX8_driftOnce_195 (hr _ _ (by first | exact hQ _ h1 (hf0.tr h2) | exact hQ _ hC1 hf0))
    · have hx : E 0 m = 0 := (hC1.sr.at0 hm).mp hx
      rw [if_neg (not_not_intro hx)] at hQ
      dsimp only [Option.toList, List.cons_append, List.nil_append]
      refine zr_if_eq hC dX8_driftOnce_171 (tgt := 186) (by decide) (fun c_171 => ?_) (fun c => absurd c (by decide +kernel))
      refine zr_aload_n hC dX8_driftOnce_186 rfl ?_
      refine zs_getr hC dX8_driftOnce_187 fl_X8_12 (a := 0) (r := 1) rfl (by decide) ?_
      refine zr_iload_n hC dX8_driftOnce_190 rfl ?_
      refine zs_callV hC (b := 1) [_] [] dX8_driftOnce_191 ml_X8_326 mtX0_tryCome tX0_tryCome (by decide) (by decide) (by decide) rfl rfl (by decide) (by decide +kernel) (Nat.le_of_ble_eq_true rfl) rfl ?_
      refine ⟨m, E, rfl, hm, hC1, hI1.told hm, fun hb => ?_, fun hb S2 h1 h2 => ?_⟩
      · rw [show tryC m E = E from if_neg hb] at hQ
        dsimp only [Option.toList, List.cons_append, List.nil_append]
        refine zr_pop hC dX8_driftOnce_194 rfl ?_
        exact zr_vreturn hC hE dX8_driftOnce_195 (hr _ _ (by first | exact hQ _ h1 (hf0.tr h2) | exact hQ _ hC1 hf0))
      · rw [show tryC m E = _ from if_pos hb] at hQ
        dsimp only [Option.toList, List.cons_append, List.nil_append]
        refine zr_pop hC dX8_driftOnce_194 rfl ?_
        exact zr_vreturn hC hE dX8_driftOnce_195 (hr _ _ (by first | exact hQ _ h1 (hf0.tr h2) | exact hQ _ hC1 hf0))
  · refine zr_iload_n hC dX8_driftOnce_45 rfl ?_
    refine zk_bipush hC dX8_driftOnce_46 (v := nI 8) (by decide +kernel) ?_
    refine zn_irem hC dX8_driftOnce_48 (by decide +kernel) ((z_rem (by omega) (by decide) (by decide)).trans (congrArg nI h8)) ?_
    refine zr_tableOut hC dX8_driftOnce_49 (tgt := 160) (by decide +kernel) (by decide) ?_
    rw [h8] at hQ
    rw [show dr2 2 m E = if E 0 m ≠ 0 then tryL m E else tryC m E from rfl] at hQ
    refine zr_aload_n hC dX8_driftOnce_160 rfl ?_
    refine zs_getr hC dX8_driftOnce_161 fl_X8_12 (a := 0) (r := 1) rfl (by decide) ?_
    refine zs_getr hC dX8_driftOnce_164 fl_X8_132 (a := 1) (r := 2) rfl (by decide) ?_
    refine zr_iload_n hC dX8_driftOnce_167 rfl ?_
    refine zs_callV hC (b := 2) [_] [] dX8_driftOnce_168 ml_X8_135 mtX5_sits tX5_sits (by decide) (by decide) (by decide) rfl rfl (by decide) (by decide +kernel) (Nat.le_of_ble_eq_true rfl) rfl ?_
    refine ⟨2, m, rfl, Or.inl rfl, hm, fun r e => ?_⟩
    rcases e with ⟨rfl, hx⟩ | ⟨rfl, hx⟩
    · have hx : E 0 m ≠ 0 := fun q => hx ((hC1.sr.at0 hm).mpr q)
      rw [if_pos hx] at hQ
      dsimp only [Option.toList, List.cons_append, List.nil_append]
      refine zr_if_eq hC dX8_driftOnce_171 (tgt := 186) (by decide) (fun c => absurd c (by decide +kernel)) (fun c_171 => ?_)
      refine zr_aload_n hC dX8_driftOnce_174 rfl ?_
      refine zs_getr hC dX8_driftOnce_175 fl_X8_12 (a := 0) (r := 1) rfl (by decide) ?_
      refine zr_iload_n hC dX8_driftOnce_178 rfl ?_
      refine zs_callV hC (b := 1) [_] [] dX8_driftOnce_179 ml_X8_329 mtX0_tryLeave tX0_tryLeave (by decide) (by decide) (by decide) rfl rfl (by decide) (by decide +kernel) (Nat.le_of_ble_eq_true rfl) rfl ?_
      refine ⟨m, E, rfl, hm, hC1, hI1.told hm, fun hb => ?_, fun hb S2 h1 h2 => ?_⟩
      · rw [show tryL m E = E from if_neg hb] at hQ
        dsimp only [Option.toList, List.cons_append, List.nil_append]
        refine zr_pop hC dX8_driftOnce_182 rfl ?_
        refine zr_goto hC dX8_driftOnce_183 (tgt := 195) (by decide) ?_
        exact zr_vreturn hC hE dX8_driftOnce_195 (hr _ _ (by first | exact hQ _ h1 (hf0.tr h2) | exact hQ _ hC1 hf0))
      · rw [show tryL m E = _ from if_pos hb] at hQ
        dsimp only [Option.toList, List.cons_append, List.nil_append]
        refine zr_pop hC dX8_driftOnce_182 rfl ?_
        refine zr_goto hC dX8_driftOnce_183 (tgt := 195) (by decide) ?_
        exact zr_vreturn hC hE dX8_driftOnce_195 (hr _ _ (by first | exact hQ _ h1 (hf0.tr h2) | exact hQ _ hC1 hf0))
    · have hx : E 0 m = 0 := (hC1.sr.at0 hm).mp hx
      rw [if_neg (not_not_intro hx)] at hQ
      dsimp only [Option.toList, List.cons_append, List.nil_append]
      refine zr_if_eq hC dX8_driftOnce_171 (tgt := 186) (by decide) (fun c_171 => ?_) (fun c => absurd c (by decide +kernel))
      refine zr_aload_n hC dX8_driftOnce_186 rfl ?_
      refine zs_getr hC dX8_driftOnce_187 fl_X8_12 (a := 0) (r := 1) rfl (by decide) ?_
      refine zr_iload_n hC dX8_driftOnce_190 rfl ?_
      refine zs_callV hC (b := 1) [_] [] dX8_driftOnce_191 ml_X8_326 mtX0_tryCome tX0_tryCome (by decide) (by decide) (by decide) rfl rfl (by decide) (by decide +kernel) (Nat.le_of_ble_eq_true rfl) rfl ?_
      refine ⟨m, E, rfl, hm, hC1, hI1.told hm, fun hb => ?_, fun hb S2 h1 h2 => ?_⟩
      · rw [show tryC m E = E from if_neg hb] at hQ
        dsimp only [Option.toList, List.cons_append, List.nil_append]
        refine zr_pop hC dX8_driftOnce_194 rfl ?_
        exact zr_vreturn hC hE dX8_driftOnce_195 (hr _ _ (by first | exact hQ _ h1 (hf0.tr h2) | exact hQ _ hC1 hf0))
      · rw [show tryC m E = _ from if_pos hb] at hQ
        dsimp only [Option.toList, List.cons_append, List.nil_append]
        refine zr_pop hC dX8_driftOnce_194 rfl ?_
        exact zr_vreturn hC hE dX8_driftOnce_195 (hr _ _ (by first | exact hQ _ h1 (hf0.tr h2) | exact hQ _ hC1 hf0))
  · refine zr_iload_n hC dX8_driftOnce_45 rfl ?_
    refine zk_bipush hC dX8_driftOnce_46 (v := nI 8) (by decide +kernel) ?_
    refine zn_irem hC dX8_driftOnce_48 (by decide +kernel) ((z_rem (by omega) (by decide) (by decide)).trans (congrArg nI h8)) ?_
    refine zr_tableOut hC dX8_driftOnce_49 (tgt := 160) (by decide +kernel) (by decide) ?_
    rw [h8] at hQ
    rw [show dr2 3 m E = if E 0 m ≠ 0 then tryL m E else tryC m E from rfl] at hQ
    refine zr_aload_n hC dX8_driftOnce_160 rfl ?_
    refine zs_getr hC dX8_driftOnce_161 fl_X8_12 (a := 0) (r := 1) rfl (by decide) ?_
    refine zs_getr hC dX8_driftOnce_164 fl_X8_132 (a := 1) (r := 2) rfl (by decide) ?_
    refine zr_iload_n hC dX8_driftOnce_167 rfl ?_
    refine zs_callV hC (b := 2) [_] [] dX8_driftOnce_168 ml_X8_135 mtX5_sits tX5_sits (by decide) (by decide) (by decide) rfl rfl (by decide) (by decide +kernel) (Nat.le_of_ble_eq_true rfl) rfl ?_
    refine ⟨2, m, rfl, Or.inl rfl, hm, fun r e => ?_⟩
    rcases e with ⟨rfl, hx⟩ | ⟨rfl, hx⟩
    · have hx : E 0 m ≠ 0 := fun q => hx ((hC1.sr.at0 hm).mpr q)
      rw [if_pos hx] at hQ
      dsimp only [Option.toList, List.cons_append, List.nil_append]
      refine zr_if_eq hC dX8_driftOnce_171 (tgt := 186) (by decide) (fun c => absurd c (by decide +kernel)) (fun c_171 => ?_)
      refine zr_aload_n hC dX8_driftOnce_174 rfl ?_
      refine zs_getr hC dX8_driftOnce_175 fl_X8_12 (a := 0) (r := 1) rfl (by decide) ?_
      refine zr_iload_n hC dX8_driftOnce_178 rfl ?_
      refine zs_callV hC (b := 1) [_] [] dX8_driftOnce_179 ml_X8_329 mtX0_tryLeave tX0_tryLeave (by decide) (by decide) (by decide) rfl rfl (by decide) (by decide +kernel) (Nat.le_of_ble_eq_true rfl) rfl ?_
      refine ⟨m, E, rfl, hm, hC1, hI1.told hm, fun hb => ?_, fun hb S2 h1 h2 => ?_⟩
      · rw [show tryL m E = E from if_neg hb] at hQ
        dsimp only [Option.toList, List.cons_append, List.nil_append]
        refine zr_pop hC dX8_driftOnce_182 rfl ?_
        refine zr_goto hC dX8_driftOnce_183 (tgt := 195) (by decide) ?_
        exact zr_vreturn hC hE dX8_driftOnce_195 (hr _ _ (by first | exact hQ _ h1 (hf0.tr h2) | exact hQ _ hC1 hf0))
      · rw [show tryL m E = _ from if_pos hb] at hQ
        dsimp only [Option.toList, List.cons_append, List.nil_append]
        refine zr_pop hC dX8_driftOnce_182 rfl ?_
        refine zr_goto hC dX8_driftOnce_183 (tgt := 195) (by decide) ?_
        exact zr_vreturn hC hE dX8_driftOnce_195 (hr _ _ (by first | exact hQ _ h1 (hf0.tr h2) | exact hQ _ hC1 hf0))
    · have hx : E 0 m = 0 := (hC1.sr.at0 hm).mp hx
      rw [if_neg (not_not_intro hx)] at hQ
      dsimp only [Option.toList, List.cons_append, List.nil_append]
      refine zr_if_eq hC dX8_driftOnce_171 (tgt := 186) (by decide) (fun c_171 => ?_) (fun c => absurd c (by decide +kernel))
      refine zr_aload_n hC dX8_driftOnce_186 rfl ?_
      refine zs_getr hC dX8_driftOnce_187 fl_X8_12 (a := 0) (r := 1) rfl (by decide) ?_
      refine zr_iload_n hC dX8_driftOnce_190 rfl ?_
      refine zs_callV hC (b := 1) [_] [] dX8_driftOnce_191 ml_X8_326 mtX0_tryCome tX0_tryCome (by decide) (by decide) (by decide) rfl rfl (by decide) (by decide +kernel) (Nat.le_of_ble_eq_true rfl) rfl ?_
      refine ⟨m, E, rfl, hm, hC1, hI1.told hm, fun hb => ?_, fun hb S2 h1 h2 => ?_⟩
      · rw [show tryC m E = E from if_neg hb] at hQ
        dsimp only [Option.toList, List.cons_append, List.nil_append]
        refine zr_pop hC dX8_driftOnce_194 rfl ?_
        exact zr_vreturn hC hE dX8_driftOnce_195 (hr _ _ (by first | exact hQ _ h1 (hf0.tr h2) | exact hQ _ hC1 hf0))
      · rw [show tryC m E = _ from if_pos hb] at hQ
        dsimp only [Option.toList, List.cons_append, List.nil_append]
        refine zr_pop hC dX8_driftOnce_194 rfl ?_
        exact zr_vreturn hC hE dX8_driftOnce_195 (hr _ _ (by first | exact hQ _ h1 (hf0.tr h2) | exact hQ _ hC1 hf0))
  · refine zr_iload_n hC dX8_driftOnce_45 rfl ?_
    refine zk_bipush hC dX8_driftOnce_46 (v := nI 8) (by decide +kernel) ?_
    refine zn_irem hC dX8_driftOnce_48 (by decide +kernel) ((z_rem (by omega) (by decide) (by decide)).trans (congrArg nI h8)) ?_
    refine zr_tableIn hC dX8_driftOnce_49 (off := 31) (tgt := 80) (by decide +kernel) (by decide +kernel) (by decide +kernel) (by decide) ?_
    rw [h8] at hQ
    rw [show dr2 4 m E = tryB E from rfl] at hQ
    refine zr_aload_n hC dX8_driftOnce_80 rfl ?_
    refine zs_getr hC dX8_driftOnce_81 fl_X8_12 (a := 0) (r := 1) rfl (by decide) ?_
    refine zs_callV hC (b := 1) [] [] dX8_driftOnce_84 ml_X8_318 mtX0_tryBatch tX0_tryBatch (by decide) (by decide) (by decide) rfl rfl (by decide) (by decide +kernel) (Nat.le_of_ble_eq_true rfl) rfl ?_
    refine ⟨E, rfl, hC1, hI1, fun hb => ?_, fun hb S2 h1 h2 => ?_⟩
    · rw [show tryB E = E from if_neg hb] at hQ
      dsimp only [Option.toList, List.cons_append, List.nil_append]
      refine zr_pop hC dX8_driftOnce_87 rfl ?_
      refine zr_goto hC dX8_driftOnce_88 (tgt := 195) (by decide) ?_
      exact zr_vreturn hC hE dX8_driftOnce_195 (hr _ _ (by first | exact hQ _ h1 (hf0.tr h2) | exact hQ _ hC1 hf0))
    · rw [show tryB E = btc E from if_pos hb] at hQ
      dsimp only [Option.toList, List.cons_append, List.nil_append]
      refine zr_pop hC dX8_driftOnce_87 rfl ?_
      refine zr_goto hC dX8_driftOnce_88 (tgt := 195) (by decide) ?_
      exact zr_vreturn hC hE dX8_driftOnce_195 (hr _ _ (by first | exact hQ _ h1 (hf0.tr h2) | exact hQ _ hC1 hf0))
  · refine zr_iload_n hC dX8_driftOnce_45 rfl ?_
    refine zk_bipush hC dX8_driftOnce_46 (v := nI 8) (by decide +kernel) ?_
    refine zn_irem hC dX8_driftOnce_48 (by decide +kernel) ((z_rem (by omega) (by decide) (by decide)).trans (congrArg nI h8)) ?_
    refine zr_tableIn hC dX8_driftOnce_49 (off := 31) (tgt := 80) (by decide +kernel) (by decide +kernel) (by decide +kernel) (by decide) ?_
    rw [h8] at hQ
    rw [show dr2 5 m E = tryB E from rfl] at hQ
    refine zr_aload_n hC dX8_driftOnce_80 rfl ?_
    refine zs_getr hC dX8_driftOnce_81 fl_X8_12 (a := 0) (r := 1) rfl (by decide) ?_
    refine zs_callV hC (b := 1) [] [] dX8_driftOnce_84 ml_X8_318 mtX0_tryBatch tX0_tryBatch (by decide) (by decide) (by decide) rfl rfl (by decide) (by decide +kernel) (Nat.le_of_ble_eq_true rfl) rfl ?_
    refine ⟨E, rfl, hC1, hI1, fun hb => ?_, fun hb S2 h1 h2 => ?_⟩
    · rw [show tryB E = E from if_neg hb] at hQ
      dsimp only [Option.toList, List.cons_append, List.nil_append]
      refine zr_pop hC dX8_driftOnce_87 rfl ?_
      refine zr_goto hC dX8_driftOnce_88 (tgt := 195) (by decide) ?_
      exact zr_vreturn hC hE dX8_driftOnce_195 (hr _ _ (by first | exact hQ _ h1 (hf0.tr h2) | exact hQ _ hC1 hf0))
    · rw [show tryB E = btc E from if_pos hb] at hQ
      dsimp only [Option.toList, List.cons_append, List.nil_append]
      refine zr_pop hC dX8_driftOnce_87 rfl ?_
      refine zr_goto hC dX8_driftOnce_88 (tgt := 195) (by decide) ?_
      exact zr_vreturn hC hE dX8_driftOnce_195 (hr _ _ (by first | exact hQ _ h1 (hf0.tr h2) | exact hQ _ hC1 hf0))
  · refine zr_iload_n hC dX8_driftOnce_45 rfl ?_
    refine zk_bipush hC dX8_driftOnce_46 (v := nI 8) (by decide +kernel) ?_
    refine zn_irem hC dX8_driftOnce_48 (by decide +kernel) ((z_rem (by omega) (by decide) (by decide)).trans (congrArg nI h8)) ?_
    refine zr_tableIn hC dX8_driftOnce_49 (off := 42) (tgt := 91) (by decide +kernel) (by decide +kernel) (by decide +kernel) (by decide) ?_
    rw [h8] at hQ
    rw [show dr2 6 m E = (if E 0 m ≠ 0 ∧ E 2 m ≠ 1 then dset E 2 m 1 else if E 2 m = 1 then rdm m (dset E 2 m 0) else E) from rfl] at hQ
    refine zr_aload_n hC dX8_driftOnce_91 rfl ?_
    refine zs_getr hC dX8_driftOnce_92 fl_X8_12 (a := 0) (r := 1) rfl (by decide) ?_
    refine zr_iload_n hC dX8_driftOnce_95 rfl ?_
    refine zs_callV hC (b := 1) [_] [] dX8_driftOnce_96 ml_X8_98 mtX0_isAwake tX0_isAwake (by decide) (by decide) (by decide) rfl rfl (by decide) (by decide +kernel) (Nat.le_of_ble_eq_true rfl) rfl ?_
    refine ⟨m, E, rfl, hm, hC1.sr, hC1.ms, fun r e => ?_⟩
    rcases e with ⟨rfl, hx⟩ | ⟨rfl, hx⟩
    · rw [if_pos hx] at hQ
      dsimp only [Option.toList, List.cons_append, List.nil_append]
      refine zr_if_eq hC dX8_driftOnce_99 (tgt := 114) (by decide) (fun c => absurd c (by decide +kernel)) (fun c_99 => ?_)
      refine zr_aload_n hC dX8_driftOnce_102 rfl ?_
      refine zs_getr hC dX8_driftOnce_103 fl_X8_12 (a := 0) (r := 1) rfl (by decide) ?_
      refine zr_iload_n hC dX8_driftOnce_106 rfl ?_
      refine zs_callV hC (b := 1) [_] [] dX8_driftOnce_107 ml_X8_104 mtX0_fallAsleep tX0_fallAsleep (by decide) (by decide) (by decide) rfl rfl (by decide) (by decide +kernel) (Nat.le_of_ble_eq_true rfl) rfl ?_
      refine ⟨m, E, rfl, hm, hC1, fun S2 h1 h2 => ?_⟩
      dsimp only [Option.toList, List.cons_append, List.nil_append]
      refine zr_pop hC dX8_driftOnce_110 rfl ?_
      refine zr_goto hC dX8_driftOnce_111 (tgt := 195) (by decide) ?_
      exact zr_vreturn hC hE dX8_driftOnce_195 (hr _ _ (by first | exact hQ _ h1 (hf0.tr h2) | exact hQ _ hC1 hf0))
    · rw [if_neg hx] at hQ
      dsimp only [Option.toList, List.cons_append, List.nil_append]
      refine zr_if_eq hC dX8_driftOnce_99 (tgt := 114) (by decide) (fun c_99 => ?_) (fun c => absurd c (by decide +kernel))
      refine zr_aload_n hC dX8_driftOnce_114 rfl ?_
      refine zs_getr hC dX8_driftOnce_115 fl_X8_12 (a := 0) (r := 1) rfl (by decide) ?_
      refine zr_iload_n hC dX8_driftOnce_118 rfl ?_
      refine zs_callV hC (b := 1) [_] [] dX8_driftOnce_119 ml_X8_101 mtX0_isAsleep tX0_isAsleep (by decide) (by decide) (by decide) rfl rfl (by decide) (by decide +kernel) (Nat.le_of_ble_eq_true rfl) rfl ?_
      refine ⟨m, E, rfl, hm, hC1.ms, fun r e => ?_⟩
      rcases e with ⟨rfl, hx2⟩ | ⟨rfl, hx2⟩
      · rw [if_pos hx2] at hQ
        dsimp only [Option.toList, List.cons_append, List.nil_append]
        refine zr_if_eq hC dX8_driftOnce_122 (tgt := 195) (by decide) (fun c => absurd c (by decide +kernel)) (fun c_122 => ?_)
        refine zr_aload_n hC dX8_driftOnce_125 rfl ?_
        refine zs_getr hC dX8_driftOnce_126 fl_X8_12 (a := 0) (r := 1) rfl (by decide) ?_
        refine zr_iload_n hC dX8_driftOnce_129 rfl ?_
        refine zs_callV hC (b := 1) [_] [] dX8_driftOnce_130 ml_X8_107 mtX0_wakeUp tX0_wakeUp (by decide) (by decide) (by decide) rfl rfl (by decide) (by decide +kernel) (Nat.le_of_ble_eq_true rfl) rfl ?_
        refine ⟨m, E, rfl, hm, hC1, hI1.rd, by have := hI1.late hm; omega, fun S2 h1 h2 => ?_⟩
        dsimp only [Option.toList, List.cons_append, List.nil_append]
        refine zr_pop hC dX8_driftOnce_133 rfl ?_
        refine zr_goto hC dX8_driftOnce_134 (tgt := 195) (by decide) ?_
        exact zr_vreturn hC hE dX8_driftOnce_195 (hr _ _ (by first | exact hQ _ h1 (hf0.tr h2) | exact hQ _ hC1 hf0))
      · rw [if_neg hx2] at hQ
        dsimp only [Option.toList, List.cons_append, List.nil_append]
        refine zr_if_eq hC dX8_driftOnce_122 (tgt := 195) (by decide) (fun c_122 => ?_) (fun c => absurd c (by decide +kernel))
        exact zr_vreturn hC hE dX8_driftOnce_195 (hr _ _ (by first | exact hQ _ h1 (hf0.tr h2) | exact hQ _ hC1 hf0))
  · refine zr_iload_n hC dX8_driftOnce_45 rfl ?_
    refine zk_bipush hC dX8_driftOnce_46 (v := nI 8) (by decide +kernel) ?_
    refine zn_irem hC dX8_driftOnce_48 (by decide +kernel) ((z_rem (by omega) (by decide) (by decide)).trans (congrArg nI h8)) ?_
    refine zr_tableIn hC dX8_driftOnce_49 (off := 88) (tgt := 137) (by decide +kernel) (by decide +kernel) (by decide +kernel) (by decide) ?_
    rw [h8] at hQ
    rw [show dr2 7 m E = (if mrf E m = nI 0 then mnd m E else E) from rfl] at hQ
    refine zr_aload_n hC dX8_driftOnce_137 rfl ?_
    refine zs_getr hC dX8_driftOnce_138 fl_X8_12 (a := 0) (r := 1) rfl (by decide) ?_
    refine zr_iload_n hC dX8_driftOnce_141 rfl ?_
    refine zs_callV hC (b := 1) [_] [] dX8_driftOnce_142 ml_X8_114 mtX0_mendRefusal tX0_mendRefusal (by decide) (by decide) (by decide) rfl rfl (by decide) (by decide +kernel) (Nat.le_of_ble_eq_true rfl) rfl ?_
    refine ⟨m, E, rfl, hm, hC1, hI1, ?_⟩
    dsimp only [Option.toList, List.cons_append, List.nil_append]
    refine zr_if_ne hC dX8_driftOnce_145 (tgt := 195) (by decide) (fun c_145 => ?_) (fun c_145 => ?_)
    · rw [if_neg (fun q => c_145 (q.trans nI_0))] at hQ
      exact zr_vreturn hC hE dX8_driftOnce_195 (hr _ _ (by first | exact hQ _ h1 (hf0.tr h2) | exact hQ _ hC1 hf0))
    · have hb : mrf E m = nI 0 := c_145.trans nI_0.symm
      rw [if_pos hb] at hQ
      refine zr_aload_n hC dX8_driftOnce_148 rfl ?_
      refine zs_getr hC dX8_driftOnce_149 fl_X8_12 (a := 0) (r := 1) rfl (by decide) ?_
      refine zr_iload_n hC dX8_driftOnce_152 rfl ?_
      refine zs_callV hC (b := 1) [_] [] dX8_driftOnce_153 ml_X8_117 mtX0_mendKeys tX0_mendKeys (by decide) (by decide) (by decide) rfl rfl (by decide) (by decide +kernel) (Nat.le_of_ble_eq_true rfl) rfl ?_
      refine ⟨m, E, rfl, hm, hC1, hI1, hb, fun S2 h1 h2 => ?_⟩
      dsimp only [Option.toList, List.cons_append, List.nil_append]
      refine zr_pop hC dX8_driftOnce_156 rfl ?_
      refine zr_goto hC dX8_driftOnce_157 (tgt := 195) (by decide) ?_
      exact zr_vreturn hC hE dX8_driftOnce_195 (hr _ _ (by first | exact hQ _ h1 (hf0.tr h2) | exact hQ _ hC1 hf0))
set_option maxHeartbeats 4000000 in
set_option maxRecDepth 100000 in
theorem l8_drift {C : zCx} {τ : Nat → ClassId} {ι : Nat → Nat} (hC : zOK C τ (zrm 8 0 0) yX8_drift.cls cX8_drift 3) {S0 : zS} {G : zG} {n : Nat} (hn : n ≤ 40) (hGI : GI G) (k : ∀ S' lv, CG S' (drt G n) → zfc S0 S' → zlk 0 lv = some (.ref 0) → zR C τ ι 3 0 0 41 lv [] (zcells S')) : ∀ (d t : Nat) (S : zS), t + d = n → CG S (drt G t) → zfc S0 S → zR C τ ι 3 0 0 15 [(0, .ref 0), (1, .int (nI n)), (2, .int (nI t))] [] (zcells S) := by
  intro d
  induction d with
  | zero =>
    intro t S ht hCG hF
    refine zr_iload_n hC dX8_drift_15 rfl ?_
    refine zr_iload_n hC dX8_drift_16 rfl ?_
    refine zr_icmp_ge hC dX8_drift_17 (tgt := 41) (by decide) (fun c_17 => ?_) (fun c => absurd c (not_not_intro (nI_le (by omega) (by omega))))
    exact k S _ (by rw [show n = t by omega]; exact hCG) hF rfl
  | succ d ih =>
    intro t S ht hCG hF
    refine zr_iload_n hC dX8_drift_15 rfl ?_
    refine zr_iload_n hC dX8_drift_16 rfl ?_
    refine zr_icmp_ge hC dX8_drift_17 (tgt := 41) (by decide) (fun c => absurd c (nI_ge (by omega) (by omega))) (fun c_17 => ?_)
    refine zr_aload_n hC dX8_drift_20 rfl ?_
    refine zs_getr hC dX8_drift_21 fl_X8_19 (a := 0) (r := 17) rfl (by decide) ?_
    refine zr_aload_n hC dX8_drift_24 rfl ?_
    refine zs_getr hC dX8_drift_25 fl_X8_12 (a := 0) (r := 1) rfl (by decide) ?_
    refine zs_callV hC (b := 17) [_] [] dX8_drift_28 ml_X8_64 mtX3_keep tX3_keep (by decide) (by decide) (by decide) rfl rfl (by decide) (by decide +kernel) (Nat.le_of_ble_eq_true rfl) rfl ?_
    refine keepOK hCG (drt_GI hGI t) (fun S1 hC1 hf1 => ?_)
    dsimp only [Option.toList, List.nil_append]
    refine zr_aload_n hC dX8_drift_31 rfl ?_
    refine zs_callV hC (b := 0) [] [] dX8_drift_32 ml_X8_248 mtX8_driftOnce tX8_driftOnce (by decide) (by decide) (by decide) rfl rfl (by decide) (by decide +kernel) (Nat.le_of_ble_eq_true rfl) rfl ?_
    refine ⟨(drt G t).1, rfl, hC1.1, (drt_GI hGI t).1, fun S2 h1 h2 => ?_⟩
    dsimp only [Option.toList, List.nil_append]
    refine zn_iinc hC dX8_drift_35 rfl (by decide) (zk_inc _ 1) ?_
    refine zr_goto hC dX8_drift_38 (tgt := 15) (by decide) ?_
    exact zR_sub [(0, .ref 0), (1, .int (nI n)), (2, .int (nI (t + 1)))] ⟨rfl, rfl, rfl, trivial⟩ (ih (t + 1) _ (by omega) (hC1.book (drt_GI hGI t).kp h1 h2) ((hF.tr hf1).tr (h2.c (by decide))))
def spX8_drift : zSp := fun av S Q => ∃ (G : zG) (x : Int32), av = [.ref 0, .int x] ∧ CG S G ∧ GI G ∧ ∀ S', CG S' (fDrift x G).2 → zfc S S' → Q (some (.int (fDrift x G).1)) S'
set_option maxHeartbeats 4000000 in
set_option maxRecDepth 100000 in
theorem tX8_drift : zM yX8_drift cX8_drift 3 (some .int) 8 spX8_drift := by
  refine zM.of (by decide) (by decide) (fun av S Q h => by obtain ⟨G, x, rfl, hCG, hGI, hQ⟩ := h; exact Nat.le_of_ble_eq_true rfl) (fun C τ ι av S Q Qr h hr hC hE => ?_)
  obtain ⟨G, x, rfl, hCG, hGI, hQ⟩ := h
  show zR C τ ι _ 0 0 0 [(0, .ref 0), (1, .int x)] [] _
  refine zr_iload_n hC dX8_drift_0 rfl ?_
  refine zk_iconst hC dX8_drift_1 (v := nI 1) (by decide +kernel) ?_
  refine zr_icmp_lt hC dX8_drift_2 (tgt := 11) (by decide) (fun c_2 => ?_) (fun c_2 => ?_)
  · simp only [fDrift, rg_no (b := 40) (Or.inl c_2)] at hQ
    refine zk_iconst hC dX8_drift_11 (v := (-1)) (by decide +kernel) ?_
    exact zr_ireturn hC hE dX8_drift_12 (hr _ _ (hQ _ hCG zfc.rf))
  · refine zr_iload_n hC dX8_drift_5 rfl ?_
    refine zk_bipush hC dX8_drift_6 (v := nI 40) (by decide +kernel) ?_
    refine zr_icmp_le hC dX8_drift_8 (tgt := 13) (by decide) (fun c_8 => ?_) (fun c_8 => ?_)
    · obtain ⟨n, n1, n2, rfl⟩ := rg_in c_2 (Int32.not_lt.mpr c_8) (by decide) (by decide)
      simp only [fDrift, rg_yes n1 n2 (show 40 < 2147483648 by decide)] at hQ
      refine zk_iconst hC dX8_drift_13 (v := nI 0) (by decide +kernel) ?_
      refine zr_istore_n hC dX8_drift_14 (by decide) ?_
      refine zR_sub [(0, .ref 0), (1, .int (nI n)), (2, .int (nI 0))] ⟨rfl, rfl, rfl, trivial⟩ ?_
      refine l8_drift (S0 := S) hC n2 hGI (fun S1 lv h1 h2 h3 => ?_) n 0 S (by omega) hCG zfc.rf
      refine zr_aload_n hC dX8_drift_41 h3 ?_
      refine zs_getr hC dX8_drift_42 fl_X8_12 (a := 0) (r := 1) rfl (by decide) ?_
      refine zs_getr hC dX8_drift_45 fl_X8_132 (a := 1) (r := 2) rfl (by decide) ?_
      refine zs_callV hC (b := 2) [] [] dX8_drift_48 ml_X8_192 mtX5_all tX5_all (by decide) (by decide) (by decide) rfl rfl (by decide) (by decide +kernel) (Nat.le_of_ble_eq_true rfl) rfl ?_
      refine ⟨rfl, ?_⟩
      rw [h1.1.sr.2.1 1 (by decide) (by decide)]
      dsimp only [Option.toList, List.cons_append, List.nil_append]
      exact zr_ireturn hC hE dX8_drift_51 (hr _ _ (hQ _ h1 h2))
    · simp only [fDrift, rg_no (a := 1) (Or.inr (Int32.not_le.mp c_8))] at hQ
      refine zk_iconst hC dX8_drift_11 (v := (-1)) (by decide +kernel) ?_
      exact zr_ireturn hC hE dX8_drift_12 (hr _ _ (hQ _ hCG zfc.rf))
