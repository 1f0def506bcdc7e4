/-! THE MODEL: writing its row; seats that are thought of -/
theorem MW.put {f : Nat → Int32} {D : zD} (h : MW f D) {m w x : Nat} (hm : m < 16) (hw : w < 6) (hb : (w = 0 → x < 32) ∧ (w = 3 → x < 3) ∧ (w = 1 → x < 2)) : MW (upd f (4 + 6 * m + w) (nI x)) (dset D (mfld w) m x) := by
  obtain ⟨⟨⟨a0, a1, a2, a3⟩, b, c, d⟩, e1, e2, e3, e4, e5, e6⟩ := h
  have hne : ∀ f', 6 ≤ f' → dset D (mfld w) m x f' = D f' := fun f' hf => dset_ff _ _ _ (by
    rcases (by omega : w = 0 ∨ w = 1 ∨ w = 2 ∨ w = 3 ∨ w = 4 ∨ w = 5) with rfl | rfl | rfl | rfl | rfl | rfl <;> simp only [mfld] <;> omega)
  have h6 := hne 6 (by decide)
  have h7 := hne 7 (by decide)
  have h8 := hne 8 (by decide)
  have h9 := hne 9 (by decide)
  have h10 := hne 10 (by decide)
  have h11 := hne 11 (by decide)
  have h12 := hne 12 (by decide)
  refine ⟨⟨⟨?_, ?_, ?_, ?_⟩, fun m' w' hm' hw' => ?_, fun k hk => ?_, fun i hi => ?_⟩, ?_⟩
  · rw [pk_un (by omega), h6]; exact a0
  · rw [pk_un (by omega), h6]; exact a1
  · rw [pk_un (by omega), h6]; exact a2
  · rw [pk_un (by omega), h6]; exact a3
  · by_cases q : m' = m ∧ w' = w
    · obtain ⟨rfl, rfl⟩ := q
      rw [pk_us, dset_at]
    · rw [pk_un (by omega), b m' w' hm' hw']
      congr 1
      by_cases q2 : w' = w
      · subst q2
        rw [dset_k _ _ _ (fun z => q ⟨z, rfl⟩)]
      · rw [dset_f]
        rcases (by omega : w = 0 ∨ w = 1 ∨ w = 2 ∨ w = 3 ∨ w = 4 ∨ w = 5) with rfl | rfl | rfl | rfl | rfl | rfl <;> rcases (by omega : w' = 0 ∨ w' = 1 ∨ w' = 2 ∨ w' = 3 ∨ w' = 4 ∨ w' = 5) with rfl | rfl | rfl | rfl | rfl | rfl <;> simp only [mfld] <;> omega
  · rw [h6] at hk
    rw [pk_un (by omega), pk_un (by omega), h7, h8, h9]; exact c k hk
  · rw [h6] at hi
    rw [pk_un (by omega), h10, h11, h12]; exact d i hi
  · unfold MB
    rw [h6, h7, h8, h10, h11, h12]
    refine ⟨e1, e2, e3, fun m' hm' => ?_, e5, e6⟩
    have e4' := e4 m' hm'
    rcases (by omega : w = 0 ∨ w = 1 ∨ w = 2 ∨ w = 3 ∨ w = 4 ∨ w = 5) with rfl | rfl | rfl | rfl | rfl | rfl <;> simp only [mfld]
    · rw [dset_ff _ _ _ (show 1 ≠ 0 by decide), dset_ff _ _ _ (show 2 ≠ 0 by decide)]
      refine ⟨?_, e4'.2⟩
      by_cases q : m' = m
      · subst q; rw [dset_at]; exact hb.1 rfl
      · rw [dset_k _ _ _ q]; exact e4'.1
    · rw [dset_ff _ _ _ (show 0 ≠ 2 by decide), dset_ff _ _ _ (show 1 ≠ 2 by decide)]
      refine ⟨e4'.1, e4'.2.1, ?_⟩
      by_cases q : m' = m
      · subst q; rw [dset_at]; exact hb.2.2 rfl
      · rw [dset_k _ _ _ q]; exact e4'.2.2
    · rw [dset_ff _ _ _ (show 0 ≠ 3 by decide), dset_ff _ _ _ (show 1 ≠ 3 by decide), dset_ff _ _ _ (show 2 ≠ 3 by decide)]
      exact e4'
    · rw [dset_ff _ _ _ (show 0 ≠ 1 by decide), dset_ff _ _ _ (show 2 ≠ 1 by decide)]
      refine ⟨e4'.1, ?_, e4'.2.2⟩
      by_cases q : m' = m
      · subst q; rw [dset_at]; exact hb.2.1 rfl
      · rw [dset_k _ _ _ q]; exact e4'.2.1
    · rw [dset_ff _ _ _ (show 0 ≠ 4 by decide), dset_ff _ _ _ (show 1 ≠ 4 by decide), dset_ff _ _ _ (show 2 ≠ 4 by decide)]
      exact e4'
    · rw [dset_ff _ _ _ (show 0 ≠ 5 by decide), dset_ff _ _ _ (show 1 ≠ 5 by decide), dset_ff _ _ _ (show 2 ≠ 5 by decide)]
      exact e4'
theorem mfld_lt {w : Nat} : mfld w < 6 := by
  unfold mfld
  split <;> decide
theorem MW.make {f : Nat → Int32} {D : zD} (h : MW f D) {v : Nat} (hv : v < 32) (hn : D 6 0 < 230) (hb : D 6 2 < 5000) : MW (upd (upd (upd f (100 + D 6 0) (nI (v + 32 * D 6 2))) (330 + D 6 0) (nI 0)) 0 (nI (D 6 0 + 1))) (kadd D v 0) := by
  obtain ⟨⟨⟨a0, a1, a2, a3⟩, b, c, d⟩, e1, e2, e3, e4, e5, e6⟩ := h
  have g : ∀ f', f' < 6 → kadd D v 0 f' = D f' := fun f' hf => kadd_f (by omega) (by omega) (by omega) (by omega)
  have g2 : ∀ f', 10 ≤ f' → kadd D v 0 f' = D f' := fun f' hf => kadd_f (by omega) (by omega) (by omega) (by omega)
  refine ⟨⟨⟨?_, ?_, ?_, ?_⟩, fun m w hm hw => ?_, fun k hk => ?_, fun i hi => ?_⟩, ?_⟩
  · rw [pk_us, kadd_60]
  · rw [pk_un (by omega), pk_un (by omega), pk_un (by omega), kadd_6 (by decide)]; exact a1
  · rw [pk_un (by omega), pk_un (by omega), pk_un (by omega), kadd_6 (by decide)]; exact a2
  · rw [pk_un (by omega), pk_un (by omega), pk_un (by omega), kadd_6 (by decide)]; exact a3
  · rw [pk_un (by omega), pk_un (by omega), pk_un (by omega), b m w hm hw, g _ mfld_lt]
  · rw [kadd_60] at hk
    by_cases q : k = D 6 0
    · subst q
      rw [pk_un (by omega), pk_un (by omega), pk_us, pk_un (by omega), pk_us, kadd_7n, kadd_8n, kadd_9n]
      exact ⟨rfl, rfl⟩
    · rw [pk_un (by omega), pk_un (by omega), pk_un (by omega), pk_un (by omega), pk_un (by omega), pk_un (by omega), kadd_7 q, kadd_8 q, kadd_9 q]
      exact c k (by omega)
  · rw [kadd_6 (by decide)] at hi
    rw [pk_un (by omega), pk_un (by omega), pk_un (by omega), g2 10 (by decide), g2 11 (by decide), g2 12 (by decide)]; exact d i hi
  · unfold MB
    rw [kadd_60, kadd_6 (by decide), kadd_6 (by decide), g 0 (by decide), g 1 (by decide), g 2 (by decide), g2 10 (by decide), g2 11 (by decide), g2 12 (by decide)]
    refine ⟨by omega, e2, e3, e4, fun k hk => ?_, e6⟩
    by_cases q : k = D 6 0
    · subst q
      rw [kadd_7n, kadd_8n]; exact ⟨hv, hb⟩
    · rw [kadd_7 q, kadd_8 q]; exact e5 k (by omega)
theorem MW.h9 {f : Nat → Int32} {D : zD} (h : MW f D) {k x : Nat} (hk : k < D 6 0) : MW (upd f (330 + k) (nI x)) (dset D 9 k x) := by
  obtain ⟨⟨⟨a0, a1, a2, a3⟩, b, c, d⟩, e⟩ := h
  have h60 := e.1
  have g : ∀ f', f' ≠ 9 → dset D 9 k x f' = D f' := fun f' hf => dset_ff _ _ _ hf
  refine ⟨⟨⟨?_, ?_, ?_, ?_⟩, fun m w hm hw => ?_, fun j hj => ?_, fun i hi => ?_⟩, ?_⟩
  · rw [pk_un (by omega)]; exact a0
  · rw [pk_un (by omega)]; exact a1
  · rw [pk_un (by omega)]; exact a2
  · rw [pk_un (by omega)]; exact a3
  · rw [pk_un (by omega), b m w hm hw, g _ (by have := mfld_lt (w := w); omega)]
  · rw [g 6 (by decide)] at hj
    rw [pk_un (by omega), g 7 (by decide), g 8 (by decide)]
    refine ⟨(c j hj).1, ?_⟩
    by_cases q : j = k
    · subst q; rw [pk_us, dset_at]
    · rw [pk_un (by omega), dset_k _ _ _ q]; exact (c j hj).2
  · rw [g 6 (by decide)] at hi
    rw [pk_un (by omega), g 10 (by decide), g 11 (by decide), g 12 (by decide)]; exact d i hi
  · unfold MB
    rw [g 6 (by decide), g 0 (by decide), g 1 (by decide), g 2 (by decide), g 7 (by decide), g 8 (by decide), g 10 (by decide), g 11 (by decide), g 12 (by decide)]
    exact e
theorem MW.wrt {f : Nat → Int32} {D : zD} (h : MW f D) {a b c : Nat} (ha : a < 256) (hb : b < 256) (hc : c ≤ 5001) (hn : D 6 1 < 190) : MW (upd (upd f (560 + D 6 1) (nI (a + 256 * b + 65536 * c))) 1 (nI (D 6 1 + 1))) (ladd D a b c) := by
  obtain ⟨⟨⟨a0, a1, a2, a3⟩, bb, cc, d⟩, e1, e2, e3, e4, e5, e6⟩ := h
  have g : ∀ f', f' ≠ 6 → f' < 10 → ladd D a b c f' = D f' := fun f' hf hf2 => ladd_f hf (by omega) (by omega) (by omega)
  obtain ⟨n1, n2, n3⟩ := ladd_n (D := D) (a := a) (b := b) (c := c)
  refine ⟨⟨⟨?_, ?_, ?_, ?_⟩, fun m w hm hw => ?_, fun k hk => ?_, fun i hi => ?_⟩, ?_⟩
  · rw [pk_un (by omega), pk_un (by omega), ladd_6 (by decide)]; exact a0
  · rw [pk_us, ladd_61]
  · rw [pk_un (by omega), pk_un (by omega), ladd_6 (by decide)]; exact a2
  · rw [pk_un (by omega), pk_un (by omega), ladd_6 (by decide)]; exact a3
  · rw [pk_un (by omega), pk_un (by omega), bb m w hm hw, g _ (by have := mfld_lt (w := w); omega) (by have := mfld_lt (w := w); omega)]
  · rw [ladd_6 (by decide)] at hk
    rw [pk_un (by omega), pk_un (by omega), pk_un (by omega), pk_un (by omega), g 7 (by decide) (by decide), g 8 (by decide) (by decide), g 9 (by decide) (by decide)]
    exact cc k hk
  · rw [ladd_61] at hi
    rw [pk_un (by omega)]
    by_cases q : i = D 6 1
    · subst q
      rw [pk_us, n1, n2, n3]
    · obtain ⟨q1, q2, q3⟩ := ladd_o (D := D) (a := a) (b := b) (c := c) q
      rw [pk_un (by omega), q1, q2, q3]; exact d i (by omega)
  · unfold MB
    rw [ladd_61, ladd_6 (by decide), ladd_6 (by decide), g 0 (by decide) (by decide), g 1 (by decide) (by decide), g 2 (by decide) (by decide), g 7 (by decide) (by decide), g 8 (by decide) (by decide)]
    refine ⟨e1, by omega, e3, e4, e5, fun i hi => ?_⟩
    by_cases q : i = D 6 1
    · subst q
      rw [n1, n2, n3]; exact ⟨ha, hb, hc⟩
    · obtain ⟨q1, q2, q3⟩ := ladd_o (D := D) (a := a) (b := b) (c := c) q
      rw [q1, q2, q3]; exact e6 i (by omega)
theorem MW.set6 {f : Nat → Int32} {D : zD} (h : MW f D) {k x : Nat} (hk : k = 2 ∨ k = 3) (hx : k = 2 → x ≤ 5000) : MW (upd f k (nI x)) (dset D 6 k x) := by
  obtain ⟨⟨⟨a0, a1, a2, a3⟩, b, c, d⟩, e1, e2, e3, e4, e5, e6⟩ := h
  have g : ∀ f', f' ≠ 6 → dset D 6 k x f' = D f' := fun f' hf => dset_ff _ _ _ hf
  have g0 : dset D 6 k x 6 0 = D 6 0 := dset_k _ _ _ (by omega)
  have g1 : dset D 6 k x 6 1 = D 6 1 := dset_k _ _ _ (by omega)
  refine ⟨⟨⟨?_, ?_, ?_, ?_⟩, fun m w hm hw => ?_, fun j hj => ?_, fun i hi => ?_⟩, ?_⟩
  · rw [pk_un (by omega), g0]; exact a0
  · rw [pk_un (by omega), g1]; exact a1
  · by_cases q : 2 = k
    · subst q; rw [pk_us, dset_at]
    · rw [pk_un q, dset_k _ _ _ q]; exact a2
  · by_cases q : 3 = k
    · subst q; rw [pk_us, dset_at]
    · rw [pk_un q, dset_k _ _ _ q]; exact a3
  · rw [pk_un (by omega), b m w hm hw, g _ (by have := mfld_lt (w := w); omega)]
  · rw [g0] at hj
    rw [pk_un (by omega), pk_un (by omega), g 7 (by decide), g 8 (by decide), g 9 (by decide)]; exact c j hj
  · rw [g1] at hi
    rw [pk_un (by omega), g 10 (by decide), g 11 (by decide), g 12 (by decide)]; exact d i hi
  · unfold MB
    rw [g0, g1, g 0 (by decide), g 1 (by decide), g 2 (by decide), g 7 (by decide), g 8 (by decide), g 10 (by decide), g 11 (by decide), g 12 (by decide)]
    refine ⟨e1, e2, ?_, e4, e5, e6⟩
    by_cases q : 2 = k
    · subst q; rw [dset_at]; exact hx rfl
    · rw [dset_k _ _ _ q]; exact e3
def spX9_makes : zSp := fun av S Q => ∃ (v : Nat) (D : zD), av = [.ref 245, .int (nI v)] ∧ v < 32 ∧ MW (S.1 246) D ∧ D 6 0 < 230 ∧ D 6 2 < 5000 ∧ ∀ S', MW (S'.1 246) (kadd D v 0) → zfrm 246 247 S S' → Q (some (.int (nI (D 6 0)))) S'
set_option maxHeartbeats 4000000 in
set_option maxRecDepth 100000 in
theorem tX9_makes : zM yX9_makes cX9_makes 3 (some .int) 0 spX9_makes := by
  refine zM.of (by decide) (by decide) (fun av S Q h => by obtain ⟨v, D, rfl, hv, hM, hn, hb, hQ⟩ := h; exact Nat.le_of_ble_eq_true rfl) (fun C τ ι av S Q Qr h hr hC hE => ?_)
  obtain ⟨v, D, rfl, hv, hM, hn, hb, hQ⟩ := h
  show zR C τ ι _ 0 0 0 [(0, .ref 245), (1, .int (nI v))] [] _
  refine zr_aload_n hC dX9_makes_0 rfl ?_
  refine zs_getr hC dX9_makes_1 fl_X9_7 (a := 245) (r := 246) rfl (by decide) ?_
  refine zk_iconst hC dX9_makes_4 (v := nI 0) (by decide +kernel) ?_
  refine zv_iald hC dX9_makes_5 (a := 246) (n := 752) rfl (by decide) (by decide) (j := 0) rfl (by decide) (hM.1.1.1) ?_
  refine zr_istore_n hC dX9_makes_6 (by decide) ?_
  refine zr_aload_n hC dX9_makes_7 rfl ?_
  refine zs_getr hC dX9_makes_8 fl_X9_7 (a := 245) (r := 246) rfl (by decide) ?_
  refine zk_bipush hC dX9_makes_11 (v := nI 100) (by decide +kernel) ?_
  refine zr_iload_n hC dX9_makes_13 rfl ?_
  refine zn_iadd hC dX9_makes_14 (nI_add _ _) ?_
  refine zr_iload_n hC dX9_makes_15 rfl ?_
  refine zk_bipush hC dX9_makes_16 (v := nI 32) (by decide +kernel) ?_
  refine zr_aload_n hC dX9_makes_18 rfl ?_
  refine zs_getr hC dX9_makes_19 fl_X9_7 (a := 245) (r := 246) rfl (by decide) ?_
  refine zk_iconst hC dX9_makes_22 (v := nI 2) (by decide +kernel) ?_
  refine zv_iald hC dX9_makes_23 (a := 246) (n := 752) rfl (by decide) (by decide) (j := 2) rfl (by decide) (hM.1.1.2.2.1) ?_
  refine zn_imul hC dX9_makes_24 (pk_mul _ _) ?_
  refine zn_iadd hC dX9_makes_25 (nI_add _ _) ?_
  refine zs_iast hC dX9_makes_26 (a := 246) (n := 752) rfl (by decide) (by decide) (j := 100 + D 6 0) rfl (by omega) ?_
  refine zr_aload_n hC dX9_makes_27 rfl ?_
  refine zs_getr hC dX9_makes_28 fl_X9_7 (a := 245) (r := 246) rfl (by decide) ?_
  refine zk_sipush hC dX9_makes_31 (v := nI 330) (by decide +kernel) ?_
  refine zr_iload_n hC dX9_makes_34 rfl ?_
  refine zn_iadd hC dX9_makes_35 (nI_add _ _) ?_
  refine zk_iconst hC dX9_makes_36 (v := nI 0) (by decide +kernel) ?_
  refine zs_iast hC dX9_makes_37 (a := 246) (n := 752) rfl (by decide) (by decide) (j := 330 + D 6 0) rfl (by omega) ?_
  refine zr_aload_n hC dX9_makes_38 rfl ?_
  refine zs_getr hC dX9_makes_39 fl_X9_7 (a := 245) (r := 246) rfl (by decide) ?_
  refine zk_iconst hC dX9_makes_42 (v := nI 0) (by decide +kernel) ?_
  refine zr_dup2 hC dX9_makes_43 rfl rfl ?_
  refine zv_iald hC dX9_makes_44 (a := 246) (n := 752) rfl (by decide) (by decide) (j := 0) rfl (by decide) ((zput_k _ _ (by omega)).trans ((zput_k _ _ (by omega)).trans hM.1.1.1)) ?_
  refine zk_iconst hC dX9_makes_45 (v := nI 1) (by decide +kernel) ?_
  refine zn_iadd hC dX9_makes_46 (nI_add _ _) ?_
  refine zs_iast hC dX9_makes_47 (a := 246) (n := 752) rfl (by decide) (by decide) (j := 0) rfl (by decide) ?_
  refine zr_iload_n hC dX9_makes_48 rfl ?_
  exact zr_ireturn hC hE dX9_makes_49 (hr _ _ (hQ _ (by rw [zput_arr, zput_arr, zput_arr]; exact hM.make hv hn hb) (((zfrm.rf.put (by decide) (by decide)).put (by decide) (by decide)).put (by decide) (by decide))))
def spX9_writes : zSp := fun av S Q => ∃ (a b c : Nat) (z : Int32) (D : zD), av = [.ref 245, .int (nI a), .int (nI b), .int z] ∧ a < 256 ∧ b < 256 ∧ c ≤ 5001 ∧ z + nI 1 = nI c ∧ MW (S.1 246) D ∧ D 6 1 < 190 ∧ ∀ S', MW (S'.1 246) (ladd D a b c) → zfrm 246 247 S S' → Q none S'
set_option maxHeartbeats 4000000 in
set_option maxRecDepth 100000 in
theorem tX9_writes : zM yX9_writes cX9_writes 4 none 0 spX9_writes := by
  refine zM.of (by decide) (by decide) (fun av S Q h => by obtain ⟨a, b, c, z, D, rfl, ha, hb, hc, hz, hM, hn, hQ⟩ := h; exact Nat.le_of_ble_eq_true rfl) (fun C τ ι av S Q Qr h hr hC hE => ?_)
  obtain ⟨a, b, c, z, D, rfl, ha, hb, hc, hz, hM, hn, hQ⟩ := h
  show zR C τ ι _ 0 0 0 [(0, .ref 245), (1, .int (nI a)), (2, .int (nI b)), (3, .int z)] [] _
  refine zr_aload_n hC dX9_writes_0 rfl ?_
  refine zs_getr hC dX9_writes_1 fl_X9_7 (a := 245) (r := 246) rfl (by decide) ?_
  refine zk_sipush hC dX9_writes_4 (v := nI 560) (by decide +kernel) ?_
  refine zr_aload_n hC dX9_writes_7 rfl ?_
  refine zs_getr hC dX9_writes_8 fl_X9_7 (a := 245) (r := 246) rfl (by decide) ?_
  refine zk_iconst hC dX9_writes_11 (v := nI 1) (by decide +kernel) ?_
  refine zv_iald hC dX9_writes_12 (a := 246) (n := 752) rfl (by decide) (by decide) (j := 1) rfl (by decide) (hM.1.1.2.1) ?_
  refine zn_iadd hC dX9_writes_13 (nI_add _ _) ?_
  refine zr_iload_n hC dX9_writes_14 rfl ?_
  refine zk_sipush hC dX9_writes_15 (v := nI 256) (by decide +kernel) ?_
  refine zr_iload_n hC dX9_writes_18 rfl ?_
  refine zn_imul hC dX9_writes_19 (pk_mul _ _) ?_
  refine zn_iadd hC dX9_writes_20 (nI_add _ _) ?_
  refine zr_ldc hC dX9_writes_21 kc_X9_76 ?_
  refine zr_iload_n hC dX9_writes_23 rfl ?_
  refine zk_iconst hC dX9_writes_24 (v := nI 1) (by decide +kernel) ?_
  refine zn_iadd hC dX9_writes_25 hz ?_
  refine zn_imul hC dX9_writes_26 (show nI 65536 * nI _ = _ from pk_mul _ _) ?_
  refine zn_iadd hC dX9_writes_27 (nI_add _ _) ?_
  refine zs_iast hC dX9_writes_28 (a := 246) (n := 752) rfl (by decide) (by decide) (j := 560 + D 6 1) rfl (by omega) ?_
  refine zr_aload_n hC dX9_writes_29 rfl ?_
  refine zs_getr hC dX9_writes_30 fl_X9_7 (a := 245) (r := 246) rfl (by decide) ?_
  refine zk_iconst hC dX9_writes_33 (v := nI 1) (by decide +kernel) ?_
  refine zr_dup2 hC dX9_writes_34 rfl rfl ?_
  refine zv_iald hC dX9_writes_35 (a := 246) (n := 752) rfl (by decide) (by decide) (j := 1) rfl (by decide) ((zput_k _ _ (by omega)).trans hM.1.1.2.1) ?_
  refine zk_iconst hC dX9_writes_36 (v := nI 1) (by decide +kernel) ?_
  refine zn_iadd hC dX9_writes_37 (nI_add _ _) ?_
  refine zs_iast hC dX9_writes_38 (a := 246) (n := 752) rfl (by decide) (by decide) (j := 1) rfl (by decide) ?_
  exact zr_vreturn hC hE dX9_writes_39 (hr _ _ (hQ _ (by rw [zput_arr, zput_arr]; exact hM.wrt ha hb hc hn) ((zfrm.rf.put (by decide) (by decide)).put (by decide) (by decide))))
def SE (S : zS) (lf : Nat → Nat) : Prop := ∀ m, m < 16 → S.1 247 m = nI (lf m)
def CH (S : zS) (c : Nat → Bool) : Prop := ∀ v, v < 32 → S.1 248 v = zb (c v)
def FR (S : zS) (c : Nat → Bool) : Prop := ∀ v, v < 32 → S.1 249 v = zb (c v)
theorem SE.fr {S S' : zS} {lf : Nat → Nat} (h : SE S lf) (e : S'.1 247 = S.1 247) : SE S' lf := by unfold SE; rw [e]; exact h
theorem CH.fr {S S' : zS} {c : Nat → Bool} (h : CH S c) (e : S'.1 248 = S.1 248) : CH S' c := by unfold CH; rw [e]; exact h
theorem FR.fr {S S' : zS} {c : Nat → Bool} (h : FR S c) (e : S'.1 249 = S.1 249) : FR S' c := by unfold FR; rw [e]; exact h
set_option maxHeartbeats 4000000 in
set_option maxRecDepth 100000 in
theorem l9_takes {C : zCx} {τ : Nat → ClassId} {ι : Nat → Nat} (hC : zOK C τ (zrm 1 0 0) yX9_takesSeats.cls cX9_takesSeats 2) {S0 : zS} {D : zD} (hM : MW (S0.1 246) D) (k : ∀ S' lv, SE S' (D 0) → zfrm 247 248 S0 S' → zR C τ ι 2 0 0 26 lv [] (zcells S')) : ∀ (d i : Nat) (S : zS), i + d = 16 → (∀ m, m < i → S.1 247 m = nI (D 0 m)) → zfrm 247 248 S0 S → zR C τ ι 2 0 0 2 [(0, .ref 245), (1, .int (nI i))] [] (zcells S) := by
  intro d
  induction d with
  | zero =>
    intro i S hi hP hF
    refine zr_iload_n hC dX9_takesSeats_2 rfl ?_
    refine zk_bipush hC dX9_takesSeats_3 (v := nI 16) (by decide +kernel) ?_
    refine zr_icmp_ge hC dX9_takesSeats_5 (tgt := 26) (by decide) (fun c_5 => ?_) (fun c => absurd c (not_not_intro (nI_le (by omega) (by omega))))
    exact k S _ (fun m hm => hP m (by omega)) hF
  | succ d ih =>
    intro i S hi hP hF
    refine zr_iload_n hC dX9_takesSeats_2 rfl ?_
    refine zk_bipush hC dX9_takesSeats_3 (v := nI 16) (by decide +kernel) ?_
    refine zr_icmp_ge hC dX9_takesSeats_5 (tgt := 26) (by decide) (fun c => absurd c (nI_ge (by omega) (by omega))) (fun c_5 => ?_)
    refine zr_aload_n hC dX9_takesSeats_8 rfl ?_
    refine zs_getr hC dX9_takesSeats_9 fl_X9_13 (a := 245) (r := 247) rfl (by decide) ?_
    refine zr_iload_n hC dX9_takesSeats_12 rfl ?_
    refine zr_aload_n hC dX9_takesSeats_13 rfl ?_
    refine zr_iload_n hC dX9_takesSeats_14 rfl ?_
    refine zk_iconst hC dX9_takesSeats_15 (v := nI 0) (by decide +kernel) ?_
    refine zs_callV hC (b := 245) [_, _] [_, _] dX9_takesSeats_16 ml_X9_64 mtX9_of tX9_of (by decide) (by decide) (by decide) rfl rfl (by decide) (by decide +kernel) (Nat.le_of_ble_eq_true rfl) rfl ?_
    refine ⟨i, 0, rfl, by omega, by decide, ?_⟩
    rw [show S.1 246 (4 + 6 * i + 0) = nI (D 0 i) by rw [hF.1 246 (by decide)]; exact hM.mem (show i < 16 by omega) (by decide)]
    dsimp only [Option.toList, List.cons_append, List.nil_append]
    refine zs_iast hC dX9_takesSeats_19 (a := 247) (n := 16) rfl (by decide) (by decide) (j := i) rfl (by omega) ?_
    refine zn_iinc hC dX9_takesSeats_20 rfl (by decide) (zk_inc _ 1) ?_
    refine zr_goto hC dX9_takesSeats_23 (tgt := 2) (by decide) ?_
    refine zR_sub [(0, .ref 245), (1, .int (nI (i + 1)))] ⟨rfl, rfl, trivial⟩ (ih (i + 1) _ (by omega) (fun m hm => ?_) (hF.put (by decide) (by decide)))
    by_cases q : m = i
    · subst q; rw [zput_at]
    · rw [zput_k _ _ q]; exact hP m (by omega)
def spX9_takesSeats : zSp := fun av S Q => ∃ D : zD, av = [.ref 245] ∧ MW (S.1 246) D ∧ ∀ S', SE S' (D 0) → zfrm 247 248 S S' → Q none S'
set_option maxHeartbeats 4000000 in
set_option maxRecDepth 100000 in
theorem tX9_takesSeats : zM yX9_takesSeats cX9_takesSeats 2 none 1 spX9_takesSeats := by
  refine zM.of (by decide) (by decide) (fun av S Q h => by obtain ⟨D, rfl, hM, hQ⟩ := h; exact Nat.le_of_ble_eq_true rfl) (fun C τ ι av S Q Qr h hr hC hE => ?_)
  obtain ⟨D, rfl, hM, hQ⟩ := h
  show zR C τ ι _ 0 0 0 [(0, .ref 245)] [] _
  refine zk_iconst hC dX9_takesSeats_0 (v := nI 0) (by decide +kernel) ?_
  refine zr_istore_n hC dX9_takesSeats_1 (by decide) ?_
  refine zR_sub [(0, .ref 245), (1, .int (nI 0))] ⟨rfl, rfl, trivial⟩ (l9_takes (S0 := S) hC hM (fun S1 lv h1 h2 => zr_vreturn hC hE dX9_takesSeats_26 (hr _ _ (hQ _ h1 h2))) 16 0 S (by omega) (fun m hm => absurd hm (Nat.not_lt_zero m)) zfrm.rf)
set_option maxHeartbeats 4000000 in
set_option maxRecDepth 100000 in
theorem l9_seated {C : zCx} {τ : Nat → ClassId} {ι : Nat → Nat} (hC : zOK C τ (zrm 1 0 0) yX9_seated.cls cX9_seated 4) {S : zS} {lf : Nat → Nat} {v : Nat} (hS : SE S lf) (hlf : ∀ m, m < 16 → lf m < 32) (hv : v < 1000) (k : ∀ lv, zlk 2 lv = some (.int (nI (pcn 16 (sm lf v)))) → zR C τ ι 4 0 0 37 lv [] (zcells S)) : ∀ (d i : Nat), i + d = 16 → zR C τ ι 4 0 0 4 [(0, .ref 245), (1, .int (nI v)), (2, .int (nI (pcn i (sm lf v)))), (3, .int (nI i))] [] (zcells S) := by
  intro d
  induction d with
  | zero =>
    intro i hi
    refine zr_iload_n hC dX9_seated_4 rfl ?_
    refine zk_bipush hC dX9_seated_5 (v := nI 16) (by decide +kernel) ?_
    refine zr_icmp_ge hC dX9_seated_7 (tgt := 37) (by decide) (fun c_7 => ?_) (fun c => absurd c (not_not_intro (nI_le (by omega) (by omega))))
    exact k _ (by obtain rfl : i = 16 := (by omega); rfl)
  | succ d ih =>
    intro i hi
    refine zr_iload_n hC dX9_seated_4 rfl ?_
    refine zk_bipush hC dX9_seated_5 (v := nI 16) (by decide +kernel) ?_
    refine zr_icmp_ge hC dX9_seated_7 (tgt := 37) (by decide) (fun c => absurd c (nI_ge (by omega) (by omega))) (fun c_7 => ?_)
    refine zr_iload_n hC dX9_seated_10 rfl ?_
    refine zr_aload_n hC dX9_seated_11 rfl ?_
    refine zs_getr hC dX9_seated_12 fl_X9_13 (a := 245) (r := 247) rfl (by decide) ?_
    refine zr_iload_n hC dX9_seated_15 rfl ?_
    refine zv_iald hC dX9_seated_16 (a := 247) (n := 16) rfl (by decide) (by decide) (j := i) rfl (by omega) (hS i (by omega)) ?_
    refine zr_iload_n hC dX9_seated_17 rfl ?_
    refine zs_callS hC [_, _] [_] dX9_seated_18 ml_X9_77 mtX9_isBeneath tX9_isBeneath (by decide) (by decide) (by decide) rfl (Nat.le_of_ble_eq_true rfl) rfl ?_
    refine ⟨lf i, v, rfl, hlf i (by omega), hv, fun r e => ?_⟩
    rcases e with ⟨rfl, hx⟩ | ⟨rfl, hx⟩
    · dsimp only [Option.toList, List.cons_append, List.nil_append]
      refine zr_if_eq hC dX9_seated_21 (tgt := 28) (by decide) (fun c => absurd c (by decide +kernel)) (fun c_21 => ?_)
      refine zk_iconst hC dX9_seated_24 (v := nI 1) (by decide +kernel) ?_
      refine zr_goto hC dX9_seated_25 (tgt := 29) (by decide) ?_
      refine zn_iadd hC dX9_seated_29 (nI_add _ _) ?_
      refine zr_istore_n hC dX9_seated_30 (by decide) ?_
      refine zn_iinc hC dX9_seated_31 rfl (by decide) (zk_inc _ 1) ?_
      refine zr_goto hC dX9_seated_34 (tgt := 4) (by decide) ?_
      exact zR_sub [(0, .ref 245), (1, .int (nI v)), (2, .int (nI (pcn (i + 1) (sm lf v)))), (3, .int (nI (i + 1)))] ⟨rfl, rfl, zlk_eq rfl (by rw [pcn, sm_bit (show i < 16 by omega), hx, Nat.add_comm]; rfl), rfl, trivial⟩ (ih (i + 1) (by omega))
    · dsimp only [Option.toList, List.cons_append, List.nil_append]
      refine zr_if_eq hC dX9_seated_21 (tgt := 28) (by decide) (fun c_21 => ?_) (fun c => absurd c (by decide +kernel))
      refine zk_iconst hC dX9_seated_28 (v := nI 0) (by decide +kernel) ?_
      refine zn_iadd hC dX9_seated_29 (nI_add _ _) ?_
      refine zr_istore_n hC dX9_seated_30 (by decide) ?_
      refine zn_iinc hC dX9_seated_31 rfl (by decide) (zk_inc _ 1) ?_
      refine zr_goto hC dX9_seated_34 (tgt := 4) (by decide) ?_
      exact zR_sub [(0, .ref 245), (1, .int (nI v)), (2, .int (nI (pcn (i + 1) (sm lf v)))), (3, .int (nI (i + 1)))] ⟨rfl, rfl, zlk_eq rfl (by rw [pcn, sm_bit (show i < 16 by omega), hx, Nat.add_comm]; rfl), rfl, trivial⟩ (ih (i + 1) (by omega))
def spX9_seated : zSp := fun av S Q => ∃ (v : Nat) (lf : Nat → Nat), av = [.ref 245, .int (nI v)] ∧ v < 1000 ∧ SE S lf ∧ (∀ m, m < 16 → lf m < 32) ∧ Q (some (.int (nI (pcn 16 (sm lf v))))) S
set_option maxHeartbeats 4000000 in
set_option maxRecDepth 100000 in
theorem tX9_seated : zM yX9_seated cX9_seated 4 (some .int) 1 spX9_seated := by
  refine zM.of (by decide) (by decide) (fun av S Q h => by obtain ⟨v, lf, rfl, hv, hS, hlf, hQ⟩ := h; exact Nat.le_of_ble_eq_true rfl) (fun C τ ι av S Q Qr h hr hC hE => ?_)
  obtain ⟨v, lf, rfl, hv, hS, hlf, hQ⟩ := h
  show zR C τ ι _ 0 0 0 [(0, .ref 245), (1, .int (nI v))] [] _
  refine zk_iconst hC dX9_seated_0 (v := nI 0) (by decide +kernel) ?_
  refine zr_istore_n hC dX9_seated_1 (by decide) ?_
  refine zk_iconst hC dX9_seated_2 (v := nI 0) (by decide +kernel) ?_
  refine zr_istore_n hC dX9_seated_3 (by decide) ?_
  refine zR_sub [(0, .ref 245), (1, .int (nI v)), (2, .int (nI (pcn 0 (sm lf v)))), (3, .int (nI 0))] ⟨rfl, rfl, rfl, rfl, trivial⟩ (l9_seated hC hS hlf hv (fun lv h => ?_) 16 0 (by omega))
  refine zr_iload_n hC dX9_seated_37 h ?_
  exact zr_ireturn hC hE dX9_seated_38 (hr _ _ hQ)
set_option maxHeartbeats 4000000 in
set_option maxRecDepth 100000 in
theorem l9_marks {C : zCx} {τ : Nat → ClassId} {ι : Nat → Nat} (hC : zOK C τ (zrm 0 0 0) yX9_marks.cls cX9_marks 3)  : ∀ (n u : Nat) (S : zS) (c : Nat → Bool), u < 2 ^ n → u < 32 → CH S c → (∀ S' lv, CH S' (fun v => c v || bnf n u v) → zfrm 248 249 S S' → zR C τ ι 3 0 0 22 lv [] (zcells S')) → zR C τ ι 3 0 0 4 [(0, .ref 245), (2, .int (nI u))] [] (zcells S) := by
  intro n
  induction n with
  | zero =>
    intro u S c hu hu2 hc k
    have hu0 : u = 0 := by simpa using hu
    subst hu0
    refine zr_iload_n hC dX9_marks_4 rfl ?_
    refine zr_if_le hC dX9_marks_5 (tgt := 22) (by decide) (fun c_5 => ?_) (fun c => absurd c (not_not_intro (nI_le (b := 0) (Nat.le_refl 0) (by decide))))
    exact k S _ (fun v hv => (hc v hv).trans (by simp [bnf])) zfrm.rf
  | succ n ih =>
    intro u S c hu hu2 hc k
    refine zr_iload_n hC dX9_marks_4 rfl ?_
    refine zr_if_le hC dX9_marks_5 (tgt := 22) (by decide) (fun c_5 => ?_) (fun c_5 => ?_)
    · have hu0 : u = 0 := by rcases Nat.eq_zero_or_pos u with q | q; exact q; exact absurd c_5 (nI_nle q (by omega))
      subst hu0
      exact k S _ (fun v hv => (hc v hv).trans (by show zb (c v) = zb (c v || bnf (n + 1) 0 v); rw [bnf_0, Bool.or_false])) zfrm.rf
    · have hu1 : u ≠ 0 := fun q => c_5 (by rw [q]; decide)
      refine zr_aload_n hC dX9_marks_8 rfl ?_
      refine zs_getr hC dX9_marks_9 fl_X9_16 (a := 245) (r := 248) rfl (by decide) ?_
      refine zr_iload_n hC dX9_marks_12 rfl ?_
      refine zk_iconst hC dX9_marks_13 (v := nI 1) (by decide +kernel) ?_
      refine zs_zast hC dX9_marks_14 (a := 248) (n := 32) rfl (by decide) (by decide) (j := u) rfl (by omega) (Or.inr rfl) ?_
      refine zr_iload_n hC dX9_marks_15 rfl ?_
      refine zk_iconst hC dX9_marks_16 (v := nI 2) (by decide +kernel) ?_
      refine zn_idiv hC dX9_marks_17 (by decide +kernel) (z_half (by omega)) ?_
      refine zr_istore_n hC dX9_marks_18 (by decide) ?_
      refine zr_goto hC dX9_marks_19 (tgt := 4) (by decide) ?_
      refine zR_sub [(0, .ref 245), (2, .int (nI (u / 2)))] ⟨rfl, rfl, trivial⟩ (ih (u / 2) _ (fun v => c v || v == u) (by rw [Nat.pow_succ] at hu; omega) (by omega) (fun v hv => ?_) (fun S1 lv h1 h2 => k S1 lv (fun v hv => (h1 v hv).trans (congrArg zb ?_)) ((zfrm.rf.put (by decide) (by decide)).tr h2)))
      · by_cases q : v = u
        · subst q; rw [zput_at]; simp [zb]
        · rw [zput_k _ _ q, hc v hv]
          show zb (c v) = zb (c v || v == u)
          rw [beq_eq_false_iff_ne.mpr q, Bool.or_false]
      · show ((c v || v == u) || bnf n (u / 2) v) = (c v || bnf (n + 1) u v)
        rw [Bool.or_assoc]
        show _ = (c v || (!(u == 0) && ((v == u) || bnf n (u / 2) v)))
        rw [beq_eq_false_iff_ne.mpr hu1]
        rfl
def spX9_marks : zSp := fun av S Q => ∃ (u : Nat) (c : Nat → Bool), av = [.ref 245, .int (nI u)] ∧ u < 32 ∧ CH S c ∧ ∀ S', CH S' (fun v => c v || bn (u / 2) v) → zfrm 248 249 S S' → Q none S'
set_option maxHeartbeats 4000000 in
set_option maxRecDepth 100000 in
theorem tX9_marks : zM yX9_marks cX9_marks 3 none 0 spX9_marks := by
  refine zM.of (by decide) (by decide) (fun av S Q h => by obtain ⟨u, c, rfl, hu, hc, hQ⟩ := h; exact Nat.le_of_ble_eq_true rfl) (fun C τ ι av S Q Qr h hr hC hE => ?_)
  obtain ⟨u, c, rfl, hu, hc, hQ⟩ := h
  show zR C τ ι _ 0 0 0 [(0, .ref 245), (1, .int (nI u))] [] _
  refine zr_iload_n hC dX9_marks_0 rfl ?_
  refine zk_iconst hC dX9_marks_1 (v := nI 2) (by decide +kernel) ?_
  refine zn_idiv hC dX9_marks_2 (by decide +kernel) (z_half (by omega)) ?_
  refine zr_istore_n hC dX9_marks_3 (by decide) ?_
  refine zR_sub [(0, .ref 245), (2, .int (nI (u / 2)))] ⟨rfl, rfl, trivial⟩ (l9_marks hC 5 (u / 2) S c (by omega) (by omega) hc (fun S1 lv h1 h2 => zr_vreturn hC hE dX9_marks_22 (hr _ _ (hQ _ h1 h2))))
/-- the least leaf that was left and is free, else down to where there are fewer -/
def lfs (lf : Nat → Nat) (fr : Nat → Bool) : Nat → Nat
  | 0 => emp lf
  | d + 1 => if fr (32 - (d + 1)) = true ∧ pcn 16 (sm lf (32 - (d + 1))) = 0 then 32 - (d + 1) else lfs lf fr d
theorem fa_first_is {fr : Nat → Bool} {j : Nat} : ∀ n, j < n → fr j = true → (∀ k, k < j → fr k = false) → fa_first fr n = j
  | 0, h, _, _ => by omega
  | n + 1, h, h1, h2 => by
    unfold fa_first
    by_cases e : j = n
    · subst e
      have hl : ¬ fa_first fr j < j := fun q => by
        have := fa_first_yes fr j q
        rw [h2 _ q] at this; cases this
      rw [if_neg hl, if_pos h1]
    · rw [fa_first_is n (by omega) h1 h2, if_pos (by omega)]
theorem lfs_is {lf : Nat → Nat} {fr fr0 : Nat → Bool} (h : ∀ j, 16 ≤ j → j < 32 → (fr j = true ↔ fr0 j = true ∧ pcn 16 (sm lf j) = 0)) : ∀ d, d ≤ 16 → (∀ j, j < 32 - d → fr j = false) → lfs lf fr0 d = nlf lf fr
  | 0, _, hf => by
    unfold nlf
    rw [if_pos (dmn_zero.mpr fun m hm => hf m (by omega))]
    rfl
  | d + 1, hd, hf => by
    unfold lfs
    by_cases c : fr0 (32 - (d + 1)) = true ∧ pcn 16 (sm lf (32 - (d + 1))) = 0
    · rw [if_pos c]
      have h1 := (h _ (by omega) (by omega)).mpr c
      unfold nlf
      rw [if_neg (fun q => by rw [dmn_zero.mp q _ (by omega)] at h1; cases h1)]
      exact (fa_first_is 32 (by omega) h1 hf).symm
    · rw [if_neg c]
      refine lfs_is h d (by omega) (fun j hj => ?_)
      by_cases e : j = 32 - (d + 1)
      · subst e
        cases hb : fr (32 - (d + 1)) with
        | false => rfl
        | true => exact absurd ((h _ (by omega) (by omega)).mp hb) c
      · exact hf j (by omega)
set_option maxHeartbeats 4000000 in
set_option maxRecDepth 100000 in
theorem l9_leaf1 {C : zCx} {τ : Nat → ClassId} {ι : Nat → Nat} (hC : zOK C τ (zrm 2 0 0) yX9_leafFor.cls cX9_leafFor 2) {S : zS} {lf : Nat → Nat} {fr : Nat → Bool} {Qr : Option Value → List va_E → Prop} (hE : zRet C τ ι (some .int) Qr) (hS : SE S lf) (hlf : ∀ m, m < 16 → lf m < 32) (hFr : FR S fr) : ∀ (d : Nat), d ≤ 16 → (∀ lv, lfs lf fr d = emp lf → zlk 0 lv = some (.ref 245) → zR C τ ι 2 0 0 34 lv [] (zcells S)) → (∀ r, r = nI (lfs lf fr d) → Qr (some (.int r)) (zcells S)) → zR C τ ι 2 0 0 3 [(0, .ref 245), (1, .int (nI (32 - d)))] [] (zcells S) := by
  intro d
  induction d with
  | zero =>
    intro hd k k2
    refine zr_iload_n hC dX9_leafFor_3 rfl ?_
    refine zk_bipush hC dX9_leafFor_4 (v := nI 32) (by decide +kernel) ?_
    refine zr_icmp_ge hC dX9_leafFor_6 (tgt := 34) (by decide) (fun c_6 => ?_) (fun c => absurd c (not_not_intro (nI_le (by omega) (by omega))))
    exact k _ rfl rfl
  | succ d ih =>
    intro hd k k2
    refine zr_iload_n hC dX9_leafFor_3 rfl ?_
    refine zk_bipush hC dX9_leafFor_4 (v := nI 32) (by decide +kernel) ?_
    refine zr_icmp_ge hC dX9_leafFor_6 (tgt := 34) (by decide) (fun c => absurd c (nI_ge (by omega) (by omega))) (fun c_6 => ?_)
    refine zr_aload_n hC dX9_leafFor_9 rfl ?_
    refine zs_getr hC dX9_leafFor_10 fl_X9_20 (a := 245) (r := 249) rfl (by decide) ?_
    refine zr_iload_n hC dX9_leafFor_13 rfl ?_
    refine zv_zald hC dX9_leafFor_14 (a := 249) (n := 32) rfl (by decide) (by decide) (j := 32 - (d + 1)) rfl (by omega) (hFr (32 - (d + 1)) (by omega)) ?_
    refine zr_if_eq hC dX9_leafFor_15 (tgt := 28) (by decide) (fun c_15 => ?_) (fun c_15 => ?_)
    · have hs : lfs lf fr (d + 1) = lfs lf fr d := if_neg (fun q => by rw [(zb_eq0 _).mp c_15] at q; exact absurd q.1 (by decide))
      refine zn_iinc hC dX9_leafFor_28 rfl (by decide) (zk_inc _ 1) ?_
      refine zr_goto hC dX9_leafFor_31 (tgt := 3) (by decide) ?_
      exact zR_sub [(0, .ref 245), (1, .int (nI (32 - d)))] ⟨rfl, zlk_eq rfl (by omega), trivial⟩ (ih (by omega) (fun lv e => k lv (hs.trans e)) (fun r e => k2 r (by rw [hs]; exact e)))
    · have hfr : fr (32 - (d + 1)) = true := (zb_ne0 _).mp c_15
      refine zr_aload_n hC dX9_leafFor_18 rfl ?_
      refine zr_iload_n hC dX9_leafFor_19 rfl ?_
      refine zs_callV hC (b := 245) [_] [] dX9_leafFor_20 ml_X9_87 mtX9_seated tX9_seated (by decide) (by decide) (by decide) rfl rfl (by decide) (by decide +kernel) (Nat.le_of_ble_eq_true rfl) rfl ?_
      refine ⟨32 - (d + 1), lf, rfl, by omega, hS, hlf, ?_⟩
      dsimp only [Option.toList, List.cons_append, List.nil_append]
      refine zr_if_ne hC dX9_leafFor_23 (tgt := 28) (by decide) (fun c_23 => ?_) (fun c_23 => ?_)
      · have hs : lfs lf fr (d + 1) = lfs lf fr d := if_neg (fun q => c_23 (by rw [q.2]; rfl))
        refine zn_iinc hC dX9_leafFor_28 rfl (by decide) (zk_inc _ 1) ?_
        refine zr_goto hC dX9_leafFor_31 (tgt := 3) (by decide) ?_
        exact zR_sub [(0, .ref 245), (1, .int (nI (32 - d)))] ⟨rfl, zlk_eq rfl (by omega), trivial⟩ (ih (by omega) (fun lv e => k lv (hs.trans e)) (fun r e => k2 r (by rw [hs]; exact e)))
      · have hs : lfs lf fr (d + 1) = 32 - (d + 1) := if_pos ⟨hfr, (z_ne0 (Nat.lt_of_le_of_lt (pcn_le _ 16) (by decide))).mp c_23⟩
        refine zr_iload_n hC dX9_leafFor_26 rfl ?_
        exact zr_ireturn hC hE dX9_leafFor_27 (k2 _ (by rw [hs]))
set_option maxHeartbeats 4000000 in
set_option maxRecDepth 100000 in
theorem l9_leaf2 {C : zCx} {τ : Nat → ClassId} {ι : Nat → Nat} (hC : zOK C τ (zrm 2 0 0) yX9_leafFor.cls cX9_leafFor 2) {S : zS} {lf : Nat → Nat} (hS : SE S lf) (hlf : ∀ m, m < 16 → lf m < 32) : ∀ (n u : Nat), 16 ≤ u * 2 ^ n → u * 2 ^ n + 2 ^ n ≤ 32 → (∀ lv, zlk 1 lv = some (.int (nI (emd lf n u))) → zR C τ ι 2 0 0 76 lv [] (zcells S)) → zR C τ ι 2 0 0 36 [(0, .ref 245), (1, .int (nI u))] [] (zcells S) := by
  intro n
  induction n with
  | zero =>
    intro u h1 h2 k
    refine zr_iload_n hC dX9_leafFor_36 rfl ?_
    refine zk_bipush hC dX9_leafFor_37 (v := nI 16) (by decide +kernel) ?_
    refine zr_icmp_ge hC dX9_leafFor_39 (tgt := 76) (by decide) (fun c_39 => ?_) (fun c => absurd c (not_not_intro (nI_le (by simpa using h1) (by simp at h2; omega))))
    exact k _ rfl
  | succ n ih =>
    intro u h1 h2 k
    rw [Nat.pow_succ] at h1 h2
    have hp : 1 ≤ 2 ^ n := Nat.one_le_two_pow
    have e1 : (2 * u) * 2 ^ n = u * (2 ^ n * 2) := by rw [Nat.mul_comm 2 u, Nat.mul_assoc, Nat.mul_comm 2]
    have e2 : (2 * u + 1) * 2 ^ n = u * (2 ^ n * 2) + 2 ^ n := by rw [Nat.add_mul, e1, Nat.one_mul]
    have hu2 : u < 16 := by
      have h4 : 2 * u ≤ (2 * u) * 2 ^ n := Nat.le_mul_of_pos_right _ hp
      omega
    refine zr_iload_n hC dX9_leafFor_36 rfl ?_
    refine zk_bipush hC dX9_leafFor_37 (v := nI 16) (by decide +kernel) ?_
    refine zr_icmp_ge hC dX9_leafFor_39 (tgt := 76) (by decide) (fun c => absurd c (nI_ge (by omega) (by decide))) (fun c_39 => ?_)
    refine zr_aload_n hC dX9_leafFor_42 rfl ?_
    refine zk_iconst hC dX9_leafFor_43 (v := nI 2) (by decide +kernel) ?_
    refine zr_iload_n hC dX9_leafFor_44 rfl ?_
    refine zn_imul hC dX9_leafFor_45 (pk_mul _ _) ?_
    refine zk_iconst hC dX9_leafFor_46 (v := nI 1) (by decide +kernel) ?_
    refine zn_iadd hC dX9_leafFor_47 (nI_add _ _) ?_
    refine zs_callV hC (b := 245) [_] [] dX9_leafFor_48 ml_X9_87 mtX9_seated tX9_seated (by decide) (by decide) (by decide) rfl rfl (by decide) (by decide +kernel) (Nat.le_of_ble_eq_true rfl) rfl ?_
    refine ⟨2 * u + 1, lf, rfl, by omega, hS, hlf, ?_⟩
    dsimp only [Option.toList, List.cons_append, List.nil_append]
    refine zr_aload_n hC dX9_leafFor_51 rfl ?_
    refine zk_iconst hC dX9_leafFor_52 (v := nI 2) (by decide +kernel) ?_
    refine zr_iload_n hC dX9_leafFor_53 rfl ?_
    refine zn_imul hC dX9_leafFor_54 (pk_mul _ _) ?_
    refine zs_callV hC (b := 245) [_] [_] dX9_leafFor_55 ml_X9_87 mtX9_seated tX9_seated (by decide) (by decide) (by decide) rfl rfl (by decide) (by decide +kernel) (Nat.le_of_ble_eq_true rfl) rfl ?_
    refine ⟨2 * u, lf, rfl, by omega, hS, hlf, ?_⟩
    dsimp only [Option.toList, List.cons_append, List.nil_append]
    refine zr_icmp_ge hC dX9_leafFor_58 (tgt := 69) (by decide) (fun c_58 => ?_) (fun c_58 => ?_)
    · rw [nI_leI (Nat.lt_of_le_of_lt (pcn_le _ 16) (by decide)) (Nat.lt_of_le_of_lt (pcn_le _ 16) (by decide))] at c_58
      refine zk_iconst hC dX9_leafFor_69 (v := nI 2) (by decide +kernel) ?_
      refine zr_iload_n hC dX9_leafFor_70 rfl ?_
      refine zn_imul hC dX9_leafFor_71 (pk_mul _ _) ?_
      refine zr_istore_n hC dX9_leafFor_72 (by decide) ?_
      refine zr_goto hC dX9_leafFor_73 (tgt := 36) (by decide) ?_
      refine zR_sub [(0, .ref 245), (1, .int (nI (2 * u)))] ⟨rfl, rfl, trivial⟩ (ih (2 * u) (by rw [e1]; omega) (by rw [e1]; omega) (fun lv h => k lv (by rw [h, emd, if_neg (by omega)])))
    · rw [z_nle (Nat.lt_of_le_of_lt (pcn_le _ 16) (by decide)) (Nat.lt_of_le_of_lt (pcn_le _ 16) (by decide))] at c_58
      refine zk_iconst hC dX9_leafFor_61 (v := nI 2) (by decide +kernel) ?_
      refine zr_iload_n hC dX9_leafFor_62 rfl ?_
      refine zn_imul hC dX9_leafFor_63 (pk_mul _ _) ?_
      refine zk_iconst hC dX9_leafFor_64 (v := nI 1) (by decide +kernel) ?_
      refine zn_iadd hC dX9_leafFor_65 (nI_add _ _) ?_
      refine zr_goto hC dX9_leafFor_66 (tgt := 72) (by decide) ?_
      refine zr_istore_n hC dX9_leafFor_72 (by decide) ?_
      refine zr_goto hC dX9_leafFor_73 (tgt := 36) (by decide) ?_
      refine zR_sub [(0, .ref 245), (1, .int (nI (2 * u + 1)))] ⟨rfl, rfl, trivial⟩ (ih (2 * u + 1) (by rw [e2]; omega) (by rw [e2]; omega) (fun lv h => k lv (by rw [h, emd, if_pos c_58])))
def spX9_leafFor : zSp := fun av S Q => ∃ (lf : Nat → Nat) (fr : Nat → Bool), av = [.ref 245] ∧ SE S lf ∧ (∀ m, m < 16 → lf m < 32) ∧ FR S fr ∧ Q (some (.int (nI (lfs lf fr 16)))) S
set_option maxHeartbeats 4000000 in
set_option maxRecDepth 100000 in
theorem tX9_leafFor : zM yX9_leafFor cX9_leafFor 2 (some .int) 2 spX9_leafFor := by
  refine zM.of (by decide) (by decide) (fun av S Q h => by obtain ⟨lf, fr, rfl, hS, hlf, hFr, hQ⟩ := h; exact Nat.le_of_ble_eq_true rfl) (fun C τ ι av S Q Qr h hr hC hE => ?_)
  obtain ⟨lf, fr, rfl, hS, hlf, hFr, hQ⟩ := h
  show zR C τ ι _ 0 0 0 [(0, .ref 245)] [] _
  refine zk_bipush hC dX9_leafFor_0 (v := nI 16) (by decide +kernel) ?_
  refine zr_istore_n hC dX9_leafFor_2 (by decide) ?_
  refine zR_sub [(0, .ref 245), (1, .int (nI (32 - 16)))] ⟨rfl, rfl, trivial⟩ (l9_leaf1 hC hE hS hlf hFr 16 (Nat.le_refl _) (fun lv he h0 => ?_) (fun r e => by rw [e]; exact hr _ _ hQ))
  refine zk_iconst hC dX9_leafFor_34 (v := nI 1) (by decide +kernel) ?_
  refine zr_istore_n hC dX9_leafFor_35 (by decide) ?_
  refine zR_sub [(0, .ref 245), (1, .int (nI 1))] ⟨zlk_set (show 0 ≠ 1 by decide) h0, rfl, trivial⟩ (l9_leaf2 hC hS hlf 4 1 (by decide) (by decide) (fun lv h => ?_))
  refine zr_iload_n hC dX9_leafFor_76 h ?_
  exact zr_ireturn hC hE dX9_leafFor_77 (hr _ _ (by rw [he] at hQ; exact hQ))
