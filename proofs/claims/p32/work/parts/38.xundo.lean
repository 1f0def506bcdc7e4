/-! THE CALLS OF THE CLASS: undo, seed, image, restore -/
theorem backOK {S : zS} {G : zG} (h : CG S G) (hI : GI G) (h0 : G.2.1.2 ≠ 0) {Q : Option Value → zS → Prop} (hQ : ∀ S', CG S' (G.2.1.1 (G.2.1.2 - 1), (G.2.1.1, G.2.1.2 - 1), G.2.2) → zfc S S' → Q none S') : spX3_goBack [.ref 17, .ref 1] S Q := by
  obtain ⟨h1, ⟨hn, hn6, x, hx, hx2, hP⟩, h3, h4, h5⟩ := h
  obtain ⟨i1, i2, i3, i4⟩ := hI
  refine ⟨G.2.1.2, x, rfl, hn, by omega, hn6, hx2, hx, fun S1 ht => hQ _ ?_ ?_⟩
  · have e0 : ∀ a, a ≠ 17 → (zput (zput S 17 2 (nI ((x + 6 - 1) % 6))) 17 1 (nI (G.2.1.2 - 1))).1 a = S.1 a := fun a q => by rw [zput_ne _ _ q, zput_ne _ _ q]
    have e : ∀ a, a ≠ 17 → (a < 1 ∨ 17 ≤ a) → S1.1 a = S.1 a := fun a q1 q2 => (ht.1 a (by omega)).trans (e0 a q1)
    have e2 : S1.2 = S.2 := ht.2.1
    have e1 : S1.1 17 1 = nI (G.2.1.2 - 1) := by rw [ht.1 17 (by decide), zput_at]
    have e3 : S1.1 17 2 = nI ((x + 6 - 1) % 6) := by rw [ht.1 17 (by decide), zput_k _ _ (by decide), zput_at]
    have hm := Nat.mod_lt (x + 6 - 1) (show 0 < 6 by decide)
    have hb := hP (G.2.1.2 - 1) (by omega)
    rw [show (x + 6 - G.2.1.2 + (G.2.1.2 - 1)) % 6 = (x + 6 - 1) % 6 by omega] at hb
    have hIb := i2.2 (G.2.1.2 - 1) (by omega)
    have hC : CR S1 (G.2.1.1 (G.2.1.2 - 1)) := (CRb_1 hIb).mp ((hb.fr (S' := zput (zput S 17 2 (nI ((x + 6 - 1) % 6))) 17 1 (nI (G.2.1.2 - 1))) hIb (fun a q1 q2 => e0 a (by omega))).tk hIb ht)
    refine ⟨hC, ⟨e1, by show G.2.1.2 - 1 ≤ 6; omega, (x + 6 - 1) % 6, hm, e3, fun j hj => ?_⟩, ⟨by rw [e 0 (by decide) (by decide)]; exact h3.1, fun q => ⟨(h3.2 q).1.fr (i3 q).1 (fun a q1 q2 => e a (by omega) (by omega)), (h3.2 q).2.fr (i3 q).2 (e _ (by decide) (by omega)) (fun a q1 q2 => e a (by omega) (by omega))⟩⟩, h4.fr (e _ (by decide) (by omega)) (e _ (by decide) (by omega)), h5.fr (fun a q1 q2 => ⟨e a (by omega) (by omega), by rw [e2]⟩)⟩
    replace hj : j < G.2.1.2 - 1 := hj
    show CRb (19 + 16 * (((x + 6 - 1) % 6 + 6 - (G.2.1.2 - 1) + j) % 6)) S1 (G.2.1.1 j)
    rw [show ((x + 6 - 1) % 6 + 6 - (G.2.1.2 - 1) + j) % 6 = (x + 6 - G.2.1.2 + j) % 6 by omega]
    have := Nat.mod_lt (x + 6 - G.2.1.2 + j) (show 0 < 6 by decide)
    exact (hP j (by omega)).fr (i2.2 j (by omega)) (fun a q1 q2 => e a (by omega) (by omega))
  · intro a ha
    refine ⟨?_, by rw [ht.2.1]; rfl⟩
    rw [ht.1 a (by omega), zput_ne _ _ (by omega), zput_ne _ _ (by omega)]
theorem CRb.pt {d s j : Nat} {S S' : zS} {D : zD} (h : CRb (s + 16 * j) S D) (hI : INV D) (ht : PT d s S S' 6) (hj : j < 6) : CRb (d + 16 * j) S' D := by
  have h1 := hI.made
  have h2 := hI.written
  exact CR.same h (by omega) (by omega) (fun o k ho hk => by
    show S'.1 (d + 16 * j + (1 + o - 1)) k = S.1 (s + 16 * j + (1 + o - 1)) k
    rw [Nat.add_sub_cancel_left]
    exact ht.2.2 j o k hj ho hk)
theorem PRr.pt {c bb c' bb' : Nat} {S S' : zS} {p : zP} (h : PRr S c bb p) (hp : pok p) (ht : PT bb' bb S S' 6) (h1 : S'.1 c' 1 = S.1 c 1) (h2 : S'.1 c' 2 = S.1 c 2) : PRr S' c' bb' p := by
  obtain ⟨a, b, x, hx, e, f⟩ := h
  exact ⟨h1.trans a, b, x, hx, h2.trans e, fun j hj => (f j hj).pt (hp.2 j hj) ht (Nat.mod_lt _ (by decide))⟩
theorem imageOK {S S1 S2 : zS} {G : zG} (h : CG S G) (hI : GI G) (h1 : TKp 115 1 S S1) (h2 : PT 133 19 (zput (zput S1 131 1 (S1.1 17 1)) 131 2 (S1.1 17 2)) S2 6) : CG (zput S2 0 4 (nI 1)) (G.1, G.2.1, (true, G.1, G.2.1), G.2.2.2) ∧ zfc S (zput S2 0 4 (nI 1)) := by
  obtain ⟨g1, g2, g3, g4, g5⟩ := h
  obtain ⟨i1, i2, i3, i4⟩ := hI
  have z0 : ∀ a, a ≠ 131 → (zput (zput S1 131 1 (S1.1 17 1)) 131 2 (S1.1 17 2)).1 a = S1.1 a := fun a q => by rw [zput_ne _ _ q, zput_ne _ _ q]
  have e : ∀ a, a ≠ 131 → (a < 115 ∨ 131 ≤ a) → (a < 133 ∨ 229 ≤ a) → S2.1 a = S.1 a := fun a q1 q2 q3 => (h2.1 a (by omega)).trans ((z0 a q1).trans (h1.1 a (by omega)))
  have e2 : S2.2 = S.2 := h2.2.1.trans h1.2.1
  have v1 : S2.1 131 1 = S1.1 17 1 := by rw [h2.1 131 (by decide), zput_k _ _ (by decide), zput_at]
  have v2 : S2.1 131 2 = S1.1 17 2 := by rw [h2.1 131 (by decide), zput_at]
  have hb : CRb 115 (zput S2 0 4 (nI 1)) G.1 := by
    refine ((((CRb_1 i1).mpr g1).tk i1 h1).fr i1 (S' := S2) (fun a q1 q2 => ?_)).fr i1 (fun a q1 q2 => zput_ne _ _ (by omega))
    rw [h2.1 a (by omega), z0 a (by omega)]
  have hp0 : PRr (zput (zput S1 131 1 (S1.1 17 1)) 131 2 (S1.1 17 2)) 17 19 G.2.1 := g2.fr i2 (by rw [z0 17 (by decide), h1.1 17 (by decide)]) (fun a q1 q2 => by rw [z0 a (by omega), h1.1 a (by omega)])
  have hp : PRr S2 131 133 G.2.1 := hp0.pt i2 h2 (by rw [v1, z0 17 (by decide)]) (by rw [v2, z0 17 (by decide)])
  have y : ∀ a, a ≠ 0 → (zput S2 0 4 (nI 1)).1 a = S2.1 a := fun a q => zput_ne _ _ q
  refine ⟨⟨?_, ?_, ⟨zput_at _ _ _ _, fun _ => ⟨hb, hp.fr i2 (y _ (by decide)) (fun a q1 q2 => y a (by omega))⟩⟩, ?_, ?_⟩, fun a ha => ⟨(y a (by omega)).trans (e a (by omega) (by omega) (by omega)), by show S2.2 a = _; rw [e2]⟩⟩
  · exact (CRb_1 i1).mp (((CRb_1 i1).mpr g1).fr i1 (fun a q1 q2 => (y a (by omega)).trans (e a (by omega) (by omega) (by omega))))
  · exact g2.fr i2 ((y _ (by decide)).trans (e _ (by decide) (by decide) (by decide))) (fun a q1 q2 => (y a (by omega)).trans (e a (by omega) (by omega) (by omega)))
  · exact g4.fr ((y _ (by decide)).trans (e _ (by decide) (by decide) (by decide))) ((y _ (by decide)).trans (e _ (by decide) (by decide) (by decide)))
  · exact g5.fr (fun a q1 q2 => ⟨(y a (by omega)).trans (e a (by omega) (by omega) (by omega)), by show S2.2 a = _; rw [e2]⟩)
theorem restoreOK {S S1 S2 : zS} {G : zG} (h : CG S G) (hI : GI G) (hit : G.2.2.1.1 = true) (h1 : TKp 1 115 S S1) (h2 : PT 19 133 (zput (zput S1 17 1 (S1.1 131 1)) 17 2 (S1.1 131 2)) S2 6) : CG S2 (G.2.2.1.2.1, G.2.2.1.2.2, G.2.2) ∧ zfc S S2 := by
  obtain ⟨g1, g2, g3, g4, g5⟩ := h
  obtain ⟨i1, i2, i3, i4⟩ := hI
  obtain ⟨gb, gp⟩ := g3.2 hit
  obtain ⟨ib, ip⟩ := i3 hit
  have z0 : ∀ a, a ≠ 17 → (zput (zput S1 17 1 (S1.1 131 1)) 17 2 (S1.1 131 2)).1 a = S1.1 a := fun a q => by rw [zput_ne _ _ q, zput_ne _ _ q]
  have e : ∀ a, a ≠ 17 → (a < 1 ∨ 17 ≤ a) → (a < 19 ∨ 115 ≤ a) → S2.1 a = S.1 a := fun a q1 q2 q3 => (h2.1 a (by omega)).trans ((z0 a q1).trans (h1.1 a (by omega)))
  have e2 : S2.2 = S.2 := h2.2.1.trans h1.2.1
  have v1 : S2.1 17 1 = S1.1 131 1 := by rw [h2.1 17 (by decide), zput_k _ _ (by decide), zput_at]
  have v2 : S2.1 17 2 = S1.1 131 2 := by rw [h2.1 17 (by decide), zput_at]
  have hb : CR S2 G.2.2.1.2.1 := by
    refine (CRb_1 ib).mp ((gb.tk ib h1).fr ib (fun a q1 q2 => ?_))
    rw [h2.1 a (by omega), z0 a (by omega)]
  have hp0 : PRr (zput (zput S1 17 1 (S1.1 131 1)) 17 2 (S1.1 131 2)) 131 133 G.2.2.1.2.2 := gp.fr ip (by rw [z0 131 (by decide), h1.1 131 (by decide)]) (fun a q1 q2 => by rw [z0 a (by omega), h1.1 a (by omega)])
  have hp : PRr S2 17 19 G.2.2.1.2.2 := hp0.pt ip h2 (by rw [v1, z0 131 (by decide)]) (by rw [v2, z0 131 (by decide)])
  refine ⟨⟨hb, hp, ⟨by rw [e 0 (by decide) (by decide) (by decide)]; exact g3.1, fun q => ⟨gb.fr ib (fun a q1 q2 => e a (by omega) (by omega) (by omega)), gp.fr ip (e _ (by decide) (by decide) (by decide)) (fun a q1 q2 => e a (by omega) (by omega) (by omega))⟩⟩, g4.fr (e _ (by decide) (by decide) (by decide)) (e _ (by decide) (by decide) (by decide)), g5.fr (fun a q1 q2 => ⟨e a (by omega) (by omega) (by omega), by rw [e2]⟩)⟩, fun a ha => ⟨e a (by omega) (by omega) (by omega), by rw [e2]⟩⟩
def spX8_undo : zSp := fun av S Q => ∃ (G : zG), av = [.ref 0] ∧ CG S G ∧ GI G ∧ ∀ S', CG S' (fUndo G).2 → zfc S S' → Q (some (.int (fUndo G).1)) S'
set_option maxHeartbeats 4000000 in
set_option maxRecDepth 100000 in
theorem tX8_undo : zM yX8_undo cX8_undo 1 (some .int) 4 spX8_undo := by
  refine zM.of (by decide) (by decide) (fun av S Q h => by obtain ⟨G, rfl, hCG, hGI, hQ⟩ := h; exact Nat.le_of_ble_eq_true rfl) (fun C τ ι av S Q Qr h hr hC hE => ?_)
  obtain ⟨G, rfl, hCG, hGI, hQ⟩ := h
  unfold fUndo at hQ
  show zR C τ ι _ 0 0 0 [(0, .ref 0)] [] _
  refine zr_aload_n hC dX8_undo_0 rfl ?_
  refine zs_getr hC dX8_undo_1 fl_X8_19 (a := 0) (r := 17) rfl (by decide) ?_
  refine zv_geti hC dX8_undo_4 fl_X8_200 (a := 17) rfl (by decide) (hCG.2.1.1) ?_
  refine zr_if_ne hC dX8_undo_7 (tgt := 13) (by decide) (fun c_7 => ?_) (fun c_7 => ?_)
  · rw [z_ne0 (by have := hCG.2.1.2.1; omega)] at c_7
    rw [if_neg c_7] at hQ
    refine zr_aload_n hC dX8_undo_13 rfl ?_
    refine zs_getr hC dX8_undo_14 fl_X8_19 (a := 0) (r := 17) rfl (by decide) ?_
    refine zr_aload_n hC dX8_undo_17 rfl ?_
    refine zs_getr hC dX8_undo_18 fl_X8_12 (a := 0) (r := 1) rfl (by decide) ?_
    refine zs_callV hC (b := 17) [_] [] dX8_undo_21 ml_X8_251 mtX3_goBack tX3_goBack (by decide) (by decide) (by decide) rfl rfl (by decide) (by decide +kernel) (Nat.le_of_ble_eq_true rfl) rfl ?_
    refine backOK hCG hGI c_7 (fun S1 hC1 hf1 => ?_)
    dsimp only [Option.toList, List.nil_append]
    refine zr_aload_n hC dX8_undo_24 rfl ?_
    refine zs_getr hC dX8_undo_25 fl_X8_19 (a := 0) (r := 17) rfl (by decide) ?_
    refine zv_geti hC dX8_undo_28 fl_X8_200 (a := 17) rfl (by decide) (hC1.2.1.1) ?_
    exact zr_ireturn hC hE dX8_undo_31 (hr _ _ (by first | exact hQ _ hC1 hf1 | exact hQ _ hCG zfc.rf))
  · rw [z_ne0 (by have := hCG.2.1.2.1; omega)] at c_7
    rw [if_pos c_7] at hQ
    refine zk_bipush hC dX8_undo_10 (v := (-4)) (by decide +kernel) ?_
    exact zr_ireturn hC hE dX8_undo_12 (hr _ _ (by first | exact hQ _ hC1 hf1 | exact hQ _ hCG zfc.rf))
theorem z_ge0 {x : Int32} (h : 0 ≤ x) : ¬ x < 0 := Int32.not_lt.mpr h
def spX8_seed : zSp := fun av S Q => ∃ (G : zG) (x : Int32), av = [.ref 0, .int x] ∧ CG S G ∧ GI G ∧ ∀ S', CG S' (fSeed x G).2 → zfc S S' → Q (some (.int (fSeed x G).1)) S'
set_option maxHeartbeats 4000000 in
set_option maxRecDepth 100000 in
theorem tX8_seed : zM yX8_seed cX8_seed 3 (some .int) 0 spX8_seed := by
  refine zM.of (by decide) (by decide) (fun av S Q h => by obtain ⟨G, x, rfl, hCG, hGI, hQ⟩ := h; exact Nat.le_of_ble_eq_true rfl) (fun C τ ι av S Q Qr h hr hC hE => ?_)
  obtain ⟨G, x, rfl, hCG, hGI, hQ⟩ := h
  show zR C τ ι _ 0 0 0 [(0, .ref 0), (1, .int x)] [] _
  refine zr_iload_n hC dX8_seed_0 rfl ?_
  refine zr_if_ge hC dX8_seed_1 (tgt := 6) (by decide) (fun c_1 => ?_) (fun c_1 => ?_)
  · obtain ⟨j, hj, rfl⟩ := nI_of (x := x) (z_ge0 c_1)
    simp only [fSeed, if_neg (nI_pos hj), pk_tn (show j < 2 ^ 32 by omega)] at hQ
    refine zr_aload_n hC dX8_seed_6 rfl ?_
    refine zs_getr hC dX8_seed_7 fl_X8_12 (a := 0) (r := 1) rfl (by decide) ?_
    refine zv_geti hC dX8_seed_10 fl_X8_254 (a := 1) rfl (by decide) (hCG.1.qr.2) ?_
    refine zr_istore_n hC dX8_seed_13 (by decide) ?_
    refine zr_aload_n hC dX8_seed_14 rfl ?_
    refine zs_getr hC dX8_seed_15 fl_X8_12 (a := 0) (r := 1) rfl (by decide) ?_
    refine zr_iload_n hC dX8_seed_18 rfl ?_
    refine zs_puti hC dX8_seed_19 fl_X8_254 fp_X0_7 (a := 1) rfl (by decide) ?_
    refine zr_iload_n hC dX8_seed_22 rfl ?_
    exact zr_ireturn hC hE dX8_seed_23 (hr _ _ (by first | exact hQ _ (hCG.book hGI (hCG.1.draw j) (zfrm.rf.put (by decide) (by decide))) (fun a ha => ⟨zput_ne _ _ (by omega), rfl⟩) | exact hQ _ hCG zfc.rf))
  · simp only [fSeed, if_pos (Int32.not_le.mp c_1)] at hQ
    refine zk_iconst hC dX8_seed_4 (v := (-1)) (by decide +kernel) ?_
    exact zr_ireturn hC hE dX8_seed_5 (hr _ _ (by first | exact hQ _ (hCG.book hGI (hCG.1.draw j) (zfrm.rf.put (by decide) (by decide))) (fun a ha => ⟨zput_ne _ _ (by omega), rfl⟩) | exact hQ _ hCG zfc.rf))
def spX8_image : zSp := fun av S Q => ∃ (G : zG), av = [.ref 0] ∧ CG S G ∧ GI G ∧ ∀ S', CG S' (fImage G).2 → zfc S S' → Q (some (.int (fImage G).1)) S'
set_option maxHeartbeats 4000000 in
set_option maxRecDepth 100000 in
theorem tX8_image : zM yX8_image cX8_image 1 (some .int) 4 spX8_image := by
  refine zM.of (by decide) (by decide) (fun av S Q h => by obtain ⟨G, rfl, hCG, hGI, hQ⟩ := h; exact Nat.le_of_ble_eq_true rfl) (fun C τ ι av S Q Qr h hr hC hE => ?_)
  obtain ⟨G, rfl, hCG, hGI, hQ⟩ := h
  show zR C τ ι _ 0 0 0 [(0, .ref 0)] [] _
  refine zr_aload_n hC dX8_image_0 rfl ?_
  refine zs_getr hC dX8_image_1 fl_X8_23 (a := 0) (r := 115) rfl (by decide) ?_
  refine zr_aload_n hC dX8_image_4 rfl ?_
  refine zs_getr hC dX8_image_5 fl_X8_12 (a := 0) (r := 1) rfl (by decide) ?_
  refine zs_callV hC (b := 115) [_] [] dX8_image_8 ml_X8_257 mtX0_take tX0_take (by decide) (by decide) (by decide) rfl rfl (by decide) (by decide +kernel) (Nat.le_of_ble_eq_true rfl) rfl ?_
  refine ⟨115, 1, rfl, isB_115, isB_1, by omega, fun S1 h1 => ?_⟩
  dsimp only [Option.toList, List.nil_append]
  refine zr_aload_n hC dX8_image_11 rfl ?_
  refine zs_getr hC dX8_image_12 fl_X8_26 (a := 0) (r := 131) rfl (by decide) ?_
  refine zr_aload_n hC dX8_image_15 rfl ?_
  refine zs_getr hC dX8_image_16 fl_X8_19 (a := 0) (r := 17) rfl (by decide) ?_
  refine zs_callV hC (b := 131) [_] [] dX8_image_19 ml_X8_259 mtX3_take tX3_take (by decide) (by decide) (by decide) rfl rfl (by decide) (by decide +kernel) (Nat.le_of_ble_eq_true rfl) rfl ?_
  refine ⟨131, 17, 133, 19, rfl, Or.inl ⟨rfl, rfl, rfl, rfl⟩, fun S2 h2 => ?_⟩
  obtain ⟨hC3, hf3⟩ := imageOK hCG hGI h1 h2
  dsimp only [Option.toList, List.nil_append]
  refine zr_aload_n hC dX8_image_22 rfl ?_
  refine zk_iconst hC dX8_image_23 (v := nI 1) (by decide +kernel) ?_
  refine zs_putz hC dX8_image_24 fl_X8_262 fp_X8_4 (a := 0) rfl (by decide) (Or.inr rfl) ?_
  refine zk_iconst hC dX8_image_27 (v := nI 1) (by decide +kernel) ?_
  exact zr_ireturn hC hE dX8_image_28 (hr _ _ (hQ _ hC3 hf3))
def spX8_restore : zSp := fun av S Q => ∃ (G : zG), av = [.ref 0] ∧ CG S G ∧ GI G ∧ ∀ S', CG S' (fRestore G).2 → zfc S S' → Q (some (.int (fRestore G).1)) S'
set_option maxHeartbeats 4000000 in
set_option maxRecDepth 100000 in
theorem tX8_restore : zM yX8_restore cX8_restore 1 (some .int) 4 spX8_restore := by
  refine zM.of (by decide) (by decide) (fun av S Q h => by obtain ⟨G, rfl, hCG, hGI, hQ⟩ := h; exact Nat.le_of_ble_eq_true rfl) (fun C τ ι av S Q Qr h hr hC hE => ?_)
  obtain ⟨G, rfl, hCG, hGI, hQ⟩ := h
  unfold fRestore at hQ
  show zR C τ ι _ 0 0 0 [(0, .ref 0)] [] _
  rcases (show G.2.2.1.1 = false ∨ G.2.2.1.1 = true from by cases G.2.2.1.1 <;> simp) with hit | hit
  · have hz : S.1 0 4 = nI 0 := hCG.2.2.1.1.trans (by rw [hit]; rfl)
    rw [if_neg (by rw [hit]; decide)] at hQ
    refine zr_aload_n hC dX8_restore_0 rfl ?_
    refine zv_geti hC dX8_restore_1 fl_X8_262 (a := 0) rfl (by decide) (hz) ?_
    refine zr_if_ne hC dX8_restore_4 (tgt := 10) (by decide) (fun c => absurd c (by decide +kernel)) (fun c_4 => ?_)
    refine zk_bipush hC dX8_restore_7 (v := (-4)) (by decide +kernel) ?_
    exact zr_ireturn hC hE dX8_restore_9 (hr _ _ (by first | exact hQ _ hC3 hf3 | exact hQ _ hCG zfc.rf))
  · have hz : S.1 0 4 = nI 1 := hCG.2.2.1.1.trans (by rw [hit]; rfl)
    rw [if_pos hit] at hQ
    refine zr_aload_n hC dX8_restore_0 rfl ?_
    refine zv_geti hC dX8_restore_1 fl_X8_262 (a := 0) rfl (by decide) (hz) ?_
    refine zr_if_ne hC dX8_restore_4 (tgt := 10) (by decide) (fun c_4 => ?_) (fun c => absurd c (by decide +kernel))
    refine zr_aload_n hC dX8_restore_10 rfl ?_
    refine zs_getr hC dX8_restore_11 fl_X8_12 (a := 0) (r := 1) rfl (by decide) ?_
    refine zr_aload_n hC dX8_restore_14 rfl ?_
    refine zs_getr hC dX8_restore_15 fl_X8_23 (a := 0) (r := 115) rfl (by decide) ?_
    refine zs_callV hC (b := 1) [_] [] dX8_restore_18 ml_X8_257 mtX0_take tX0_take (by decide) (by decide) (by decide) rfl rfl (by decide) (by decide +kernel) (Nat.le_of_ble_eq_true rfl) rfl ?_
    refine ⟨1, 115, rfl, isB_1, isB_115, by omega, fun S1 h1 => ?_⟩
    dsimp only [Option.toList, List.nil_append]
    refine zr_aload_n hC dX8_restore_21 rfl ?_
    refine zs_getr hC dX8_restore_22 fl_X8_19 (a := 0) (r := 17) rfl (by decide) ?_
    refine zr_aload_n hC dX8_restore_25 rfl ?_
    refine zs_getr hC dX8_restore_26 fl_X8_26 (a := 0) (r := 131) rfl (by decide) ?_
    refine zs_callV hC (b := 17) [_] [] dX8_restore_29 ml_X8_259 mtX3_take tX3_take (by decide) (by decide) (by decide) rfl rfl (by decide) (by decide +kernel) (Nat.le_of_ble_eq_true rfl) rfl ?_
    refine ⟨17, 131, 19, 133, rfl, Or.inr ⟨rfl, rfl, rfl, rfl⟩, fun S2 h2 => ?_⟩
    obtain ⟨hC3, hf3⟩ := restoreOK hCG hGI hit h1 h2
    dsimp only [Option.toList, List.nil_append]
    refine zk_iconst hC dX8_restore_32 (v := nI 1) (by decide +kernel) ?_
    exact zr_ireturn hC hE dX8_restore_33 (hr _ _ (by first | exact hQ _ hC3 hf3 | exact hQ _ hCG zfc.rf))
