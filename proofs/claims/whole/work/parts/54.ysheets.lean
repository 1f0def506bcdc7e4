/-! THE CALLS OF THE MODEL: sheets -/
theorem z_3 {x : Int32} (h : nI 3 < x) : nI 4 ≤ x := by
  rw [Int32.lt_iff_toInt_lt, nI_toInt (by decide)] at h
  rw [Int32.le_iff_toInt_le, nI_toInt (by decide)]
  omega
theorem caI_ge {x : Nat} (h : x < 1000) : 0 ≤ caI x ↔ x ≠ 0 := by
  cases x with
  | zero => decide
  | succ n => exact ⟨fun _ => Nat.succ_ne_zero n, fun _ => nI_pos' (by omega)⟩
theorem shref_ge {h : zH} {t c : Nat} {i n : Int32} : 0 ≤ shref h t c i n ↔ shref h t c i n = nI 0 := by
  unfold shref
  split
  · decide
  · split
    · decide
    · split <;> decide
theorem MG.sh {S S' : zS} {G : zG} (h : MG S G) {hh : zH} (hM : MSH S' hh) (he : ∀ a, a ≠ 255 → a ≠ 256 → S'.1 a = S.1 a) : MG S' (gsh G hh) := by
  obtain ⟨a, b, c, d, e⟩ := h
  exact ⟨by rw [he 246 (by decide) (by decide)]; exact a, b.fr (by rw [he 245 (by decide) (by decide)]) (he _ (by decide) (by decide)), c.fr (by rw [he 245 (by decide) (by decide)]) (he _ (by decide) (by decide)) (he _ (by decide) (by decide)), d.fr (by rw [he 245 (by decide) (by decide)]) (he _ (by decide) (by decide)), hM⟩
theorem MSH.put {S : zS} {h : zH} (hh : MSH S h) {t k : Nat} {v : Int64} (hk : k < 24) : MSH (zputL S 257 (24 * t + k) v) (itset h t k v) := fun u hu => by
  obtain ⟨h1, h2, h3⟩ := hh u hu
  refine ⟨h1, h2, fun q0 => ⟨(h3 q0).1, (h3 q0).2.1, fun j hj => ?_⟩⟩
  have hz := (h3 q0).2.1
  replace hj : j < h.2.1 u := hj
  show (zputL S 257 (24 * t + k) v).2 257 (24 * u + j) = if u = t ∧ j = k then v else h.2.2 u j
  by_cases q : u = t ∧ j = k
  · rw [if_pos q, q.1, q.2]; simp [zputL]
  · rw [if_neg q, ← (h3 q0).2.2 j hj]
    exact if_neg (fun z => q (by omega))
theorem zputL_m {S : zS} {a k : Nat} {v : Int64} (h : 245 ≤ a) : zfm S (zputL S a k v) := fun x hx => ⟨rfl, zputL_ne _ _ (by omega)⟩
def spX9_isSheet : zSp := fun av S Q => ∃ x : Int32, av = [.int x] ∧ ∀ r, (r = nI 1 ∧ ∃ j, j < 4 ∧ x = nI j) ∨ (r = nI 0 ∧ (x < 0 ∨ nI 4 ≤ x)) → Q (some (.int r)) S
set_option maxHeartbeats 1000000 in
set_option maxRecDepth 100000 in
theorem tX9_isSheet : zM yX9_isSheet cX9_isSheet 1 (some .boolean) 1 spX9_isSheet := by
  refine zM.of (by decide) (by decide) (fun av S Q h => by obtain ⟨x, rfl, hQ⟩ := h; exact Nat.le_of_ble_eq_true rfl) (fun C τ ι av S Q Qr h hr hC hE => ?_)
  obtain ⟨x, rfl, hQ⟩ := h
  show zR C τ ι _ 0 0 0 [(0, .int x)] [] _
  refine zr_iload_n hC dX9_isSheet_0 rfl ?_
  refine zr_i2l hC dX9_isSheet_1 ?_
  refine zr_lconst hC dX9_isSheet_2 ?_
  refine zr_ldc2 hC dX9_isSheet_3 kl_X9_245 ?_
  refine zs_callS hC [_, _, _] [] dX9_isSheet_6 ml_X9_60 mtX9_in tX9_in (by decide) (by decide) (by decide) rfl (Nat.le_of_ble_eq_true rfl) rfl ?_
  refine ⟨_, _, _, rfl, fun r e => ?_⟩
  obtain ⟨w1, w2⟩ := z_one (x := x) (lo := nI 0) (hi := nI 3) rfl (show Int64.ofNat 0 = _ by decide +kernel) (show (3 : Int64) = _ by decide +kernel)
  have e : (r = nI 1 ∧ ¬ x < nI 0 ∧ ¬ nI 3 < x) ∨ (r = nI 0 ∧ (x < nI 0 ∨ nI 3 < x)) := by
    rcases e with ⟨e, e1, e2⟩ | ⟨e, e1⟩
    · exact Or.inl ⟨e, fun q => e1 (w1.mpr q), fun q => e2 (w2.mpr q)⟩
    · exact Or.inr ⟨e, e1.imp w1.mp w2.mp⟩
  rcases e with ⟨rfl, e1, e2⟩ | ⟨rfl, e1⟩
  · have hx : ∃ j, j < 4 ∧ x = nI j := by obtain ⟨j, j1, j2, j3⟩ := rg_in e1 e2 (by decide) (by decide); exact ⟨j, by omega, j3⟩
    dsimp only [Option.toList, List.cons_append, List.nil_append]
    exact zr_zreturn hC hE dX9_isSheet_9 (by first | exact Or.inl rfl | exact Or.inr rfl) (hr _ _ (hQ _ (by first | exact Or.inl ⟨rfl, hx⟩ | exact Or.inr ⟨rfl, hx⟩)))
  · have hx := e1.imp id z_3
    dsimp only [Option.toList, List.cons_append, List.nil_append]
    exact zr_zreturn hC hE dX9_isSheet_9 (by first | exact Or.inl rfl | exact Or.inr rfl) (hr _ _ (hQ _ (by first | exact Or.inl ⟨rfl, hx⟩ | exact Or.inr ⟨rfl, hx⟩)))
def spX9_cut : zSp := fun av S Q => ∃ (v : Int64) (c : Nat), av = [.long v, .int (nI c)] ∧ c < 4 ∧ Q (some (.long (lcut c v))) S
set_option maxHeartbeats 1000000 in
set_option maxRecDepth 100000 in
theorem tX9_cut : zM yX9_cut cX9_cut 3 (some .long) 0 spX9_cut := by
  refine zM.of (by decide) (by decide) (fun av S Q h => by obtain ⟨v, c, rfl, hc, hQ⟩ := h; exact Nat.le_of_ble_eq_true rfl) (fun C τ ι av S Q Qr h hr hC hE => ?_)
  obtain ⟨v, c, rfl, hc, hQ⟩ := h
  show zR C τ ι _ 0 0 0 [(0, .long v), (2, .int (nI c))] [] _
  rcases (by omega : c = 0 ∨ c = 1 ∨ c = 2 ∨ c = 3) with rfl | rfl | rfl | rfl
  · refine zr_iload_n hC dX9_cut_0 rfl ?_
    refine zr_if_ne hC dX9_cut_1 (tgt := 11) (by decide) (fun c => absurd c (by decide +kernel)) (fun c_1 => ?_)
    refine zr_lload_n hC dX9_cut_4 rfl ?_
    refine zr_l2i hC dX9_cut_5 ?_
    refine zr_i2b hC dX9_cut_6 ?_
    refine zr_i2l hC dX9_cut_7 ?_
    refine zr_goto hC dX9_cut_8 (tgt := 35) (by decide) ?_
    exact zr_lreturn hC hE dX9_cut_35 (hr _ _ (hQ))
  · refine zr_iload_n hC dX9_cut_0 rfl ?_
    refine zr_if_ne hC dX9_cut_1 (tgt := 11) (by decide) (fun c_1 => ?_) (fun c => absurd c (by decide +kernel))
    refine zr_iload_n hC dX9_cut_11 rfl ?_
    refine zk_iconst hC dX9_cut_12 (v := nI 1) (by decide +kernel) ?_
    refine zr_icmp_ne hC dX9_cut_13 (tgt := 23) (by decide) (fun c => absurd c (by decide +kernel)) (fun c_13 => ?_)
    refine zr_lload_n hC dX9_cut_16 rfl ?_
    refine zr_l2i hC dX9_cut_17 ?_
    refine zr_i2s hC dX9_cut_18 ?_
    refine zr_i2l hC dX9_cut_19 ?_
    refine zr_goto hC dX9_cut_20 (tgt := 35) (by decide) ?_
    exact zr_lreturn hC hE dX9_cut_35 (hr _ _ (hQ))
  · refine zr_iload_n hC dX9_cut_0 rfl ?_
    refine zr_if_ne hC dX9_cut_1 (tgt := 11) (by decide) (fun c_1 => ?_) (fun c => absurd c (by decide +kernel))
    refine zr_iload_n hC dX9_cut_11 rfl ?_
    refine zk_iconst hC dX9_cut_12 (v := nI 1) (by decide +kernel) ?_
    refine zr_icmp_ne hC dX9_cut_13 (tgt := 23) (by decide) (fun c_13 => ?_) (fun c => absurd c (by decide +kernel))
    refine zr_iload_n hC dX9_cut_23 rfl ?_
    refine zk_iconst hC dX9_cut_24 (v := nI 2) (by decide +kernel) ?_
    refine zr_icmp_ne hC dX9_cut_25 (tgt := 34) (by decide) (fun c => absurd c (by decide +kernel)) (fun c_25 => ?_)
    refine zr_lload_n hC dX9_cut_28 rfl ?_
    refine zr_l2i hC dX9_cut_29 ?_
    refine zr_i2l hC dX9_cut_30 ?_
    refine zr_goto hC dX9_cut_31 (tgt := 35) (by decide) ?_
    exact zr_lreturn hC hE dX9_cut_35 (hr _ _ (hQ))
  · refine zr_iload_n hC dX9_cut_0 rfl ?_
    refine zr_if_ne hC dX9_cut_1 (tgt := 11) (by decide) (fun c_1 => ?_) (fun c => absurd c (by decide +kernel))
    refine zr_iload_n hC dX9_cut_11 rfl ?_
    refine zk_iconst hC dX9_cut_12 (v := nI 1) (by decide +kernel) ?_
    refine zr_icmp_ne hC dX9_cut_13 (tgt := 23) (by decide) (fun c_13 => ?_) (fun c => absurd c (by decide +kernel))
    refine zr_iload_n hC dX9_cut_23 rfl ?_
    refine zk_iconst hC dX9_cut_24 (v := nI 2) (by decide +kernel) ?_
    refine zr_icmp_ne hC dX9_cut_25 (tgt := 34) (by decide) (fun c_25 => ?_) (fun c => absurd c (by decide +kernel))
    refine zr_lload_n hC dX9_cut_34 rfl ?_
    exact zr_lreturn hC hE dX9_cut_35 (hr _ _ (hQ))
def spX9_whyNot : zSp := fun av S Q => ∃ (t c b : Nat) (h : zH) (i : Int32), av = [.ref 245, .int (nI t), .int (nI c), .int i, .int (nI b)] ∧ t < 4 ∧ c < 4 ∧ b < 1000 ∧ MSH S h ∧ Q (some (.int (shref h t c i (nI b)))) S
set_option maxHeartbeats 1000000 in
set_option maxRecDepth 100000 in
theorem tX9_whyNot : zM yX9_whyNot cX9_whyNot 5 (some .int) 0 spX9_whyNot := by
  refine zM.of (by decide) (by decide) (fun av S Q h => by obtain ⟨t, c, b, h, i, rfl, ht, hc, hb, hS, hQ⟩ := h; exact Nat.le_of_ble_eq_true rfl) (fun C τ ι av S Q Qr h hr hC hE => ?_)
  obtain ⟨t, c, b, h, i, rfl, ht, hc, hb, hS, hQ⟩ := h
  show zR C τ ι _ 0 0 0 [(0, .ref 245), (1, .int (nI t)), (2, .int (nI c)), (3, .int i), (4, .int (nI b))] [] _
  obtain ⟨s1, s2, s3⟩ := hS t ht
  refine zr_aload_n hC dX9_whyNot_0 rfl ?_
  refine zs_getr hC dX9_whyNot_1 fl_X9_42 (a := 245) (r := 255) rfl (by decide) ?_
  refine zr_iload_n hC dX9_whyNot_4 rfl ?_
  refine zv_iald hC dX9_whyNot_5 (a := 255) (n := 4) rfl (by decide) (by decide) (j := t) rfl ht (s1) ?_
  refine zr_if_ge hC dX9_whyNot_6 (tgt := 12) (by decide) (fun c_6 => ?_) (fun c_6 => ?_)
  · rw [caI_ge (by omega)] at c_6
    rw [shref, if_neg c_6] at hQ
    obtain ⟨s4, s5, -⟩ := s3 c_6
    refine zr_aload_n hC dX9_whyNot_12 rfl ?_
    refine zs_getr hC dX9_whyNot_13 fl_X9_42 (a := 245) (r := 255) rfl (by decide) ?_
    refine zr_iload_n hC dX9_whyNot_16 rfl ?_
    refine zv_iald hC dX9_whyNot_17 (a := 255) (n := 4) rfl (by decide) (by decide) (j := t) rfl ht (s1) ?_
    refine zr_iload_n hC dX9_whyNot_18 rfl ?_
    refine zr_icmp_eq hC dX9_whyNot_19 (tgt := 25) (by decide) (fun c_19 => ?_) (fun c_19 => ?_)
    · rw [caI_k (by omega) (by omega)] at c_19
      rw [if_neg (not_not_intro c_19)] at hQ
      refine zr_iload_n hC dX9_whyNot_25 rfl ?_
      refine zr_if_lt hC dX9_whyNot_26 (tgt := 42) (by decide) (fun c_26 => ?_) (fun c_26 => ?_)
      · rw [if_neg (fun q => LK_1 s5 c_26 ((lkb_iff s5).mp q))] at hQ
        refine zk_bipush hC dX9_whyNot_42 (v := (-13)) (by decide +kernel) ?_
        refine zr_goto hC dX9_whyNot_44 (tgt := 48) (by decide) ?_
        exact zr_ireturn hC hE dX9_whyNot_48 (hr _ _ (hQ))
      · refine zr_iload hC dX9_whyNot_29 rfl ?_
        refine zr_aload_n hC dX9_whyNot_31 rfl ?_
        refine zs_getr hC dX9_whyNot_32 fl_X9_45 (a := 245) (r := 256) rfl (by decide) ?_
        refine zr_iload_n hC dX9_whyNot_35 rfl ?_
        refine zv_iald hC dX9_whyNot_36 (a := 256) (n := 4) rfl (by decide) (by decide) (j := t) rfl ht (s4) ?_
        refine zr_iload_n hC dX9_whyNot_37 rfl ?_
        refine zr_isub hC dX9_whyNot_38 ?_
        refine zr_icmp_le hC dX9_whyNot_39 (tgt := 47) (by decide) (fun c_39 => ?_) (fun c_39 => ?_)
        · rw [LK_3 s5 c_26 (nI_pos (by omega))] at c_39
          rw [if_pos ((lkb_iff s5).mpr c_39)] at hQ
          refine zk_iconst hC dX9_whyNot_47 (v := nI 0) (by decide +kernel) ?_
          exact zr_ireturn hC hE dX9_whyNot_48 (hr _ _ (hQ))
        · rw [LK_3 s5 c_26 (nI_pos (by omega))] at c_39
          rw [if_neg (fun q => c_39 ((lkb_iff s5).mp q))] at hQ
          refine zk_bipush hC dX9_whyNot_42 (v := (-13)) (by decide +kernel) ?_
          refine zr_goto hC dX9_whyNot_44 (tgt := 48) (by decide) ?_
          exact zr_ireturn hC hE dX9_whyNot_48 (hr _ _ (hQ))
    · rw [caI_k (by omega) (by omega)] at c_19
      rw [if_pos c_19] at hQ
      refine zk_bipush hC dX9_whyNot_22 (v := (-12)) (by decide +kernel) ?_
      exact zr_ireturn hC hE dX9_whyNot_24 (hr _ _ (hQ))
  · rw [caI_ge (by omega)] at c_6
    rw [shref, if_pos (Decidable.not_not.mp c_6)] at hQ
    refine zk_bipush hC dX9_whyNot_9 (v := (-11)) (by decide +kernel) ?_
    exact zr_ireturn hC hE dX9_whyNot_11 (hr _ _ (hQ))
def spX9_item : zSp := fun av S Q => ∃ (G : zG) (s : Int32) (l : Int32) (i : Int32) (v : Int64), av = [.ref 245, .int s, .int l, .int i, .long v] ∧ MG S G ∧ GI G ∧ ∀ S', MG S' (fItem s l i v G).2 → zfm S S' → Q (some (.int (fItem s l i v G).1)) S'
set_option maxHeartbeats 1000000 in
set_option maxRecDepth 100000 in
theorem tX9_item : zM yX9_item cX9_item 7 (some .int) 2 spX9_item := by
  refine zM.of (by decide) (by decide) (fun av S Q h => by obtain ⟨G, s, l, i, v, rfl, hMG, hGI, hQ⟩ := h; exact Nat.le_of_ble_eq_true rfl) (fun C τ ι av S Q Qr h hr hC hE => ?_)
  obtain ⟨G, s, l, i, v, rfl, hMG, hGI, hQ⟩ := h
  show zR C τ ι _ 0 0 0 [(0, .ref 245), (1, .int s), (2, .int l), (3, .int i), (4, .long v)] [] _
  refine zr_iload_n hC dX9_item_0 rfl ?_
  refine zs_callS hC [_] [] dX9_item_1 ml_X9_247 mtX9_isSheet tX9_isSheet (by decide) (by decide) (by decide) rfl (Nat.le_of_ble_eq_true rfl) rfl ?_
  refine ⟨s, rfl, fun r e => ?_⟩
  rcases e with ⟨rfl, t, ht, rfl⟩ | ⟨rfl, hx⟩
  · dsimp only [Option.toList, List.cons_append, List.nil_append]
    refine zr_if_eq hC dX9_item_4 (tgt := 19) (by decide) (fun c => absurd c (by decide +kernel)) (fun c_4 => ?_)
    refine zr_iload_n hC dX9_item_7 rfl ?_
    refine zr_i2l hC dX9_item_8 ?_
    refine zr_lconst hC dX9_item_9 ?_
    refine zr_ldc2 hC dX9_item_10 kl_X9_245 ?_
    refine zs_callS hC [_, _, _] [] dX9_item_13 ml_X9_60 mtX9_in tX9_in (by decide) (by decide) (by decide) rfl (Nat.le_of_ble_eq_true rfl) rfl ?_
    refine ⟨_, _, _, rfl, fun r e => ?_⟩
    obtain ⟨w1, w2⟩ := z_one (x := l) (lo := nI 0) (hi := nI 3) rfl (show Int64.ofNat 0 = _ by decide +kernel) (show (3 : Int64) = _ by decide +kernel)
    have e : (r = nI 1 ∧ ¬ l < nI 0 ∧ ¬ nI 3 < l) ∨ (r = nI 0 ∧ (l < nI 0 ∨ nI 3 < l)) := by
      rcases e with ⟨e, e1, e2⟩ | ⟨e, e1⟩
      · exact Or.inl ⟨e, fun q => e1 (w1.mpr q), fun q => e2 (w2.mpr q)⟩
      · exact Or.inr ⟨e, e1.imp w1.mp w2.mp⟩
    rcases e with ⟨rfl, e1, e2⟩ | ⟨rfl, e1⟩
    · obtain ⟨c, -, hc3, rfl⟩ := rg_in e1 e2 (by decide) (by decide)
      have hc : c < 4 := by omega
      dsimp only [Option.toList, List.cons_append, List.nil_append]
      refine zr_if_ne hC dX9_item_16 (tgt := 21) (by decide) (fun c_16 => ?_) (fun c => absurd c (by decide +kernel))
      simp only [fItem, mm_yes ht (show 4 < 2147483648 by decide), mm_yes hc (show 4 < 2147483648 by decide)] at hQ
      refine zr_aload_n hC dX9_item_21 rfl ?_
      refine zr_iload_n hC dX9_item_22 rfl ?_
      refine zr_iload_n hC dX9_item_23 rfl ?_
      refine zr_iload_n hC dX9_item_24 rfl ?_
      refine zk_iconst hC dX9_item_25 (v := nI 1) (by decide +kernel) ?_
      refine zs_callV hC (b := 245) [_, _, _, _] [] dX9_item_26 ml_X9_250 mtX9_whyNot tX9_whyNot (by decide) (by decide) (by decide) rfl rfl (by decide) (by decide +kernel) (Nat.le_of_ble_eq_true rfl) rfl ?_
      refine ⟨t, c, 1, _, _, rfl, ht, hc, by omega, hMG.2.2.2.2, ?_⟩
      dsimp only [Option.toList, List.cons_append, List.nil_append]
      refine zr_istore hC dX9_item_29 (by decide) ?_
      refine zr_iload hC dX9_item_31 rfl ?_
      refine zr_if_ge hC dX9_item_33 (tgt := 39) (by decide) (fun c_33 => ?_) (fun c_33 => ?_)
      · rw [shref_ge] at c_33
        rw [if_neg (not_not_intro c_33)] at hQ
        have hz24 := (hGI.2.2.2.2 t ht).2
        obtain ⟨hb1, a, b0, rfl, hbb, hb2⟩ := shref_0 hz24 c_33
        rw [nI_eq (by omega) (by omega)] at hbb
        subst hbb
        have ht2 : (nI a).toBitVec.toNat = a := pk_tn (by omega)
        rw [ht2] at hQ
        refine zr_aload_n hC dX9_item_39 rfl ?_
        refine zs_getr hC dX9_item_40 fl_X9_48 (a := 245) (r := 257) rfl (by decide) ?_
        refine zk_bipush hC dX9_item_43 (v := nI 24) (by decide +kernel) ?_
        refine zr_iload_n hC dX9_item_45 rfl ?_
        refine zn_imul hC dX9_item_46 (show nI 24 * nI t = nI (24 * t) from pk_mul _ _) ?_
        refine zr_iload_n hC dX9_item_47 rfl ?_
        refine zn_iadd hC dX9_item_48 (show nI (24 * t) + nI a = nI (24 * t + a) from nI_add _ _) ?_
        refine zr_lload hC dX9_item_49 rfl ?_
        refine zr_iload_n hC dX9_item_51 rfl ?_
        refine zs_callS hC [_, _] [_, _] dX9_item_52 ml_X9_254 mtX9_cut tX9_cut (by decide) (by decide) (by decide) rfl (Nat.le_of_ble_eq_true rfl) rfl ?_
        refine ⟨_, c, rfl, hc, ?_⟩
        dsimp only [Option.toList, List.cons_append, List.nil_append]
        refine zs_last hC dX9_item_55 (a := 257) (n := 96) rfl (by decide) (by decide) (j := 24 * t + a) rfl (by omega) ?_
        refine zk_iconst hC dX9_item_56 (v := nI 1) (by decide +kernel) ?_
        exact zr_ireturn hC hE dX9_item_57 (hr _ _ (by first | exact hQ _ (hMG.sh (hMG.2.2.2.2.put (by omega)) (fun a _ _ => rfl)) (zputL_m (by decide)) | exact hQ _ hMG zfm.rf))
      · rw [shref_ge] at c_33
        rw [if_pos c_33] at hQ
        refine zr_iload hC dX9_item_36 rfl ?_
        exact zr_ireturn hC hE dX9_item_38 (hr _ _ (by first | exact hQ _ (hMG.sh (hMG.2.2.2.2.put (by omega)) (fun a _ _ => rfl)) (zputL_m (by decide)) | exact hQ _ hMG zfm.rf))
    · simp only [fItem, mm_yes ht (show 4 < 2147483648 by decide), mm_no (e1.imp id z_3)] at hQ
      dsimp only [Option.toList, List.cons_append, List.nil_append]
      refine zr_if_ne hC dX9_item_16 (tgt := 21) (by decide) (fun c => absurd c (by decide +kernel)) (fun c_16 => ?_)
      refine zk_iconst hC dX9_item_19 (v := (-1)) (by decide +kernel) ?_
      exact zr_ireturn hC hE dX9_item_20 (hr _ _ (by first | exact hQ _ (hMG.sh (hMG.2.2.2.2.put (by omega)) (fun a _ _ => rfl)) (zputL_m (by decide)) | exact hQ _ hMG zfm.rf))
  · simp only [fItem, mm_no hx] at hQ
    dsimp only [Option.toList, List.cons_append, List.nil_append]
    refine zr_if_eq hC dX9_item_4 (tgt := 19) (by decide) (fun c_4 => ?_) (fun c => absurd c (by decide +kernel))
    refine zk_iconst hC dX9_item_19 (v := (-1)) (by decide +kernel) ?_
    exact zr_ireturn hC hE dX9_item_20 (hr _ _ (by first | exact hQ _ (hMG.sh (hMG.2.2.2.2.put (by omega)) (fun a _ _ => rfl)) (zputL_m (by decide)) | exact hQ _ hMG zfm.rf))
theorem MSH.new {S S' : zS} {h : zH} (hh : MSH S h) {t c z : Nat} (ht : t < 4) (hc : c ≤ 4) (h1 : S'.1 255 = (zput S 255 t (caI c)).1 255) (h2 : c ≠ 0 → S'.1 256 t = nI z ∧ z ≤ 24 ∧ ∀ k, k < 24 → S'.2 257 (24 * t + k) = 0) (h3 : ∀ u, u ≠ t → S'.1 256 u = S.1 256 u) (h4 : ∀ u k, u ≠ t → k < 24 → S'.2 257 (24 * u + k) = S.2 257 (24 * u + k)) : MSH S' (shnew h t c z) := fun u hu => by
  obtain ⟨g1, g2, g3⟩ := hh u hu
  by_cases q : u = t
  · subst q
    show S'.1 255 u = caI (fup h.1 u c u) ∧ fup h.1 u c u ≤ 4 ∧ (fup h.1 u c u ≠ 0 → S'.1 256 u = nI (fup h.2.1 u z u) ∧ fup h.2.1 u z u ≤ 24 ∧ ∀ k, k < fup h.2.1 u z u → S'.2 257 (24 * u + k) = if u = u then 0 else h.2.2 u k)
    rw [fup_at, fup_at, h1, zput_at]
    refine ⟨rfl, hc, fun q0 => ?_⟩
    obtain ⟨e1, e2, e3⟩ := h2 q0
    exact ⟨e1, e2, fun k hk => by rw [if_pos rfl]; exact e3 k (by omega)⟩
  · show S'.1 255 u = caI (fup h.1 t c u) ∧ fup h.1 t c u ≤ 4 ∧ (fup h.1 t c u ≠ 0 → S'.1 256 u = nI (fup h.2.1 t z u) ∧ fup h.2.1 t z u ≤ 24 ∧ ∀ k, k < fup h.2.1 t z u → S'.2 257 (24 * u + k) = if u = t then 0 else h.2.2 u k)
    rw [fup_ne _ _ q, fup_ne _ _ q, h1, zput_k _ _ q, h3 u q]
    refine ⟨g1, g2, fun q0 => ⟨(g3 q0).1, (g3 q0).2.1, fun k hk => ?_⟩⟩
    rw [if_neg q, h4 u k q (by have := (g3 q0).2.1; omega)]
    exact (g3 q0).2.2 k hk
def spX9_drop : zSp := fun av S Q => ∃ (G : zG) (s : Int32), av = [.ref 245, .int s] ∧ MG S G ∧ GI G ∧ ∀ S', MG S' (fDrop s G).2 → zfm S S' → Q (some (.int (fDrop s G).1)) S'
set_option maxHeartbeats 1000000 in
set_option maxRecDepth 100000 in
theorem tX9_drop : zM yX9_drop cX9_drop 2 (some .int) 2 spX9_drop := by
  refine zM.of (by decide) (by decide) (fun av S Q h => by obtain ⟨G, s, rfl, hMG, hGI, hQ⟩ := h; exact Nat.le_of_ble_eq_true rfl) (fun C τ ι av S Q Qr h hr hC hE => ?_)
  obtain ⟨G, s, rfl, hMG, hGI, hQ⟩ := h
  show zR C τ ι _ 0 0 0 [(0, .ref 245), (1, .int s)] [] _
  refine zr_iload_n hC dX9_drop_0 rfl ?_
  refine zs_callS hC [_] [] dX9_drop_1 ml_X9_247 mtX9_isSheet tX9_isSheet (by decide) (by decide) (by decide) rfl (Nat.le_of_ble_eq_true rfl) rfl ?_
  refine ⟨s, rfl, fun r e => ?_⟩
  rcases e with ⟨rfl, t, ht, rfl⟩ | ⟨rfl, hx⟩
  · dsimp only [Option.toList, List.cons_append, List.nil_append]
    refine zr_if_ne hC dX9_drop_4 (tgt := 9) (by decide) (fun c_4 => ?_) (fun c => absurd c (by decide +kernel))
    simp only [fDrop, mm_yes ht (show 4 < 2147483648 by decide)] at hQ
    have hS := hMG.2.2.2.2
    obtain ⟨s1, s2, s3⟩ := hS t ht
    refine zr_aload_n hC dX9_drop_9 rfl ?_
    refine zs_getr hC dX9_drop_10 fl_X9_42 (a := 245) (r := 255) rfl (by decide) ?_
    refine zr_iload_n hC dX9_drop_13 rfl ?_
    refine zv_iald hC dX9_drop_14 (a := 255) (n := 4) rfl (by decide) (by decide) (j := t) rfl ht (s1) ?_
    refine zr_if_ge hC dX9_drop_15 (tgt := 21) (by decide) (fun c_15 => ?_) (fun c_15 => ?_)
    · rw [caI_ge (by omega)] at c_15
      rw [if_neg c_15] at hQ
      obtain ⟨s4, s5, -⟩ := s3 c_15
      refine zr_aload_n hC dX9_drop_21 rfl ?_
      refine zs_getr hC dX9_drop_22 fl_X9_42 (a := 245) (r := 255) rfl (by decide) ?_
      refine zr_iload_n hC dX9_drop_25 rfl ?_
      refine zk_iconst hC dX9_drop_26 (v := (-1)) (by decide +kernel) ?_
      refine zs_iast hC dX9_drop_27 (a := 255) (n := 4) rfl (by decide) (by decide) (j := t) rfl ht ?_
      refine zr_aload_n hC dX9_drop_28 rfl ?_
      refine zs_getr hC dX9_drop_29 fl_X9_45 (a := 245) (r := 256) rfl (by decide) ?_
      refine zr_iload_n hC dX9_drop_32 rfl ?_
      refine zv_iald hC dX9_drop_33 (a := 256) (n := 4) rfl (by decide) (by decide) (j := t) rfl ht ((congrFun (zput_ne S _ (by decide)) _).trans s4) ?_
      exact zr_ireturn hC hE dX9_drop_34 (hr _ _ (by first | exact hQ _ (hMG.sh (MSH.new (c := 0) (z := 0) hS ht (by decide) rfl (fun q => absurd rfl q) (fun u _ => congrFun (zput_ne S _ (by decide)) u) (fun u k _ _ => rfl)) (fun a q1 _ => zput_ne _ _ q1)) (zput_m (by decide)) | exact hQ _ hMG zfm.rf))
    · rw [caI_ge (by omega)] at c_15
      rw [if_pos (Decidable.not_not.mp c_15)] at hQ
      refine zk_bipush hC dX9_drop_18 (v := (-11)) (by decide +kernel) ?_
      exact zr_ireturn hC hE dX9_drop_20 (hr _ _ (by first | exact hQ _ (hMG.sh (MSH.new (c := 0) (z := 0) hS ht (by decide) rfl (fun q => absurd rfl q) (fun u _ => congrFun (zput_ne S _ (by decide)) u) (fun u k _ _ => rfl)) (fun a q1 _ => zput_ne _ _ q1)) (zput_m (by decide)) | exact hQ _ hMG zfm.rf))
  · simp only [fDrop, mm_no hx] at hQ
    dsimp only [Option.toList, List.cons_append, List.nil_append]
    refine zr_if_ne hC dX9_drop_4 (tgt := 9) (by decide) (fun c => absurd c (by decide +kernel)) (fun c_4 => ?_)
    refine zk_iconst hC dX9_drop_7 (v := (-1)) (by decide +kernel) ?_
    exact zr_ireturn hC hE dX9_drop_8 (hr _ _ (by first | exact hQ _ (hMG.sh (MSH.new (c := 0) (z := 0) hS ht (by decide) rfl (fun q => absurd rfl q) (fun u _ => congrFun (zput_ne S _ (by decide)) u) (fun u k _ _ => rfl)) (fun a q1 _ => zput_ne _ _ q1)) (zput_m (by decide)) | exact hQ _ hMG zfm.rf))
set_option maxHeartbeats 1000000 in
set_option maxRecDepth 100000 in
theorem l9_sheet {C : zCx} {τ : Nat → ClassId} {ι : Nat → Nat} (hC : zOK C τ (zrm 2 0 0) yX9_sheet.cls cX9_sheet 5) {S0 : zS} {t z : Nat} (ht : t < 4) (k : ∀ S lv, S.1 = S0.1 → (∀ a k, S.2 a k = if a = 257 ∧ 24 * t ≤ k ∧ k < 24 * t + 24 then 0 else S0.2 a k) → zlk 3 lv = some (.int (nI z)) → zR C τ ι 5 0 0 77 lv [] (zcells S)) : ∀ (d i : Nat) (S : zS), i + d = 24 → S.1 = S0.1 → (∀ a k, S.2 a k = if a = 257 ∧ 24 * t ≤ k ∧ k < 24 * t + i then 0 else S0.2 a k) → zR C τ ι 5 0 0 51 [(0, .ref 245), (1, .int (nI t)), (3, .int (nI z)), (4, .int (nI i))] [] (zcells S) := by
  intro d
  induction d with
  | zero =>
    intro i S hi h1 h2
    refine zr_iload hC dX9_sheet_51 rfl ?_
    refine zk_bipush hC dX9_sheet_53 (v := nI 24) (by decide +kernel) ?_
    refine zr_icmp_ge hC dX9_sheet_55 (tgt := 77) (by decide) (fun c_55 => ?_) (fun c => absurd c (not_not_intro (nI_le (by omega) (by omega))))
    obtain rfl : i = 24 := (by omega)
    exact k S _ h1 h2 rfl
  | succ d ih =>
    intro i S hi h1 h2
    refine zr_iload hC dX9_sheet_51 rfl ?_
    refine zk_bipush hC dX9_sheet_53 (v := nI 24) (by decide +kernel) ?_
    refine zr_icmp_ge hC dX9_sheet_55 (tgt := 77) (by decide) (fun c => absurd c (nI_ge (by omega) (by omega))) (fun c_55 => ?_)
    refine zr_aload_n hC dX9_sheet_58 rfl ?_
    refine zs_getr hC dX9_sheet_59 fl_X9_48 (a := 245) (r := 257) rfl (by decide) ?_
    refine zk_bipush hC dX9_sheet_62 (v := nI 24) (by decide +kernel) ?_
    refine zr_iload_n hC dX9_sheet_64 rfl ?_
    refine zn_imul hC dX9_sheet_65 (pk_mul _ _) ?_
    refine zr_iload hC dX9_sheet_66 rfl ?_
    refine zn_iadd hC dX9_sheet_68 (nI_add _ _) ?_
    refine zr_lconst hC dX9_sheet_69 ?_
    refine zs_last hC dX9_sheet_70 (a := 257) (n := 96) rfl (by decide) (by decide) (j := 24 * t + i) rfl (by omega) ?_
    refine zn_iinc hC dX9_sheet_71 rfl (by decide) (zk_inc _ 1) ?_
    refine zr_goto hC dX9_sheet_74 (tgt := 51) (by decide) ?_
    refine zR_sub [(0, .ref 245), (1, .int (nI t)), (3, .int (nI z)), (4, .int (nI (i + 1)))] ⟨rfl, rfl, rfl, rfl, trivial⟩ (ih (i + 1) _ (by omega) h1 (fun a k => ?_))
    show (if a = 257 ∧ k = 24 * t + i then _ else S.2 a k) = _
    by_cases q : a = 257 ∧ k = 24 * t + i
    · rw [if_pos q, if_pos ⟨q.1, by omega, by omega⟩]; rfl
    · rw [if_neg q, h2 a k]
      by_cases q2 : a = 257 ∧ 24 * t ≤ k ∧ k < 24 * t + i
      · rw [if_pos q2, if_pos ⟨q2.1, q2.2.1, by omega⟩]
      · rw [if_neg q2, if_neg (fun q3 => q2 ⟨q3.1, q3.2.1, by omega⟩)]
def spX9_sheet : zSp := fun av S Q => ∃ (G : zG) (s : Int32) (l : Int32) (n : Int32), av = [.ref 245, .int s, .int l, .int n] ∧ MG S G ∧ GI G ∧ ∀ S', MG S' (fSheet s l n G).2 → zfm S S' → Q (some (.int (fSheet s l n G).1)) S'
set_option maxHeartbeats 1000000 in
set_option maxRecDepth 100000 in
theorem tX9_sheet : zM yX9_sheet cX9_sheet 5 (some .int) 2 spX9_sheet := by
  refine zM.of (by decide) (by decide) (fun av S Q h => by obtain ⟨G, s, l, n, rfl, hMG, hGI, hQ⟩ := h; exact Nat.le_of_ble_eq_true rfl) (fun C τ ι av S Q Qr h hr hC hE => ?_)
  obtain ⟨G, s, l, n, rfl, hMG, hGI, hQ⟩ := h
  show zR C τ ι _ 0 0 0 [(0, .ref 245), (1, .int s), (2, .int l), (3, .int n)] [] _
  refine zr_iload_n hC dX9_sheet_0 rfl ?_
  refine zs_callS hC [_] [] dX9_sheet_1 ml_X9_247 mtX9_isSheet tX9_isSheet (by decide) (by decide) (by decide) rfl (Nat.le_of_ble_eq_true rfl) rfl ?_
  refine ⟨s, rfl, fun r e => ?_⟩
  rcases e with ⟨rfl, t, ht, rfl⟩ | ⟨rfl, hx⟩
  · dsimp only [Option.toList, List.cons_append, List.nil_append]
    refine zr_if_eq hC dX9_sheet_4 (tgt := 25) (by decide) (fun c => absurd c (by decide +kernel)) (fun c_4 => ?_)
    refine zr_iload_n hC dX9_sheet_7 rfl ?_
    refine zr_i2l hC dX9_sheet_8 ?_
    refine zr_lconst hC dX9_sheet_9 ?_
    refine zr_ldc2 hC dX9_sheet_10 kl_X9_245 ?_
    refine zs_callS hC [_, _, _] [] dX9_sheet_13 ml_X9_60 mtX9_in tX9_in (by decide) (by decide) (by decide) rfl (Nat.le_of_ble_eq_true rfl) rfl ?_
    refine ⟨_, _, _, rfl, fun r e => ?_⟩
    obtain ⟨w1, w2⟩ := z_one (x := l) (lo := nI 0) (hi := nI 3) rfl (show Int64.ofNat 0 = _ by decide +kernel) (show (3 : Int64) = _ by decide +kernel)
    have e : (r = nI 1 ∧ ¬ l < nI 0 ∧ ¬ nI 3 < l) ∨ (r = nI 0 ∧ (l < nI 0 ∨ nI 3 < l)) := by
      rcases e with ⟨e, e1, e2⟩ | ⟨e, e1⟩
      · exact Or.inl ⟨e, fun q => e1 (w1.mpr q), fun q => e2 (w2.mpr q)⟩
      · exact Or.inr ⟨e, e1.imp w1.mp w2.mp⟩
    rcases e with ⟨rfl, e1, e2⟩ | ⟨rfl, e1⟩
    · obtain ⟨c, -, hc3, rfl⟩ := rg_in e1 e2 (by decide) (by decide)
      have hc : c < 4 := by omega
      dsimp only [Option.toList, List.cons_append, List.nil_append]
      refine zr_if_eq hC dX9_sheet_16 (tgt := 25) (by decide) (fun c => absurd c (by decide +kernel)) (fun c_16 => ?_)
      simp only [fSheet, mm_yes ht (show 4 < 2147483648 by decide), mm_yes hc (show 4 < 2147483648 by decide)] at hQ
      refine zr_iload_n hC dX9_sheet_19 rfl ?_
      refine zk_bipush hC dX9_sheet_20 (v := nI 24) (by decide +kernel) ?_
      refine zr_icmp_le hC dX9_sheet_22 (tgt := 27) (by decide) (fun c_22 => ?_) (fun c_22 => ?_)
      · rw [if_neg (Int32.not_lt.mpr c_22)] at hQ
        refine zr_iload_n hC dX9_sheet_27 rfl ?_
        refine zr_if_ge hC dX9_sheet_28 (tgt := 34) (by decide) (fun c_28 => ?_) (fun c_28 => ?_)
        · obtain ⟨z, hz, rfl⟩ := nI_of (x := n) (Int32.not_lt.mpr c_28)
          rw [nI_leI hz (by decide)] at c_22
          rw [if_neg (nI_pos hz), pk_tn (by omega)] at hQ
          refine zr_aload_n hC dX9_sheet_34 rfl ?_
          refine zs_getr hC dX9_sheet_35 fl_X9_42 (a := 245) (r := 255) rfl (by decide) ?_
          refine zr_iload_n hC dX9_sheet_38 rfl ?_
          refine zr_iload_n hC dX9_sheet_39 rfl ?_
          refine zs_iast hC dX9_sheet_40 (a := 255) (n := 4) rfl (by decide) (by decide) (j := t) rfl ht ?_
          refine zr_aload_n hC dX9_sheet_41 rfl ?_
          refine zs_getr hC dX9_sheet_42 fl_X9_45 (a := 245) (r := 256) rfl (by decide) ?_
          refine zr_iload_n hC dX9_sheet_45 rfl ?_
          refine zr_iload_n hC dX9_sheet_46 rfl ?_
          refine zs_iast hC dX9_sheet_47 (a := 256) (n := 4) rfl (by decide) (by decide) (j := t) rfl ht ?_
          refine zk_iconst hC dX9_sheet_48 (v := nI 0) (by decide +kernel) ?_
          refine zr_istore hC dX9_sheet_49 (by decide) ?_
          refine zR_sub [(0, .ref 245), (1, .int (nI t)), (3, .int (nI z)), (4, .int (nI 0))] ⟨rfl, rfl, rfl, rfl, trivial⟩ (l9_sheet (S0 := (zput (zput S 255 t (nI c)) 256 t (nI z))) hC ht (fun S1 lv h1 h2 g3 => ?_) 24 0 (zput (zput S 255 t (nI c)) 256 t (nI z)) rfl rfl (fun a k => (if_neg (fun q => by omega)).symm))
          refine zr_iload_n hC dX9_sheet_77 g3 ?_
          refine zr_ireturn hC hE dX9_sheet_78 (hr _ _ (hQ S1 (hMG.sh (MSH.new (c := c + 1) (z := z) hMG.2.2.2.2 ht (by omega) ?_ (fun _ => ⟨?_, c_22, fun k hk => ?_⟩) (fun u hu => ?_) (fun u k hu hk => ?_)) (fun a q1 q2 => ?_)) (fun a ha => ⟨?_, ?_⟩)))
          · rw [h1, zput_ne _ _ (by decide)]; rfl
          · rw [h1, zput_at]
          · rw [h2]; exact if_pos ⟨rfl, by omega, by omega⟩
          · rw [h1, zput_k _ _ hu, zput_ne _ _ (by decide)]
          · rw [h2]; exact if_neg (fun q => by omega)
          · rw [h1, zput_ne _ _ q2, zput_ne _ _ q1]
          · rw [h1, zput_ne _ _ (by omega), zput_ne _ _ (by omega)]
          · funext k; rw [h2]; exact if_neg (fun q => by omega)
        · rw [if_pos (Int32.not_le.mp c_28)] at hQ
          refine zk_bipush hC dX9_sheet_31 (v := (-14)) (by decide +kernel) ?_
          exact zr_ireturn hC hE dX9_sheet_33 (hr _ _ (hQ _ hMG zfm.rf))
      · rw [if_pos (Int32.not_le.mp c_22)] at hQ
        refine zk_iconst hC dX9_sheet_25 (v := (-1)) (by decide +kernel) ?_
        exact zr_ireturn hC hE dX9_sheet_26 (hr _ _ (hQ _ hMG zfm.rf))
    · simp only [fSheet, mm_yes ht (show 4 < 2147483648 by decide), mm_no (e1.imp id z_3)] at hQ
      dsimp only [Option.toList, List.cons_append, List.nil_append]
      refine zr_if_eq hC dX9_sheet_16 (tgt := 25) (by decide) (fun c_16 => ?_) (fun c => absurd c (by decide +kernel))
      refine zk_iconst hC dX9_sheet_25 (v := (-1)) (by decide +kernel) ?_
      exact zr_ireturn hC hE dX9_sheet_26 (hr _ _ (hQ _ hMG zfm.rf))
  · simp only [fSheet, mm_no hx] at hQ
    dsimp only [Option.toList, List.cons_append, List.nil_append]
    refine zr_if_eq hC dX9_sheet_4 (tgt := 25) (by decide) (fun c_4 => ?_) (fun c => absurd c (by decide +kernel))
    refine zk_iconst hC dX9_sheet_25 (v := (-1)) (by decide +kernel) ?_
    exact zr_ireturn hC hE dX9_sheet_26 (hr _ _ (hQ _ hMG zfm.rf))
theorem MG.put5 {S : zS} {G : zG} (h : MG S G) {t k : Nat} {v : Int64} (hk : k < 24) : MG (zputL S 257 (24 * t + k) v) (gsh G (itset G.2.2.2.2 t k v)) := h.sh (h.2.2.2.2.put hk) (fun a _ _ => rfl)
def spX9_film : zSp := fun av S Q => ∃ (G : zG) (x : Int32) (s : Int32) (l : Int32) (i : Int32), av = [.ref 245, .int x, .int s, .int l, .int i] ∧ MG S G ∧ GI G ∧ ∀ S', MG S' (fFilm x s l i G).2 → zfm S S' → Q (some (.int (fFilm x s l i G).1)) S'
set_option maxHeartbeats 1000000 in
set_option maxRecDepth 100000 in
theorem tX9_film : zM yX9_film cX9_film 8 (some .int) 3 spX9_film := by
  refine zM.of (by decide) (by decide) (fun av S Q h => by obtain ⟨G, x, s, l, i, rfl, hMG, hGI, hQ⟩ := h; exact Nat.le_of_ble_eq_true rfl) (fun C τ ι av S Q Qr h hr hC hE => ?_)
  obtain ⟨G, x, s, l, i, rfl, hMG, hGI, hQ⟩ := h
  show zR C τ ι _ 0 0 0 [(0, .ref 245), (1, .int x), (2, .int s), (3, .int l), (4, .int i)] [] _
  refine zr_iload_n hC dX9_film_0 rfl ?_
  refine zr_i2l hC dX9_film_1 ?_
  refine zr_ldc2 hC dX9_film_2 kl_X9_260 ?_
  refine zr_ldc2 hC dX9_film_5 kl_X9_175 ?_
  refine zs_callS hC [_, _, _] [] dX9_film_8 ml_X9_60 mtX9_in tX9_in (by decide) (by decide) (by decide) rfl (Nat.le_of_ble_eq_true rfl) rfl ?_
  refine ⟨_, _, _, rfl, fun r e => ?_⟩
  obtain ⟨w1, w2⟩ := z_one (x := x) (lo := nI 16) (hi := nI 31) rfl (show (16 : Int64) = _ by decide +kernel) (show (31 : Int64) = _ by decide +kernel)
  have e : (r = nI 1 ∧ ¬ x < nI 16 ∧ ¬ nI 31 < x) ∨ (r = nI 0 ∧ (x < nI 16 ∨ nI 31 < x)) := by
    rcases e with ⟨e, e1, e2⟩ | ⟨e, e1⟩
    · exact Or.inl ⟨e, fun q => e1 (w1.mpr q), fun q => e2 (w2.mpr q)⟩
    · exact Or.inr ⟨e, e1.imp w1.mp w2.mp⟩
  rcases e with ⟨rfl, e1, e2⟩ | ⟨rfl, e1⟩
  · obtain ⟨v, v1, v2, rfl⟩ := rg_in e1 e2 (by decide) (by decide)
    dsimp only [Option.toList, List.cons_append, List.nil_append]
    refine zr_if_eq hC dX9_film_11 (tgt := 33) (by decide) (fun c => absurd c (by decide +kernel)) (fun c_11 => ?_)
    refine zr_iload_n hC dX9_film_14 rfl ?_
    refine zs_callS hC [_] [] dX9_film_15 ml_X9_247 mtX9_isSheet tX9_isSheet (by decide) (by decide) (by decide) rfl (Nat.le_of_ble_eq_true rfl) rfl ?_
    refine ⟨s, rfl, fun r e => ?_⟩
    rcases e with ⟨rfl, t, ht, rfl⟩ | ⟨rfl, hx⟩
    · dsimp only [Option.toList, List.cons_append, List.nil_append]
      refine zr_if_eq hC dX9_film_18 (tgt := 33) (by decide) (fun c => absurd c (by decide +kernel)) (fun c_18 => ?_)
      refine zr_iload_n hC dX9_film_21 rfl ?_
      refine zr_i2l hC dX9_film_22 ?_
      refine zr_lconst hC dX9_film_23 ?_
      refine zr_ldc2 hC dX9_film_24 kl_X9_245 ?_
      refine zs_callS hC [_, _, _] [] dX9_film_27 ml_X9_60 mtX9_in tX9_in (by decide) (by decide) (by decide) rfl (Nat.le_of_ble_eq_true rfl) rfl ?_
      refine ⟨_, _, _, rfl, fun r e => ?_⟩
      obtain ⟨w1, w2⟩ := z_one (x := l) (lo := nI 0) (hi := nI 3) rfl (show Int64.ofNat 0 = _ by decide +kernel) (show (3 : Int64) = _ by decide +kernel)
      have e : (r = nI 1 ∧ ¬ l < nI 0 ∧ ¬ nI 3 < l) ∨ (r = nI 0 ∧ (l < nI 0 ∨ nI 3 < l)) := by
        rcases e with ⟨e, e1, e2⟩ | ⟨e, e1⟩
        · exact Or.inl ⟨e, fun q => e1 (w1.mpr q), fun q => e2 (w2.mpr q)⟩
        · exact Or.inr ⟨e, e1.imp w1.mp w2.mp⟩
      rcases e with ⟨rfl, e1, e2⟩ | ⟨rfl, e1⟩
      · obtain ⟨c, -, hc3, rfl⟩ := rg_in e1 e2 (by decide) (by decide)
        have hc : c < 4 := by omega
        dsimp only [Option.toList, List.cons_append, List.nil_append]
        refine zr_if_ne hC dX9_film_30 (tgt := 35) (by decide) (fun c_30 => ?_) (fun c => absurd c (by decide +kernel))
        simp only [fFilm, rg_yes v1 v2 (show 31 < 2147483648 by decide), mm_yes ht (show 4 < 2147483648 by decide), mm_yes hc (show 4 < 2147483648 by decide)] at hQ
        refine zr_aload_n hC dX9_film_35 rfl ?_
        refine zr_iload_n hC dX9_film_36 rfl ?_
        refine zr_iload_n hC dX9_film_37 rfl ?_
        refine zr_iload hC dX9_film_38 rfl ?_
        refine zk_iconst hC dX9_film_40 (v := nI 5) (by decide +kernel) ?_
        refine zs_callV hC (b := 245) [_, _, _, _] [] dX9_film_41 ml_X9_250 mtX9_whyNot tX9_whyNot (by decide) (by decide) (by decide) rfl rfl (by decide) (by decide +kernel) (Nat.le_of_ble_eq_true rfl) rfl ?_
        refine ⟨t, c, 5, _, _, rfl, ht, hc, by omega, hMG.2.2.2.2, ?_⟩
        dsimp only [Option.toList, List.cons_append, List.nil_append]
        refine zr_istore hC dX9_film_44 (by decide) ?_
        refine zr_iload hC dX9_film_46 rfl ?_
        refine zr_if_ge hC dX9_film_48 (tgt := 54) (by decide) (fun c_48 => ?_) (fun c_48 => ?_)
        · rw [shref_ge] at c_48
          rw [if_neg (not_not_intro c_48)] at hQ
          have hz24 := (hGI.2.2.2.2 t ht).2
          obtain ⟨hb1, a, b0, rfl, hbb, hb2⟩ := shref_0 hz24 c_48
          rw [nI_eq (by omega) (by omega)] at hbb
          subst hbb
          have ht2 : (nI a).toBitVec.toNat = a := pk_tn (by omega)
          rw [ht2] at hQ
          refine zk_bipush hC dX9_film_54 (v := nI 24) (by decide +kernel) ?_
          refine zr_iload_n hC dX9_film_56 rfl ?_
          refine zn_imul hC dX9_film_57 (show nI 24 * nI t = nI (24 * t) from pk_mul _ _) ?_
          refine zr_iload hC dX9_film_58 rfl ?_
          refine zn_iadd hC dX9_film_60 (show nI (24 * t) + nI a = nI (24 * t + a) from nI_add _ _) ?_
          refine zr_istore hC dX9_film_61 (by decide) ?_
          refine zr_iload_n hC dX9_film_63 rfl ?_
          refine zr_istore hC dX9_film_64 (by decide) ?_
          refine zr_iload hC dX9_film_66 rfl ?_
          refine zr_if_le hC dX9_film_68 (tgt := 101) (by decide) (fun c => absurd c (nI_nle (by omega) (by omega))) (fun c_68 => ?_)
          refine zr_aload_n hC dX9_film_71 rfl ?_
          refine zs_getr hC dX9_film_72 fl_X9_48 (a := 245) (r := 257) rfl (by decide) ?_
          refine zr_iload hC dX9_film_75 rfl ?_
          refine zr_aload_n hC dX9_film_77 rfl ?_
          refine zr_iload hC dX9_film_78 rfl ?_
          refine zs_callV hC (b := 245) [_] [_, _] dX9_film_80 ml_X9_140 mtX9_keyOf tX9_keyOf (by decide) (by decide) (by decide) rfl rfl (by decide) (by decide +kernel) (Nat.le_of_ble_eq_true rfl) rfl ?_
          refine ⟨v, G.1, rfl, by omega, hMG.1, ?_⟩
          rw [hGI.1.kofm (by omega) (by omega)]
          dsimp only [Option.toList, List.cons_append, List.nil_append]
          refine zr_i2l hC dX9_film_83 ?_
          refine zr_iload_n hC dX9_film_84 rfl ?_
          refine zs_callS hC [_, _] [_, _] dX9_film_85 ml_X9_254 mtX9_cut tX9_cut (by decide) (by decide) (by decide) rfl (Nat.le_of_ble_eq_true rfl) rfl ?_
          refine ⟨_, c, rfl, hc, ?_⟩
          dsimp only [Option.toList, List.cons_append, List.nil_append]
          refine zs_last hC dX9_film_88 (a := 257) (n := 96) rfl (by decide) (by decide) (j := 24 * t + (a)) (congrArg nI (by omega)) (by omega) ?_
          refine zn_iinc hC dX9_film_89 rfl (by decide) (zk_inc _ 1) ?_
          refine zr_iload hC dX9_film_92 rfl ?_
          refine zk_iconst hC dX9_film_94 (v := nI 2) (by decide +kernel) ?_
          refine zn_idiv hC dX9_film_95 (by decide) (z_half (by omega)) ?_
          refine zr_istore hC dX9_film_96 (by decide) ?_
          refine zr_goto hC dX9_film_98 (tgt := 66) (by decide) ?_
          refine zr_iload hC dX9_film_66 rfl ?_
          refine zr_if_le hC dX9_film_68 (tgt := 101) (by decide) (fun c => absurd c (nI_nle (by omega) (by omega))) (fun c_68 => ?_)
          refine zr_aload_n hC dX9_film_71 rfl ?_
          refine zs_getr hC dX9_film_72 fl_X9_48 (a := 245) (r := 257) rfl (by decide) ?_
          refine zr_iload hC dX9_film_75 rfl ?_
          refine zr_aload_n hC dX9_film_77 rfl ?_
          refine zr_iload hC dX9_film_78 rfl ?_
          refine zs_callV hC (b := 245) [_] [_, _] dX9_film_80 ml_X9_140 mtX9_keyOf tX9_keyOf (by decide) (by decide) (by decide) rfl rfl (by decide) (by decide +kernel) (Nat.le_of_ble_eq_true rfl) rfl ?_
          refine ⟨v / 2, G.1, rfl, by omega, hMG.1, ?_⟩
          rw [hGI.1.kofm (by omega) (by omega)]
          dsimp only [Option.toList, List.cons_append, List.nil_append]
          refine zr_i2l hC dX9_film_83 ?_
          refine zr_iload_n hC dX9_film_84 rfl ?_
          refine zs_callS hC [_, _] [_, _] dX9_film_85 ml_X9_254 mtX9_cut tX9_cut (by decide) (by decide) (by decide) rfl (Nat.le_of_ble_eq_true rfl) rfl ?_
          refine ⟨_, c, rfl, hc, ?_⟩
          dsimp only [Option.toList, List.cons_append, List.nil_append]
          refine zs_last hC dX9_film_88 (a := 257) (n := 96) rfl (by decide) (by decide) (j := 24 * t + (a + 1)) (congrArg nI (by omega)) (by omega) ?_
          refine zn_iinc hC dX9_film_89 rfl (by decide) (zk_inc _ 1) ?_
          refine zr_iload hC dX9_film_92 rfl ?_
          refine zk_iconst hC dX9_film_94 (v := nI 2) (by decide +kernel) ?_
          refine zn_idiv hC dX9_film_95 (by decide) (z_half (by omega)) ?_
          refine zr_istore hC dX9_film_96 (by decide) ?_
          refine zr_goto hC dX9_film_98 (tgt := 66) (by decide) ?_
          refine zr_iload hC dX9_film_66 rfl ?_
          refine zr_if_le hC dX9_film_68 (tgt := 101) (by decide) (fun c => absurd c (nI_nle (by omega) (by omega))) (fun c_68 => ?_)
          refine zr_aload_n hC dX9_film_71 rfl ?_
          refine zs_getr hC dX9_film_72 fl_X9_48 (a := 245) (r := 257) rfl (by decide) ?_
          refine zr_iload hC dX9_film_75 rfl ?_
          refine zr_aload_n hC dX9_film_77 rfl ?_
          refine zr_iload hC dX9_film_78 rfl ?_
          refine zs_callV hC (b := 245) [_] [_, _] dX9_film_80 ml_X9_140 mtX9_keyOf tX9_keyOf (by decide) (by decide) (by decide) rfl rfl (by decide) (by decide +kernel) (Nat.le_of_ble_eq_true rfl) rfl ?_
          refine ⟨v / 2 / 2, G.1, rfl, by omega, hMG.1, ?_⟩
          rw [hGI.1.kofm (by omega) (by omega)]
          dsimp only [Option.toList, List.cons_append, List.nil_append]
          refine zr_i2l hC dX9_film_83 ?_
          refine zr_iload_n hC dX9_film_84 rfl ?_
          refine zs_callS hC [_, _] [_, _] dX9_film_85 ml_X9_254 mtX9_cut tX9_cut (by decide) (by decide) (by decide) rfl (Nat.le_of_ble_eq_true rfl) rfl ?_
          refine ⟨_, c, rfl, hc, ?_⟩
          dsimp only [Option.toList, List.cons_append, List.nil_append]
          refine zs_last hC dX9_film_88 (a := 257) (n := 96) rfl (by decide) (by decide) (j := 24 * t + (a + 1 + 1)) (congrArg nI (by omega)) (by omega) ?_
          refine zn_iinc hC dX9_film_89 rfl (by decide) (zk_inc _ 1) ?_
          refine zr_iload hC dX9_film_92 rfl ?_
          refine zk_iconst hC dX9_film_94 (v := nI 2) (by decide +kernel) ?_
          refine zn_idiv hC dX9_film_95 (by decide) (z_half (by omega)) ?_
          refine zr_istore hC dX9_film_96 (by decide) ?_
          refine zr_goto hC dX9_film_98 (tgt := 66) (by decide) ?_
          refine zr_iload hC dX9_film_66 rfl ?_
          refine zr_if_le hC dX9_film_68 (tgt := 101) (by decide) (fun c => absurd c (nI_nle (by omega) (by omega))) (fun c_68 => ?_)
          refine zr_aload_n hC dX9_film_71 rfl ?_
          refine zs_getr hC dX9_film_72 fl_X9_48 (a := 245) (r := 257) rfl (by decide) ?_
          refine zr_iload hC dX9_film_75 rfl ?_
          refine zr_aload_n hC dX9_film_77 rfl ?_
          refine zr_iload hC dX9_film_78 rfl ?_
          refine zs_callV hC (b := 245) [_] [_, _] dX9_film_80 ml_X9_140 mtX9_keyOf tX9_keyOf (by decide) (by decide) (by decide) rfl rfl (by decide) (by decide +kernel) (Nat.le_of_ble_eq_true rfl) rfl ?_
          refine ⟨v / 2 / 2 / 2, G.1, rfl, by omega, hMG.1, ?_⟩
          rw [hGI.1.kofm (by omega) (by omega)]
          dsimp only [Option.toList, List.cons_append, List.nil_append]
          refine zr_i2l hC dX9_film_83 ?_
          refine zr_iload_n hC dX9_film_84 rfl ?_
          refine zs_callS hC [_, _] [_, _] dX9_film_85 ml_X9_254 mtX9_cut tX9_cut (by decide) (by decide) (by decide) rfl (Nat.le_of_ble_eq_true rfl) rfl ?_
          refine ⟨_, c, rfl, hc, ?_⟩
          dsimp only [Option.toList, List.cons_append, List.nil_append]
          refine zs_last hC dX9_film_88 (a := 257) (n := 96) rfl (by decide) (by decide) (j := 24 * t + (a + 1 + 1 + 1)) (congrArg nI (by omega)) (by omega) ?_
          refine zn_iinc hC dX9_film_89 rfl (by decide) (zk_inc _ 1) ?_
          refine zr_iload hC dX9_film_92 rfl ?_
          refine zk_iconst hC dX9_film_94 (v := nI 2) (by decide +kernel) ?_
          refine zn_idiv hC dX9_film_95 (by decide) (z_half (by omega)) ?_
          refine zr_istore hC dX9_film_96 (by decide) ?_
          refine zr_goto hC dX9_film_98 (tgt := 66) (by decide) ?_
          refine zr_iload hC dX9_film_66 rfl ?_
          refine zr_if_le hC dX9_film_68 (tgt := 101) (by decide) (fun c => absurd c (nI_nle (by omega) (by omega))) (fun c_68 => ?_)
          refine zr_aload_n hC dX9_film_71 rfl ?_
          refine zs_getr hC dX9_film_72 fl_X9_48 (a := 245) (r := 257) rfl (by decide) ?_
          refine zr_iload hC dX9_film_75 rfl ?_
          refine zr_aload_n hC dX9_film_77 rfl ?_
          refine zr_iload hC dX9_film_78 rfl ?_
          refine zs_callV hC (b := 245) [_] [_, _] dX9_film_80 ml_X9_140 mtX9_keyOf tX9_keyOf (by decide) (by decide) (by decide) rfl rfl (by decide) (by decide +kernel) (Nat.le_of_ble_eq_true rfl) rfl ?_
          refine ⟨v / 2 / 2 / 2 / 2, G.1, rfl, by omega, hMG.1, ?_⟩
          rw [hGI.1.kofm (by omega) (by omega)]
          dsimp only [Option.toList, List.cons_append, List.nil_append]
          refine zr_i2l hC dX9_film_83 ?_
          refine zr_iload_n hC dX9_film_84 rfl ?_
          refine zs_callS hC [_, _] [_, _] dX9_film_85 ml_X9_254 mtX9_cut tX9_cut (by decide) (by decide) (by decide) rfl (Nat.le_of_ble_eq_true rfl) rfl ?_
          refine ⟨_, c, rfl, hc, ?_⟩
          dsimp only [Option.toList, List.cons_append, List.nil_append]
          refine zs_last hC dX9_film_88 (a := 257) (n := 96) rfl (by decide) (by decide) (j := 24 * t + (a + 1 + 1 + 1 + 1)) (congrArg nI (by omega)) (by omega) ?_
          refine zn_iinc hC dX9_film_89 rfl (by decide) (zk_inc _ 1) ?_
          refine zr_iload hC dX9_film_92 rfl ?_
          refine zk_iconst hC dX9_film_94 (v := nI 2) (by decide +kernel) ?_
          refine zn_idiv hC dX9_film_95 (by decide) (z_half (by omega)) ?_
          refine zr_istore hC dX9_film_96 (by decide) ?_
          refine zr_goto hC dX9_film_98 (tgt := 66) (by decide) ?_
          refine zr_iload hC dX9_film_66 rfl ?_
          refine zr_if_le hC dX9_film_68 (tgt := 101) (by decide) (fun c_68 => ?_) (fun c => absurd c (not_not_intro (nI_le (b := 0) (by omega) (by decide))))
          refine zk_iconst hC dX9_film_101 (v := nI 5) (by decide +kernel) ?_
          exact zr_ireturn hC hE dX9_film_102 (hr _ _ (hQ _ (((((hMG.put5 (by omega)).put5 (by omega)).put5 (by omega)).put5 (by omega)).put5 (by omega)) (((((zputL_m (by decide)).tr (zputL_m (by decide))).tr (zputL_m (by decide))).tr (zputL_m (by decide))).tr (zputL_m (by decide)))))
        · rw [shref_ge] at c_48
          rw [if_pos c_48] at hQ
          refine zr_iload hC dX9_film_51 rfl ?_
          exact zr_ireturn hC hE dX9_film_53 (hr _ _ (hQ _ hMG zfm.rf))
      · simp only [fFilm, rg_yes v1 v2 (show 31 < 2147483648 by decide), mm_yes ht (show 4 < 2147483648 by decide), mm_no (e1.imp id z_3)] at hQ
        dsimp only [Option.toList, List.cons_append, List.nil_append]
        refine zr_if_ne hC dX9_film_30 (tgt := 35) (by decide) (fun c => absurd c (by decide +kernel)) (fun c_30 => ?_)
        refine zk_iconst hC dX9_film_33 (v := (-1)) (by decide +kernel) ?_
        exact zr_ireturn hC hE dX9_film_34 (hr _ _ (hQ _ hMG zfm.rf))
    · simp only [fFilm, rg_yes v1 v2 (show 31 < 2147483648 by decide), mm_no hx] at hQ
      dsimp only [Option.toList, List.cons_append, List.nil_append]
      refine zr_if_eq hC dX9_film_18 (tgt := 33) (by decide) (fun c_18 => ?_) (fun c => absurd c (by decide +kernel))
      refine zk_iconst hC dX9_film_33 (v := (-1)) (by decide +kernel) ?_
      exact zr_ireturn hC hE dX9_film_34 (hr _ _ (hQ _ hMG zfm.rf))
  · simp only [fFilm, rg_no e1] at hQ
    dsimp only [Option.toList, List.cons_append, List.nil_append]
    refine zr_if_eq hC dX9_film_11 (tgt := 33) (by decide) (fun c_11 => ?_) (fun c => absurd c (by decide +kernel))
    refine zk_iconst hC dX9_film_33 (v := (-1)) (by decide +kernel) ?_
    exact zr_ireturn hC hE dX9_film_34 (hr _ _ (hQ _ hMG zfm.rf))
