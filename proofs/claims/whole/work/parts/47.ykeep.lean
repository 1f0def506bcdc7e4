/-! THE CALLS OF THE MODEL: seed, type, undo, image, restore -/
theorem zcpy_sd (S : zS) {a b sp i : Nat} : zput (zcpy S a sp b 0 i) b i (S.1 a (sp + i)) = zcpy S a sp b 0 (i + 1) := by
  have h := zcpy_s S (a := a) (b := b) (sp := sp) (dp := 0) (i := i)
  rwa [Nat.zero_add] at h
theorem zcpy_s0 (S : zS) {a b i : Nat} : zput (zcpy S a 0 b 0 i) b i (S.1 a i) = zcpy S a 0 b 0 (i + 1) := by
  have h := zcpy_sd S (a := a) (b := b) (sp := 0) (i := i)
  rwa [Nat.zero_add] at h
theorem zcpy_to (S : zS) {a b sp n k : Nat} (h2 : k < n) : (zcpy S a sp b 0 n).1 b k = S.1 a (sp + k) := zcpy_in S (Nat.zero_le k) (by omega)
theorem zcpy_to0 (S : zS) {a b n k : Nat} (h2 : k < n) : (zcpy S a 0 b 0 n).1 b k = S.1 a k := (zcpy_to S h2).trans (congrArg (S.1 a) (Nat.zero_add k))
theorem zcpy_m {S : zS} {a sp b dp n : Nat} (h : 245 ≤ b) : zfm S (zcpy S a sp b dp n) := fun x hx => ⟨zcpy_ne S (by omega), rfl⟩
theorem zput_m {S : zS} {a k : Nat} {x : Int32} (h : 245 ≤ a) : zfm S (zput S a k x) := fun y hy => ⟨zput_ne _ _ (by omega), rfl⟩
/-- cells that the sheets, the tape lie in stay -/
theorem MT.fr {S S' : zS} {t : (Nat → Nat) × Nat} (h : MT S t) (h1 : S'.1 245 6 = S.1 245 6) (h2 : S'.1 251 = S.1 251) : MT S' t := by
  unfold MT; rw [h1, h2]; exact h
theorem MSH.fr {S S' : zS} {t : zH} (h : MSH S t) (h1 : S'.1 255 = S.1 255) (h2 : S'.1 256 = S.1 256) (h3 : S'.2 257 = S.2 257) : MSH S' t := by
  unfold MSH; rw [h1, h2, h3]; exact h
theorem MIM.fr {S S' : zS} {t : Bool × zD × zP} (h : MIM S t) (h1 : S'.1 245 13 = S.1 245 13) (h2 : S'.1 253 = S.1 253) (h3 : S'.1 254 = S.1 254) : MIM S' t :=
  ⟨fun q => h1.trans (h.1 q), fun q => ⟨by rw [h2]; exact (h.2 q).1, (h.2 q).2.fr h1 h3⟩⟩
theorem MP.cp {S S' : zS} {c f c' f' : Nat} {p : zP} (h : MP S c f p) (h1 : S'.1 245 f' = S.1 245 f) (h2 : ∀ k, k < 4512 → S'.1 c' k = S.1 c k) : MP S' c' f' p :=
  ⟨h1.trans h.1, h.2.1, fun j hj => (h.2.2 j hj).ext (fun k hk => h2 _ (by have := h.2.1; omega))⟩
def spX9_seed : zSp := fun av S Q => ∃ (G : zG) (x : Int32), av = [.ref 245, .int x] ∧ MG S G ∧ GI G ∧ ∀ S', MG S' (fSeed x G).2 → zfm S S' → Q (some (.int (fSeed x G).1)) S'
set_option maxHeartbeats 4000000 in
set_option maxRecDepth 100000 in
theorem tX9_seed : zM yX9_seed cX9_seed 3 (some .int) 0 spX9_seed := by
  refine zM.of (by decide) (by decide) (fun av S Q h => by obtain ⟨G, x, rfl, hMG, hGI, hQ⟩ := h; exact Nat.le_of_ble_eq_true rfl) (fun C τ ι av S Q Qr h hr hC hE => ?_)
  obtain ⟨G, x, rfl, hMG, hGI, hQ⟩ := h
  show zR C τ ι _ 0 0 0 [(0, .ref 245), (1, .int x)] [] _
  refine zr_iload_n hC dX9_seed_0 rfl ?_
  refine zr_if_ge hC dX9_seed_1 (tgt := 6) (by decide) (fun c_1 => ?_) (fun c_1 => ?_)
  · obtain ⟨j, hj, rfl⟩ := nI_of (x := x) (fun q => by rw [Int32.lt_iff_toInt_lt] at q; rw [Int32.le_iff_toInt_le] at c_1; omega)
    rw [fSeed, if_neg (nI_pos hj), pk_tn (by omega)] at hQ
    refine zr_aload_n hC dX9_seed_6 rfl ?_
    refine zs_getr hC dX9_seed_7 fl_X9_7 (a := 245) (r := 246) rfl (by decide) ?_
    refine zk_iconst hC dX9_seed_10 (v := nI 3) (by decide +kernel) ?_
    refine zv_iald hC dX9_seed_11 (a := 246) (n := 752) rfl (by decide) (by decide) (j := 3) rfl (by decide) (hMG.1.1.1.2.2.2) ?_
    refine zr_istore_n hC dX9_seed_12 (by decide) ?_
    refine zr_aload_n hC dX9_seed_13 rfl ?_
    refine zs_getr hC dX9_seed_14 fl_X9_7 (a := 245) (r := 246) rfl (by decide) ?_
    refine zk_iconst hC dX9_seed_17 (v := nI 3) (by decide +kernel) ?_
    refine zr_iload_n hC dX9_seed_18 rfl ?_
    refine zs_iast hC dX9_seed_19 (a := 246) (n := 752) rfl (by decide) (by decide) (j := 3) rfl (by decide) ?_
    refine zr_iload_n hC dX9_seed_20 rfl ?_
    exact zr_ireturn hC hE dX9_seed_21 (hr _ _ (by first | exact hQ _ (hMG.book (by rw [zput_arr]; exact hMG.1.set6 (Or.inr rfl) (fun q => absurd q (by decide))) (zfrm.rf.put (by decide) (by decide))) (zput_m (by decide)) | exact hQ _ hMG zfm.rf))
  · rw [fSeed, if_pos (by rw [Int32.lt_iff_toInt_lt]; rw [Int32.le_iff_toInt_le] at c_1; omega)] at hQ
    refine zk_iconst hC dX9_seed_4 (v := (-1)) (by decide +kernel) ?_
    exact zr_ireturn hC hE dX9_seed_5 (hr _ _ (by first | exact hQ _ (hMG.book (by rw [zput_arr]; exact hMG.1.set6 (Or.inr rfl) (fun q => absurd q (by decide))) (zfrm.rf.put (by decide) (by decide))) (zput_m (by decide)) | exact hQ _ hMG zfm.rf))
theorem MT.push {S : zS} {t : (Nat → Nat) × Nat} {c : Nat} (h : MT S t) (hn : t.2 < 90) : MT (zput (zput S 251 t.2 (nI c)) 245 6 (nI (t.2 + 1))) (fup t.1 t.2 c, t.2 + 1) := by
  refine ⟨zput_at _ _ _ _, by show t.2 + 1 ≤ 90; omega, fun i hi => ?_⟩
  replace hi : i < t.2 + 1 := hi
  rw [zput_ne _ _ (by decide)]
  show _ = nI (fup t.1 t.2 c i)
  by_cases q : i = t.2
  · subst q; rw [zput_at]; exact congrArg nI (if_pos rfl).symm
  · rw [zput_k _ _ q, h.2.2 i (by omega)]; exact congrArg nI (if_neg q).symm
theorem MG.tape {S S' : zS} {G : zG} (h : MG S G) {t : (Nat → Nat) × Nat} (hT : MT S' t) (h5 : ∀ k, k ≠ 6 → S'.1 245 k = S.1 245 k) (he : ∀ a, a ≠ 245 → a ≠ 251 → S'.1 a = S.1 a) (h2 : S'.2 = S.2) : MG S' (gtape G t) := by
  obtain ⟨a, b, c, d, e⟩ := h
  exact ⟨by rw [he 246 (by decide) (by decide)]; exact a, b.fr (h5 _ (by decide)) (he _ (by decide) (by decide)), c.fr (h5 _ (by decide)) (he _ (by decide) (by decide)) (he _ (by decide) (by decide)), hT, e.fr (he _ (by decide) (by decide)) (he _ (by decide) (by decide)) (by rw [h2])⟩
def spX9_type : zSp := fun av S Q => ∃ (G : zG) (x : Int32), av = [.ref 245, .int x] ∧ MG S G ∧ GI G ∧ ∀ S', MG S' (fType x G).2 → zfm S S' → Q (some (.int (fType x G).1)) S'
set_option maxHeartbeats 4000000 in
set_option maxRecDepth 100000 in
theorem tX9_type : zM yX9_type cX9_type 2 (some .int) 1 spX9_type := by
  refine zM.of (by decide) (by decide) (fun av S Q h => by obtain ⟨G, x, rfl, hMG, hGI, hQ⟩ := h; exact Nat.le_of_ble_eq_true rfl) (fun C τ ι av S Q Qr h hr hC hE => ?_)
  obtain ⟨G, x, rfl, hMG, hGI, hQ⟩ := h
  show zR C τ ι _ 0 0 0 [(0, .ref 245), (1, .int x)] [] _
  refine zr_iload_n hC dX9_type_0 rfl ?_
  refine zr_i2l hC dX9_type_1 ?_
  refine zr_ldc2 hC dX9_type_2 kl_X9_200 ?_
  refine zr_ldc2 hC dX9_type_5 kl_X9_202 ?_
  refine zs_callS hC [_, _, _] [] dX9_type_8 ml_X9_60 mtX9_in tX9_in (by decide) (by decide) (by decide) rfl (Nat.le_of_ble_eq_true rfl) rfl ?_
  refine ⟨_, _, _, rfl, fun r e => ?_⟩
  obtain ⟨w1, w2⟩ := z_one (x := x) (lo := nI 32) (hi := nI 126) rfl (show (32 : Int64) = _ by decide +kernel) (show (126 : Int64) = _ by decide +kernel)
  have e : (r = nI 1 ∧ ¬ x < nI 32 ∧ ¬ nI 126 < x) ∨ (r = nI 0 ∧ (x < nI 32 ∨ nI 126 < x)) := by
    rcases e with ⟨e, e1, e2⟩ | ⟨e, e1⟩
    · exact Or.inl ⟨e, fun q => e1 (w1.mpr q), fun q => e2 (w2.mpr q)⟩
    · exact Or.inr ⟨e, e1.imp w1.mp w2.mp⟩
  rcases e with ⟨rfl, e1, e2⟩ | ⟨rfl, e1⟩
  · obtain ⟨c, b1, b2, rfl⟩ := rg_in e1 e2 (by decide) (by decide)
    simp only [fType, rg_yes b1 b2 (show 126 < 2147483648 by decide)] at hQ
    have hn := hMG.2.2.2.1.2.1
    dsimp only [Option.toList, List.cons_append, List.nil_append]
    refine zr_if_ne hC dX9_type_11 (tgt := 16) (by decide) (fun c_11 => ?_) (fun c => absurd c (by decide +kernel))
    refine zr_aload_n hC dX9_type_16 rfl ?_
    refine zv_geti hC dX9_type_17 fl_X9_204 (a := 245) rfl (by decide) (hMG.2.2.2.1.1) ?_
    refine zk_bipush hC dX9_type_20 (v := nI 90) (by decide +kernel) ?_
    refine zr_icmp_ne hC dX9_type_22 (tgt := 28) (by decide) (fun c_22 => ?_) (fun c_22 => ?_)
    · have hn2 : G.2.2.2.1.2 < 90 := by have : G.2.2.2.1.2 ≠ 90 := fun q => c_22 (by rw [q]); omega
      rw [if_pos hn2] at hQ
      refine zr_aload_n hC dX9_type_28 rfl ?_
      refine zs_getr hC dX9_type_29 fl_X9_26 (a := 245) (r := 251) rfl (by decide) ?_
      refine zr_aload_n hC dX9_type_32 rfl ?_
      refine zv_geti hC dX9_type_33 fl_X9_204 (a := 245) rfl (by decide) (hMG.2.2.2.1.1) ?_
      refine zr_iload_n hC dX9_type_36 rfl ?_
      refine zs_iast hC dX9_type_37 (a := 251) (n := 90) rfl (by decide) (by decide) (j := G.2.2.2.1.2) rfl hn2 ?_
      refine zr_aload_n hC dX9_type_38 rfl ?_
      refine zr_dup hC dX9_type_39 rfl ?_
      refine zv_geti hC dX9_type_40 fl_X9_204 (a := 245) rfl (by decide) ((congrFun (zput_ne S (nI c) (by decide)) 6).trans hMG.2.2.2.1.1) ?_
      refine zk_iconst hC dX9_type_43 (v := nI 1) (by decide +kernel) ?_
      refine zn_iadd hC dX9_type_44 (nI_add _ _) ?_
      refine zs_puti hC dX9_type_45 fl_X9_204 fp_X9_6 (a := 245) rfl (by decide) ?_
      refine zr_aload_n hC dX9_type_48 rfl ?_
      refine zv_geti hC dX9_type_49 fl_X9_204 (a := 245) rfl (by decide) (zput_at _ 245 6 _) ?_
      exact zr_ireturn hC hE dX9_type_52 (hr _ _ (by first | exact hQ _ (hMG.tape (hMG.2.2.2.1.push hn2) (fun k hk => by rw [zput_k _ _ hk, zput_ne _ _ (by decide)]) (fun a q1 q2 => by rw [zput_ne _ _ q1, zput_ne _ _ q2]) rfl) ((zput_m (by decide)).tr (zput_m (by decide))) | exact hQ _ hMG zfm.rf))
    · rw [nI_eq (by omega) (by decide)] at c_22
      rw [if_neg (by omega)] at hQ
      refine zk_bipush hC dX9_type_25 (v := (-3)) (by decide +kernel) ?_
      exact zr_ireturn hC hE dX9_type_27 (hr _ _ (by first | exact hQ _ (hMG.tape (hMG.2.2.2.1.push hn2) (fun k hk => by rw [zput_k _ _ hk, zput_ne _ _ (by decide)]) (fun a q1 q2 => by rw [zput_ne _ _ q1, zput_ne _ _ q2]) rfl) ((zput_m (by decide)).tr (zput_m (by decide))) | exact hQ _ hMG zfm.rf))
  · simp only [fType, rg_no e1] at hQ
    dsimp only [Option.toList, List.cons_append, List.nil_append]
    refine zr_if_ne hC dX9_type_11 (tgt := 16) (by decide) (fun c => absurd c (by decide +kernel)) (fun c_11 => ?_)
    refine zk_iconst hC dX9_type_14 (v := (-1)) (by decide +kernel) ?_
    exact zr_ireturn hC hE dX9_type_15 (hr _ _ (by first | exact hQ _ (hMG.tape (hMG.2.2.2.1.push hn2) (fun k hk => by rw [zput_k _ _ hk, zput_ne _ _ (by decide)]) (fun a q1 q2 => by rw [zput_ne _ _ q1, zput_ne _ _ q2]) rfl) ((zput_m (by decide)).tr (zput_m (by decide))) | exact hQ _ hMG zfm.rf))
set_option maxHeartbeats 4000000 in
set_option maxRecDepth 100000 in
theorem l9_undo {C : zCx} {τ : Nat → ClassId} {ι : Nat → Nat} (hC : zOK C τ (zrm 0 0 0) yX9_undo.cls cX9_undo 2) {S0 : zS} {n : Nat} (hn : S0.1 245 10 = nI n) (hn5 : n < 6) (k : ∀ lv, zlk 0 lv = some (.ref 245) → zR C τ ι 2 0 0 56 lv [] (zcells (zcpy S0 252 (752 * n) 246 0 752))) : ∀ (d i : Nat), i + d = 752 → zR C τ ι 2 0 0 22 [(0, .ref 245), (1, .int (nI i))] [] (zcells (zcpy S0 252 (752 * n) 246 0 i)) := by
  intro d
  induction d with
  | zero =>
    intro i hi
    refine zr_iload_n hC dX9_undo_22 rfl ?_
    refine zk_sipush hC dX9_undo_23 (v := nI 752) (by decide +kernel) ?_
    refine zr_icmp_ge hC dX9_undo_26 (tgt := 56) (by decide) (fun c_26 => ?_) (fun c => absurd c (not_not_intro (nI_le (by omega) (by omega))))
    obtain rfl : i = 752 := (by omega)
    exact k _ rfl
  | succ d ih =>
    intro i hi
    refine zr_iload_n hC dX9_undo_22 rfl ?_
    refine zk_sipush hC dX9_undo_23 (v := nI 752) (by decide +kernel) ?_
    refine zr_icmp_ge hC dX9_undo_26 (tgt := 56) (by decide) (fun c => absurd c (nI_ge (by omega) (by omega))) (fun c_26 => ?_)
    refine zr_aload_n hC dX9_undo_29 rfl ?_
    refine zs_getr hC dX9_undo_30 fl_X9_7 (a := 245) (r := 246) rfl (by decide) ?_
    refine zr_iload_n hC dX9_undo_33 rfl ?_
    refine zr_aload_n hC dX9_undo_34 rfl ?_
    refine zs_getr hC dX9_undo_35 fl_X9_29 (a := 245) (r := 252) rfl (by decide) ?_
    refine zk_sipush hC dX9_undo_38 (v := nI 752) (by decide +kernel) ?_
    refine zr_aload_n hC dX9_undo_41 rfl ?_
    refine zv_geti hC dX9_undo_42 fl_X9_169 (a := 245) rfl (by decide) ((congrFun (zcpy_ne S0 (by decide)) 10).trans hn) ?_
    refine zn_imul hC dX9_undo_45 (pk_mul _ _) ?_
    refine zr_iload_n hC dX9_undo_46 rfl ?_
    refine zn_iadd hC dX9_undo_47 (nI_add _ _) ?_
    refine zv_iald hC dX9_undo_48 (a := 252) (n := 4512) rfl (by decide) (by decide) (j := (752 * n) + i) rfl (by omega) (congrFun (zcpy_ne S0 (by decide)) _) ?_
    refine zs_iast hC dX9_undo_49 (a := 246) (n := 752) rfl (by decide) (by decide) (j := i) rfl (by omega) ?_
    refine zn_iinc hC dX9_undo_50 rfl (by decide) (zk_inc _ 1) ?_
    refine zr_goto hC dX9_undo_53 (tgt := 22) (by decide) ?_
    rw [zcpy_sd S0]
    exact zR_sub [(0, .ref 245), (1, .int (nI (i + 1)))] ⟨rfl, rfl, trivial⟩ (ih (i + 1) (by omega))
def spX9_undo : zSp := fun av S Q => ∃ (G : zG), av = [.ref 245] ∧ MG S G ∧ GI G ∧ ∀ S', MG S' (fUndo G).2 → zfm S S' → Q (some (.int (fUndo G).1)) S'
set_option maxHeartbeats 4000000 in
set_option maxRecDepth 100000 in
theorem tX9_undo : zM yX9_undo cX9_undo 2 (some .int) 0 spX9_undo := by
  refine zM.of (by decide) (by decide) (fun av S Q h => by obtain ⟨G, rfl, hMG, hGI, hQ⟩ := h; exact Nat.le_of_ble_eq_true rfl) (fun C τ ι av S Q Qr h hr hC hE => ?_)
  obtain ⟨G, rfl, hMG, hGI, hQ⟩ := h
  show zR C τ ι _ 0 0 0 [(0, .ref 245)] [] _
  refine zr_aload_n hC dX9_undo_0 rfl ?_
  refine zv_geti hC dX9_undo_1 fl_X9_169 (a := 245) rfl (by decide) (hMG.2.1.1) ?_
  refine zr_if_ne hC dX9_undo_4 (tgt := 10) (by decide) (fun c_4 => ?_) (fun c_4 => ?_)
  · have h6 := hMG.2.1.2.1
    have h0 : G.2.1.2 ≠ 0 := fun q => c_4 (by rw [q]; rfl)
    rw [fUndo, if_neg h0] at hQ
    refine zr_aload_n hC dX9_undo_10 rfl ?_
    refine zr_dup hC dX9_undo_11 rfl ?_
    refine zv_geti hC dX9_undo_12 fl_X9_169 (a := 245) rfl (by decide) (hMG.2.1.1) ?_
    refine zk_iconst hC dX9_undo_15 (v := nI 1) (by decide +kernel) ?_
    refine zn_isub hC dX9_undo_16 (pk_sub (by omega)) ?_
    refine zs_puti hC dX9_undo_17 fl_X9_169 fp_X9_10 (a := 245) rfl (by decide) ?_
    refine zk_iconst hC dX9_undo_20 (v := nI 0) (by decide +kernel) ?_
    refine zr_istore_n hC dX9_undo_21 (by decide) ?_
    refine zR_sub [(0, .ref 245), (1, .int (nI 0))] ⟨rfl, rfl, trivial⟩ ?_
    have q0 := l9_undo (S0 := zput S 245 10 (nI (G.2.1.2 - 1))) hC (ι := ι) (zput_at _ _ _ _) (by omega) (fun lv h0 => ?_) 752 0 (by omega)
    · rwa [zcpy_0] at q0
    refine zR_sub [(0, .ref 245)] ⟨h0, trivial⟩ ?_
    have hn : (zput S 245 10 (nI (G.2.1.2 - 1))).1 245 10 = nI (G.2.1.2 - 1) := zput_at _ _ _ _
    refine zr_aload_n hC dX9_undo_56 rfl ?_
    refine zv_geti hC dX9_undo_57 fl_X9_169 (a := 245) rfl (by decide) ((congrFun (zcpy_ne _ (by decide)) 10).trans hn) ?_
    refine zr_ireturn hC hE dX9_undo_60 (hr _ _ (hQ _ ?_ ?_))
    · obtain ⟨a, b, c, d, e⟩ := hMG
      refine ⟨(b.2.2 (G.2.1.2 - 1) (by omega)).ext (fun k hk => ?_), ⟨(congrFun (zcpy_ne _ (by decide)) 10).trans hn, by show G.2.1.2 - 1 ≤ 6; omega, fun j hj => (b.2.2 j (by show j < G.2.1.2; exact Nat.lt_of_lt_of_le hj (Nat.sub_le _ _))).ext (fun k hk => ?_)⟩, c.fr ((congrFun (zcpy_ne _ (by decide)) _).trans (zput_k _ _ (by decide))) ((zcpy_ne _ (by decide)).trans (zput_ne _ _ (by decide))) ((zcpy_ne _ (by decide)).trans (zput_ne _ _ (by decide))), d.fr ((congrFun (zcpy_ne _ (by decide)) _).trans (zput_k _ _ (by decide))) ((zcpy_ne _ (by decide)).trans (zput_ne _ _ (by decide))), e.fr ((zcpy_ne _ (by decide)).trans (zput_ne _ _ (by decide))) ((zcpy_ne _ (by decide)).trans (zput_ne _ _ (by decide))) rfl⟩
      · rw [zcpy_to _ hk, zput_ne _ _ (by decide)]
      · rw [zcpy_ne _ (by decide), zput_ne _ _ (by decide)]
    · exact (zput_m (by decide)).tr (zcpy_m (by decide))
  · have h6 := hMG.2.1.2.1
    rw [z_ne0 (by omega)] at c_4
    rw [fUndo, if_pos c_4] at hQ
    refine zk_bipush hC dX9_undo_7 (v := (-4)) (by decide +kernel) ?_
    exact zr_ireturn hC hE dX9_undo_9 (hr _ _ (hQ _ hMG zfm.rf))
set_option maxHeartbeats 4000000 in
set_option maxRecDepth 100000 in
theorem l9_image1 {C : zCx} {τ : Nat → ClassId} {ι : Nat → Nat} (hC : zOK C τ (zrm 0 0 0) yX9_image.cls cX9_image 2) {S0 : zS} (k : ∀ lv, zlk 0 lv = some (.ref 245) → zR C τ ι 2 0 0 27 lv [] (zcells (zcpy S0 246 0 253 0 752))) : ∀ (d i : Nat), i + d = 752 → zR C τ ι 2 0 0 2 [(0, .ref 245), (1, .int (nI i))] [] (zcells (zcpy S0 246 0 253 0 i)) := by
  intro d
  induction d with
  | zero =>
    intro i hi
    refine zr_iload_n hC dX9_image_2 rfl ?_
    refine zk_sipush hC dX9_image_3 (v := nI 752) (by decide +kernel) ?_
    refine zr_icmp_ge hC dX9_image_6 (tgt := 27) (by decide) (fun c_6 => ?_) (fun c => absurd c (not_not_intro (nI_le (by omega) (by omega))))
    obtain rfl : i = 752 := (by omega)
    exact k _ rfl
  | succ d ih =>
    intro i hi
    refine zr_iload_n hC dX9_image_2 rfl ?_
    refine zk_sipush hC dX9_image_3 (v := nI 752) (by decide +kernel) ?_
    refine zr_icmp_ge hC dX9_image_6 (tgt := 27) (by decide) (fun c => absurd c (nI_ge (by omega) (by omega))) (fun c_6 => ?_)
    refine zr_aload_n hC dX9_image_9 rfl ?_
    refine zs_getr hC dX9_image_10 fl_X9_32 (a := 245) (r := 253) rfl (by decide) ?_
    refine zr_iload_n hC dX9_image_13 rfl ?_
    refine zr_aload_n hC dX9_image_14 rfl ?_
    refine zs_getr hC dX9_image_15 fl_X9_7 (a := 245) (r := 246) rfl (by decide) ?_
    refine zr_iload_n hC dX9_image_18 rfl ?_
    refine zv_iald hC dX9_image_19 (a := 246) (n := 752) rfl (by decide) (by decide) (j := i) rfl (by omega) (congrFun (zcpy_ne S0 (by decide)) _) ?_
    refine zs_iast hC dX9_image_20 (a := 253) (n := 752) rfl (by decide) (by decide) (j := i) rfl (by omega) ?_
    refine zn_iinc hC dX9_image_21 rfl (by decide) (zk_inc _ 1) ?_
    refine zr_goto hC dX9_image_24 (tgt := 2) (by decide) ?_
    rw [zcpy_s0 S0]
    exact zR_sub [(0, .ref 245), (1, .int (nI (i + 1)))] ⟨rfl, rfl, trivial⟩ (ih (i + 1) (by omega))
set_option maxHeartbeats 4000000 in
set_option maxRecDepth 100000 in
theorem l9_image2 {C : zCx} {τ : Nat → ClassId} {ι : Nat → Nat} (hC : zOK C τ (zrm 0 0 0) yX9_image.cls cX9_image 2) {S0 : zS} (k : ∀ lv, zlk 0 lv = some (.ref 245) → zR C τ ι 2 0 0 54 lv [] (zcells (zcpy S0 252 0 254 0 4512))) : ∀ (d i : Nat), i + d = 4512 → zR C τ ι 2 0 0 29 [(0, .ref 245), (1, .int (nI i))] [] (zcells (zcpy S0 252 0 254 0 i)) := by
  intro d
  induction d with
  | zero =>
    intro i hi
    refine zr_iload_n hC dX9_image_29 rfl ?_
    refine zk_sipush hC dX9_image_30 (v := nI 4512) (by decide +kernel) ?_
    refine zr_icmp_ge hC dX9_image_33 (tgt := 54) (by decide) (fun c_33 => ?_) (fun c => absurd c (not_not_intro (nI_le (by omega) (by omega))))
    obtain rfl : i = 4512 := (by omega)
    exact k _ rfl
  | succ d ih =>
    intro i hi
    refine zr_iload_n hC dX9_image_29 rfl ?_
    refine zk_sipush hC dX9_image_30 (v := nI 4512) (by decide +kernel) ?_
    refine zr_icmp_ge hC dX9_image_33 (tgt := 54) (by decide) (fun c => absurd c (nI_ge (by omega) (by omega))) (fun c_33 => ?_)
    refine zr_aload_n hC dX9_image_36 rfl ?_
    refine zs_getr hC dX9_image_37 fl_X9_35 (a := 245) (r := 254) rfl (by decide) ?_
    refine zr_iload_n hC dX9_image_40 rfl ?_
    refine zr_aload_n hC dX9_image_41 rfl ?_
    refine zs_getr hC dX9_image_42 fl_X9_29 (a := 245) (r := 252) rfl (by decide) ?_
    refine zr_iload_n hC dX9_image_45 rfl ?_
    refine zv_iald hC dX9_image_46 (a := 252) (n := 4512) rfl (by decide) (by decide) (j := i) rfl (by omega) (congrFun (zcpy_ne S0 (by decide)) _) ?_
    refine zs_iast hC dX9_image_47 (a := 254) (n := 4512) rfl (by decide) (by decide) (j := i) rfl (by omega) ?_
    refine zn_iinc hC dX9_image_48 rfl (by decide) (zk_inc _ 1) ?_
    refine zr_goto hC dX9_image_51 (tgt := 29) (by decide) ?_
    rw [zcpy_s0 S0]
    exact zR_sub [(0, .ref 245), (1, .int (nI (i + 1)))] ⟨rfl, rfl, trivial⟩ (ih (i + 1) (by omega))
def spX9_image : zSp := fun av S Q => ∃ (G : zG), av = [.ref 245] ∧ MG S G ∧ GI G ∧ ∀ S', MG S' (fImage G).2 → zfm S S' → Q (some (.int (fImage G).1)) S'
set_option maxHeartbeats 4000000 in
set_option maxRecDepth 100000 in
theorem tX9_image : zM yX9_image cX9_image 2 (some .int) 0 spX9_image := by
  refine zM.of (by decide) (by decide) (fun av S Q h => by obtain ⟨G, rfl, hMG, hGI, hQ⟩ := h; exact Nat.le_of_ble_eq_true rfl) (fun C τ ι av S Q Qr h hr hC hE => ?_)
  obtain ⟨G, rfl, hMG, hGI, hQ⟩ := h
  show zR C τ ι _ 0 0 0 [(0, .ref 245)] [] _
  refine zk_iconst hC dX9_image_0 (v := nI 0) (by decide +kernel) ?_
  refine zr_istore_n hC dX9_image_1 (by decide) ?_
  refine zR_sub [(0, .ref 245), (1, .int (nI 0))] ⟨rfl, rfl, trivial⟩ ?_
  have q0 := l9_image1 (S0 := S) hC (ι := ι) (fun lv h0 => ?_) 752 0 (by omega)
  · rwa [zcpy_0] at q0
  refine zR_sub [(0, .ref 245)] ⟨h0, trivial⟩ ?_
  refine zk_iconst hC dX9_image_27 (v := nI 0) (by decide +kernel) ?_
  refine zr_istore_n hC dX9_image_28 (by decide) ?_
  refine zR_sub [(0, .ref 245), (1, .int (nI 0))] ⟨rfl, rfl, trivial⟩ ?_
  have q0 := l9_image2 (S0 := zcpy S 246 0 253 0 752) hC (ι := ι) (fun lv h0 => ?_) 4512 0 (by omega)
  · rwa [zcpy_0] at q0
  refine zR_sub [(0, .ref 245)] ⟨h0, trivial⟩ ?_
  refine zr_aload_n hC dX9_image_54 rfl ?_
  refine zr_aload_n hC dX9_image_55 rfl ?_
  refine zv_geti hC dX9_image_56 fl_X9_169 (a := 245) rfl (by decide) (((congrFun (zcpy_ne _ (by decide)) 10).trans (congrFun (zcpy_ne _ (by decide)) 10)).trans hMG.2.1.1) ?_
  refine zs_puti hC dX9_image_59 fl_X9_38 fp_X9_13 (a := 245) rfl (by decide) ?_
  refine zk_iconst hC dX9_image_62 (v := nI 1) (by decide +kernel) ?_
  refine zr_ireturn hC hE dX9_image_63 (hr _ _ (hQ _ ?_ ?_))
  · obtain ⟨a, b, c, d, e⟩ := hMG
    refine ⟨a.ext (fun k hk => congrFun ((zput_ne _ _ (by decide)).trans ((zcpy_ne _ (by decide)).trans (zcpy_ne _ (by decide)))) k), b.fr ((zput_k _ _ (by decide)).trans ((congrFun (zcpy_ne _ (by decide)) 10).trans (congrFun (zcpy_ne _ (by decide)) 10))) ((zput_ne _ _ (by decide)).trans ((zcpy_ne _ (by decide)).trans (zcpy_ne _ (by decide)))), ⟨fun q => absurd (show true = false from q) (by decide), fun _ => ⟨a.ext (fun k hk => ?_), b.cp ((zput_at _ _ _ _).trans b.1.symm) (fun k hk => ?_)⟩⟩, d.fr ((zput_k _ _ (by decide)).trans ((congrFun (zcpy_ne _ (by decide)) 6).trans (congrFun (zcpy_ne _ (by decide)) 6))) ((zput_ne _ _ (by decide)).trans ((zcpy_ne _ (by decide)).trans (zcpy_ne _ (by decide)))), e.fr ((zput_ne _ _ (by decide)).trans ((zcpy_ne _ (by decide)).trans (zcpy_ne _ (by decide)))) ((zput_ne _ _ (by decide)).trans ((zcpy_ne _ (by decide)).trans (zcpy_ne _ (by decide)))) rfl⟩
    · rw [zput_ne _ _ (by decide), zcpy_ne _ (by decide), zcpy_to0 _ hk]
    · rw [zput_ne _ _ (by decide), zcpy_to0 _ hk, zcpy_ne _ (by decide)]
  · exact (zcpy_m (by decide)).tr ((zcpy_m (by decide)).tr (zput_m (by decide)))
set_option maxHeartbeats 4000000 in
set_option maxRecDepth 100000 in
theorem l9_restore1 {C : zCx} {τ : Nat → ClassId} {ι : Nat → Nat} (hC : zOK C τ (zrm 0 0 0) yX9_restore.cls cX9_restore 2) {S0 : zS} (k : ∀ lv, zlk 0 lv = some (.ref 245) → zR C τ ι 2 0 0 37 lv [] (zcells (zcpy S0 253 0 246 0 752))) : ∀ (d i : Nat), i + d = 752 → zR C τ ι 2 0 0 12 [(0, .ref 245), (1, .int (nI i))] [] (zcells (zcpy S0 253 0 246 0 i)) := by
  intro d
  induction d with
  | zero =>
    intro i hi
    refine zr_iload_n hC dX9_restore_12 rfl ?_
    refine zk_sipush hC dX9_restore_13 (v := nI 752) (by decide +kernel) ?_
    refine zr_icmp_ge hC dX9_restore_16 (tgt := 37) (by decide) (fun c_16 => ?_) (fun c => absurd c (not_not_intro (nI_le (by omega) (by omega))))
    obtain rfl : i = 752 := (by omega)
    exact k _ rfl
  | succ d ih =>
    intro i hi
    refine zr_iload_n hC dX9_restore_12 rfl ?_
    refine zk_sipush hC dX9_restore_13 (v := nI 752) (by decide +kernel) ?_
    refine zr_icmp_ge hC dX9_restore_16 (tgt := 37) (by decide) (fun c => absurd c (nI_ge (by omega) (by omega))) (fun c_16 => ?_)
    refine zr_aload_n hC dX9_restore_19 rfl ?_
    refine zs_getr hC dX9_restore_20 fl_X9_7 (a := 245) (r := 246) rfl (by decide) ?_
    refine zr_iload_n hC dX9_restore_23 rfl ?_
    refine zr_aload_n hC dX9_restore_24 rfl ?_
    refine zs_getr hC dX9_restore_25 fl_X9_32 (a := 245) (r := 253) rfl (by decide) ?_
    refine zr_iload_n hC dX9_restore_28 rfl ?_
    refine zv_iald hC dX9_restore_29 (a := 253) (n := 752) rfl (by decide) (by decide) (j := i) rfl (by omega) (congrFun (zcpy_ne S0 (by decide)) _) ?_
    refine zs_iast hC dX9_restore_30 (a := 246) (n := 752) rfl (by decide) (by decide) (j := i) rfl (by omega) ?_
    refine zn_iinc hC dX9_restore_31 rfl (by decide) (zk_inc _ 1) ?_
    refine zr_goto hC dX9_restore_34 (tgt := 12) (by decide) ?_
    rw [zcpy_s0 S0]
    exact zR_sub [(0, .ref 245), (1, .int (nI (i + 1)))] ⟨rfl, rfl, trivial⟩ (ih (i + 1) (by omega))
set_option maxHeartbeats 4000000 in
set_option maxRecDepth 100000 in
theorem l9_restore2 {C : zCx} {τ : Nat → ClassId} {ι : Nat → Nat} (hC : zOK C τ (zrm 0 0 0) yX9_restore.cls cX9_restore 2) {S0 : zS} (k : ∀ lv, zlk 0 lv = some (.ref 245) → zR C τ ι 2 0 0 64 lv [] (zcells (zcpy S0 254 0 252 0 4512))) : ∀ (d i : Nat), i + d = 4512 → zR C τ ι 2 0 0 39 [(0, .ref 245), (1, .int (nI i))] [] (zcells (zcpy S0 254 0 252 0 i)) := by
  intro d
  induction d with
  | zero =>
    intro i hi
    refine zr_iload_n hC dX9_restore_39 rfl ?_
    refine zk_sipush hC dX9_restore_40 (v := nI 4512) (by decide +kernel) ?_
    refine zr_icmp_ge hC dX9_restore_43 (tgt := 64) (by decide) (fun c_43 => ?_) (fun c => absurd c (not_not_intro (nI_le (by omega) (by omega))))
    obtain rfl : i = 4512 := (by omega)
    exact k _ rfl
  | succ d ih =>
    intro i hi
    refine zr_iload_n hC dX9_restore_39 rfl ?_
    refine zk_sipush hC dX9_restore_40 (v := nI 4512) (by decide +kernel) ?_
    refine zr_icmp_ge hC dX9_restore_43 (tgt := 64) (by decide) (fun c => absurd c (nI_ge (by omega) (by omega))) (fun c_43 => ?_)
    refine zr_aload_n hC dX9_restore_46 rfl ?_
    refine zs_getr hC dX9_restore_47 fl_X9_29 (a := 245) (r := 252) rfl (by decide) ?_
    refine zr_iload_n hC dX9_restore_50 rfl ?_
    refine zr_aload_n hC dX9_restore_51 rfl ?_
    refine zs_getr hC dX9_restore_52 fl_X9_35 (a := 245) (r := 254) rfl (by decide) ?_
    refine zr_iload_n hC dX9_restore_55 rfl ?_
    refine zv_iald hC dX9_restore_56 (a := 254) (n := 4512) rfl (by decide) (by decide) (j := i) rfl (by omega) (congrFun (zcpy_ne S0 (by decide)) _) ?_
    refine zs_iast hC dX9_restore_57 (a := 252) (n := 4512) rfl (by decide) (by decide) (j := i) rfl (by omega) ?_
    refine zn_iinc hC dX9_restore_58 rfl (by decide) (zk_inc _ 1) ?_
    refine zr_goto hC dX9_restore_61 (tgt := 39) (by decide) ?_
    rw [zcpy_s0 S0]
    exact zR_sub [(0, .ref 245), (1, .int (nI (i + 1)))] ⟨rfl, rfl, trivial⟩ (ih (i + 1) (by omega))
def spX9_restore : zSp := fun av S Q => ∃ (G : zG), av = [.ref 245] ∧ MG S G ∧ GI G ∧ ∀ S', MG S' (fRestore G).2 → zfm S S' → Q (some (.int (fRestore G).1)) S'
set_option maxHeartbeats 4000000 in
set_option maxRecDepth 100000 in
theorem tX9_restore : zM yX9_restore cX9_restore 2 (some .int) 0 spX9_restore := by
  refine zM.of (by decide) (by decide) (fun av S Q h => by obtain ⟨G, rfl, hMG, hGI, hQ⟩ := h; exact Nat.le_of_ble_eq_true rfl) (fun C τ ι av S Q Qr h hr hC hE => ?_)
  obtain ⟨G, rfl, hMG, hGI, hQ⟩ := h
  show zR C τ ι _ 0 0 0 [(0, .ref 245)] [] _
  by_cases him : G.2.2.1.1 = true
  · have hv : S.1 245 13 = nI G.2.2.1.2.2.2 := (hMG.2.2.1.2 him).2.1
    have h6 := (hMG.2.2.1.2 him).2.2.1
    rw [fRestore, if_pos him] at hQ
    refine zr_aload_n hC dX9_restore_0 rfl ?_
    refine zv_geti hC dX9_restore_1 fl_X9_38 (a := 245) rfl (by decide) (hv) ?_
    refine zr_if_ge hC dX9_restore_4 (tgt := 10) (by decide) (fun c_4 => ?_) (fun c => absurd c (not_not_intro (nI_pos' (by omega))))
    refine zk_iconst hC dX9_restore_10 (v := nI 0) (by decide +kernel) ?_
    refine zr_istore_n hC dX9_restore_11 (by decide) ?_
    refine zR_sub [(0, .ref 245), (1, .int (nI 0))] ⟨rfl, rfl, trivial⟩ ?_
    have q0 := l9_restore1 (S0 := S) hC (ι := ι) (fun lv h0 => ?_) 752 0 (by omega)
    · rwa [zcpy_0] at q0
    refine zR_sub [(0, .ref 245)] ⟨h0, trivial⟩ ?_
    refine zk_iconst hC dX9_restore_37 (v := nI 0) (by decide +kernel) ?_
    refine zr_istore_n hC dX9_restore_38 (by decide) ?_
    refine zR_sub [(0, .ref 245), (1, .int (nI 0))] ⟨rfl, rfl, trivial⟩ ?_
    have q0 := l9_restore2 (S0 := zcpy S 253 0 246 0 752) hC (ι := ι) (fun lv h0 => ?_) 4512 0 (by omega)
    · rwa [zcpy_0] at q0
    refine zR_sub [(0, .ref 245)] ⟨h0, trivial⟩ ?_
    refine zr_aload_n hC dX9_restore_64 rfl ?_
    refine zr_aload_n hC dX9_restore_65 rfl ?_
    refine zv_geti hC dX9_restore_66 fl_X9_38 (a := 245) rfl (by decide) (((congrFun (zcpy_ne _ (by decide)) 13).trans (congrFun (zcpy_ne _ (by decide)) 13)).trans (hMG.2.2.1.2 him).2.1) ?_
    refine zs_puti hC dX9_restore_69 fl_X9_169 fp_X9_10 (a := 245) rfl (by decide) ?_
    refine zk_iconst hC dX9_restore_72 (v := nI 1) (by decide +kernel) ?_
    refine zr_ireturn hC hE dX9_restore_73 (hr _ _ (hQ _ ?_ ?_))
    · obtain ⟨a, b, c, d, e⟩ := hMG
      obtain ⟨c1, c2⟩ := c.2 him
      refine ⟨c1.ext (fun k hk => ?_), c2.cp ((zput_at _ _ _ _).trans c2.1.symm) (fun k hk => ?_), c.fr ((zput_k _ _ (by decide)).trans ((congrFun (zcpy_ne _ (by decide)) 13).trans (congrFun (zcpy_ne _ (by decide)) 13))) ((zput_ne _ _ (by decide)).trans ((zcpy_ne _ (by decide)).trans (zcpy_ne _ (by decide)))) ((zput_ne _ _ (by decide)).trans ((zcpy_ne _ (by decide)).trans (zcpy_ne _ (by decide)))), d.fr ((zput_k _ _ (by decide)).trans ((congrFun (zcpy_ne _ (by decide)) 6).trans (congrFun (zcpy_ne _ (by decide)) 6))) ((zput_ne _ _ (by decide)).trans ((zcpy_ne _ (by decide)).trans (zcpy_ne _ (by decide)))), e.fr ((zput_ne _ _ (by decide)).trans ((zcpy_ne _ (by decide)).trans (zcpy_ne _ (by decide)))) ((zput_ne _ _ (by decide)).trans ((zcpy_ne _ (by decide)).trans (zcpy_ne _ (by decide)))) rfl⟩
      · rw [zput_ne _ _ (by decide), zcpy_ne _ (by decide), zcpy_to0 _ hk]
      · rw [zput_ne _ _ (by decide), zcpy_to0 _ hk, zcpy_ne _ (by decide)]
    · exact (zcpy_m (by decide)).tr ((zcpy_m (by decide)).tr (zput_m (by decide)))
  · have hv : S.1 245 13 = -1 := hMG.2.2.1.1 (by revert him; cases G.2.2.1.1 <;> simp)
    rw [fRestore, if_neg him] at hQ
    refine zr_aload_n hC dX9_restore_0 rfl ?_
    refine zv_geti hC dX9_restore_1 fl_X9_38 (a := 245) rfl (by decide) (hv) ?_
    refine zr_if_ge hC dX9_restore_4 (tgt := 10) (by decide) (fun c => absurd c (by decide)) (fun c_4 => ?_)
    refine zk_bipush hC dX9_restore_7 (v := (-4)) (by decide +kernel) ?_
    exact zr_ireturn hC hE dX9_restore_9 (hr _ _ (hQ _ hMG zfm.rf))
