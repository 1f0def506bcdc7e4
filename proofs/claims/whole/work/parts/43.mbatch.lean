/-! THE MODEL: a batch -/
theorem MW.cong {f : Nat → Int32} {D D' : zD} (h : MW f D) (h5 : ∀ f' m, f' < 6 → m < 16 → D' f' m = D f' m) (h6 : ∀ f', 6 ≤ f' → D' f' = D f') : MW f D' := by
  obtain ⟨⟨a, b, c, d⟩, e1, e2, e3, e4, e5, e6⟩ := h
  have g6 := h6 6 (by decide)
  have g7 := h6 7 (by decide)
  have g8 := h6 8 (by decide)
  have g9 := h6 9 (by decide)
  have g10 := h6 10 (by decide)
  have g11 := h6 11 (by decide)
  have g12 := h6 12 (by decide)
  refine ⟨⟨by rw [g6]; exact a, fun m w hm hw => by rw [b m w hm hw, h5 _ m mfld_lt hm], by rw [g6, g7, g8, g9]; exact c, by rw [g6, g10, g11, g12]; exact d⟩, ?_⟩
  unfold MB
  rw [g6, g7, g8, g10, g11, g12]
  refine ⟨e1, e2, e3, fun m hm => ?_, e5, e6⟩
  rw [h5 0 m (by decide) hm, h5 1 m (by decide) hm, h5 2 m (by decide) hm]
  exact e4 m hm
def mbi (D : zD) (i : Nat) : zD := fun f k => if f < 6 ∧ k < i then mbr D f k else D f k
theorem mbi_n {D : zD} {i f k : Nat} (h : i ≤ k) : mbi D i f k = D f k := if_neg (fun q => by omega)
theorem mbi_b {D : zD} {i f : Nat} (h : 6 ≤ f) : mbi D i f = D f := funext fun k => if_neg (fun q => by omega)
theorem mbi_0 {D : zD} {i : Nat} (h : D 1 i = 0) : ∀ f k, f < 6 → k < 16 → mbi D (i + 1) f k = dset (dset (mbi D i) 0 i ((mvD D).1 i)) 1 i 0 f k := by
  intro f k hf hk
  by_cases e : k = i
  · subst e
    have hl : mbi D (k + 1) f k = mbr D f k := if_pos ⟨hf, by omega⟩
    rw [hl]
    rcases (by omega : f = 0 ∨ f = 1 ∨ f = 2 ∨ f = 3 ∨ f = 4 ∨ f = 5) with rfl | rfl | rfl | rfl | rfl | rfl
    · rw [dset_f _ _ _ _ (by decide), dset_at]; rfl
    · rw [dset_at]; rfl
    · rw [dset_f _ _ _ _ (by decide), dset_f _ _ _ _ (by decide), mbi_n (Nat.le_refl _)]; exact if_pos h
    · rw [dset_f _ _ _ _ (by decide), dset_f _ _ _ _ (by decide), mbi_n (Nat.le_refl _)]; exact if_pos h
    · rw [dset_f _ _ _ _ (by decide), dset_f _ _ _ _ (by decide), mbi_n (Nat.le_refl _)]; exact if_neg (by omega)
    · rw [dset_f _ _ _ _ (by decide), dset_f _ _ _ _ (by decide), mbi_n (Nat.le_refl _)]; exact if_neg (by omega)
  · have h1 : dset (dset (mbi D i) 0 i ((mvD D).1 i)) 1 i 0 f k = mbi D i f k := by
      simp only [dset]
      rw [if_neg (fun q => e q.2), if_neg (fun q => e q.2)]
    rw [h1]
    unfold mbi
    by_cases q : f < 6 ∧ k < i
    · rw [if_pos q, if_pos ⟨q.1, by omega⟩]
    · rw [if_neg q, if_neg (fun z => q ⟨z.1, by omega⟩)]
theorem mbi_1 {D : zD} {i c : Nat} (h : (D 1 i = 1 ∧ c = 4) ∨ (D 1 i = 2 ∧ c = 5)) : ∀ f k, f < 6 → k < 16 → mbi D (i + 1) f k = dset (dset (dset (dset (dset (mbi D i) 0 i ((mvD D).1 i)) 2 i 0) 3 i (D 6 1)) c i (D 6 2 + 1)) 1 i 0 f k := by
  intro f k hf hk
  by_cases e : k = i
  · subst e
    have hl : mbi D (k + 1) f k = mbr D f k := if_pos ⟨hf, by omega⟩
    rw [hl]
    rcases h with ⟨h, rfl⟩ | ⟨h, rfl⟩
    all_goals rcases (by omega : f = 0 ∨ f = 1 ∨ f = 2 ∨ f = 3 ∨ f = 4 ∨ f = 5) with rfl | rfl | rfl | rfl | rfl | rfl
    all_goals simp [mbr, dset, h, mbi]
  · have h1 : dset (dset (dset (dset (dset (mbi D i) 0 i ((mvD D).1 i)) 2 i 0) 3 i (D 6 1)) c i (D 6 2 + 1)) 1 i 0 f k = mbi D i f k := by
      simp only [dset]
      rw [if_neg (fun q => e q.2), if_neg (fun q => e q.2), if_neg (fun q => e q.2), if_neg (fun q => e q.2), if_neg (fun q => e q.2)]
    rw [h1]
    unfold mbi
    by_cases q : f < 6 ∧ k < i
    · rw [if_pos q, if_pos ⟨q.1, by omega⟩]
    · rw [if_neg q, if_neg (fun z => q ⟨z.1, by omega⟩)]
theorem mbi_16 {D : zD} {f : Nat → Int32} (h : MW f (mbi D 16)) : MW f (mbr D) := h.cong (fun f' m hf hm => (if_pos ⟨hf, hm⟩).symm) (fun f' hf => by
  rw [mbi_b hf]
  rcases (by omega : f' = 6 ∨ 7 ≤ f') with rfl | h7
  · rfl
  · funext k
    unfold mbr
    split <;> first | omega | rfl)
theorem mbi_00 {D : zD} {f : Nat → Int32} (h : MW f D) : MW f (mbi D 0) := h.cong (fun f' m hf hm => mbi_n (Nat.zero_le _)) (fun f' hf => mbi_b hf)
theorem kadd_h9 {R : zD} {v x : Nat} : dset (kadd R v 0) 9 (R 6 0) x = kadd R v x := by
  funext f k
  by_cases e : f = 9 ∧ k = R 6 0
  · obtain ⟨rfl, rfl⟩ := e
    rw [dset_at, kadd_9n]
  · simp only [dset, if_neg e]
    by_cases h9 : f = 9
    · subst h9
      have hk : k ≠ R 6 0 := fun q => e ⟨rfl, q⟩
      rw [kadd_9 hk, kadd_9 hk]
    · exact congrFun (kadd_cong (fun _ _ => rfl) f h9) k
set_option maxHeartbeats 4000000 in
set_option maxRecDepth 100000 in
theorem l9_bmem {C : zCx} {τ : Nat → ClassId} {ι : Nat → Nat} (hC : zOK C τ (zrm 4 0 0) yX9_batches.cls cX9_batches 6) {S0 : zS} {D : zD} (hS : SE S0 (mvD D).1) (hlf : ∀ m, m < 16 → (mvD D).1 m < 32) (k : ∀ S' lv, MW (S'.1 246) (mbr D) → zfrm 246 247 S0 S' → zsub lv [(0, .ref 245), (3, .int (nI (D 6 1)))] → zR C τ ι 6 0 0 125 lv [] (zcells S')) : ∀ (d i : Nat) (S : zS), i + d = 16 → MW (S.1 246) (mbi D i) → zfrm 246 247 S0 S → zR C τ ι 6 0 0 34 [(0, .ref 245), (3, .int (nI (D 6 1))), (4, .int (nI i))] [] (zcells S) := by
  intro d
  induction d with
  | zero =>
    intro i S hi hM hF
    refine zr_iload hC dX9_batches_34 rfl ?_
    refine zk_bipush hC dX9_batches_36 (v := nI 16) (by decide +kernel) ?_
    refine zr_icmp_ge hC dX9_batches_38 (tgt := 125) (by decide) (fun c_38 => ?_) (fun c => absurd c (not_not_intro (nI_le (by omega) (by omega))))
    obtain rfl : i = 16 := (by omega)
    exact k S _ (mbi_16 hM) hF ⟨rfl, rfl, trivial⟩
  | succ d ih =>
    intro i S hi hM hF
    refine zr_iload hC dX9_batches_34 rfl ?_
    refine zk_bipush hC dX9_batches_36 (v := nI 16) (by decide +kernel) ?_
    refine zr_icmp_ge hC dX9_batches_38 (tgt := 125) (by decide) (fun c => absurd c (nI_ge (by omega) (by omega))) (fun c_38 => ?_)
    rcases (by have := hM.lt1 (show i < 16 by omega); rw [mbi_n (Nat.le_refl _)] at this; omega : D 1 i = 0 ∨ D 1 i = 1 ∨ D 1 i = 2) with h1 | h1 | h1
    · refine zr_aload_n hC dX9_batches_41 rfl ?_
      refine zr_iload hC dX9_batches_42 rfl ?_
      refine zk_iconst hC dX9_batches_44 (v := nI 0) (by decide +kernel) ?_
      refine zr_aload_n hC dX9_batches_45 rfl ?_
      refine zs_getr hC dX9_batches_46 fl_X9_13 (a := 245) (r := 247) rfl (by decide) ?_
      refine zr_iload hC dX9_batches_49 rfl ?_
      refine zv_iald hC dX9_batches_51 (a := 247) (n := 16) rfl (by decide) (by decide) (j := i) rfl (by omega) ((congrFun (hF.1 247 (by decide)) i).trans (hS i (by omega))) ?_
      refine zs_callV hC (b := 245) [_, _, _] [] dX9_batches_52 ml_X9_104 mtX9_put tX9_put (by decide) (by decide) (by decide) rfl rfl (by decide) (by decide +kernel) (Nat.le_of_ble_eq_true rfl) rfl ?_
      refine ⟨i, 0, _, rfl, by omega, by decide, ?_⟩
      have h2 : MW ((zput S 246 (4 + 6 * i + 0) (nI ((mvD D).1 i))).1 246) (dset (mbi D i) 0 i ((mvD D).1 i)) := by rw [zput_arr]; exact hM.put (w := 0) (show i < 16 by omega) (by decide) ⟨fun _ => hlf i (by omega), fun q => absurd q (by decide), fun q => absurd q (by decide)⟩
      generalize hS1 : zput S 246 (4 + 6 * i + 0) (nI ((mvD D).1 i)) = S1 at *
      dsimp only [Option.toList, List.nil_append]
      refine zr_aload_n hC dX9_batches_55 rfl ?_
      refine zr_iload hC dX9_batches_56 rfl ?_
      refine zk_iconst hC dX9_batches_58 (v := nI 3) (by decide +kernel) ?_
      refine zs_callV hC (b := 245) [_, _] [] dX9_batches_59 ml_X9_64 mtX9_of tX9_of (by decide) (by decide) (by decide) rfl rfl (by decide) (by decide +kernel) (Nat.le_of_ble_eq_true rfl) rfl ?_
      refine ⟨i, 3, rfl, by omega, by decide, ?_⟩
      rw [show S1.1 246 (4 + 6 * i + 3) = nI 0 by have q := h2.mem (w := 3) (show i < 16 by omega) (by decide); rw [show mfld 3 = 1 from rfl, dset_f _ _ _ _ (by decide), mbi_n (Nat.le_refl _), h1] at q; exact q]
      dsimp only [Option.toList, List.cons_append, List.nil_append]
      refine zr_if_le hC dX9_batches_62 (tgt := 111) (by decide) (fun c_62 => ?_) (fun c => absurd c (by decide +kernel))
      refine zr_aload_n hC dX9_batches_111 rfl ?_
      refine zr_iload hC dX9_batches_112 rfl ?_
      refine zk_iconst hC dX9_batches_114 (v := nI 3) (by decide +kernel) ?_
      refine zk_iconst hC dX9_batches_115 (v := nI 0) (by decide +kernel) ?_
      refine zs_callV hC (b := 245) [_, _, _] [] dX9_batches_116 ml_X9_104 mtX9_put tX9_put (by decide) (by decide) (by decide) rfl rfl (by decide) (by decide +kernel) (Nat.le_of_ble_eq_true rfl) rfl ?_
      refine ⟨i, 3, _, rfl, by omega, by decide, ?_⟩
      have h5 : MW ((zput S1 246 (4 + 6 * i + 3) (nI 0)).1 246) (dset (dset (mbi D i) 0 i ((mvD D).1 i)) 1 i 0) := by rw [zput_arr]; exact h2.put (w := 3) (show i < 16 by omega) (by decide) ⟨fun q => absurd q (by decide), fun _ => by decide, fun q => absurd q (by decide)⟩
      subst hS1
      dsimp only [Option.toList, List.nil_append]
      refine zn_iinc hC dX9_batches_119 rfl (by decide) (zk_inc _ 1) ?_
      refine zr_goto hC dX9_batches_122 (tgt := 34) (by decide) ?_
      exact zR_sub [(0, .ref 245), (3, .int (nI (D 6 1))), (4, .int (nI (i + 1)))] ⟨rfl, rfl, rfl, trivial⟩ (ih (i + 1) _ (by omega) (h5.cong (mbi_0 h1) (fun f hf => by rw [mbi_b hf, dset_ff _ _ _ (show f ≠ 1 by omega), dset_ff _ _ _ (show f ≠ 0 by omega), mbi_b hf])) ((hF.put (by decide) (by decide)).put (by decide) (by decide)))
    · refine zr_aload_n hC dX9_batches_41 rfl ?_
      refine zr_iload hC dX9_batches_42 rfl ?_
      refine zk_iconst hC dX9_batches_44 (v := nI 0) (by decide +kernel) ?_
      refine zr_aload_n hC dX9_batches_45 rfl ?_
      refine zs_getr hC dX9_batches_46 fl_X9_13 (a := 245) (r := 247) rfl (by decide) ?_
      refine zr_iload hC dX9_batches_49 rfl ?_
      refine zv_iald hC dX9_batches_51 (a := 247) (n := 16) rfl (by decide) (by decide) (j := i) rfl (by omega) ((congrFun (hF.1 247 (by decide)) i).trans (hS i (by omega))) ?_
      refine zs_callV hC (b := 245) [_, _, _] [] dX9_batches_52 ml_X9_104 mtX9_put tX9_put (by decide) (by decide) (by decide) rfl rfl (by decide) (by decide +kernel) (Nat.le_of_ble_eq_true rfl) rfl ?_
      refine ⟨i, 0, _, rfl, by omega, by decide, ?_⟩
      have h2 : MW ((zput S 246 (4 + 6 * i + 0) (nI ((mvD D).1 i))).1 246) (dset (mbi D i) 0 i ((mvD D).1 i)) := by rw [zput_arr]; exact hM.put (w := 0) (show i < 16 by omega) (by decide) ⟨fun _ => hlf i (by omega), fun q => absurd q (by decide), fun q => absurd q (by decide)⟩
      generalize hS1 : zput S 246 (4 + 6 * i + 0) (nI ((mvD D).1 i)) = S1 at *
      dsimp only [Option.toList, List.nil_append]
      refine zr_aload_n hC dX9_batches_55 rfl ?_
      refine zr_iload hC dX9_batches_56 rfl ?_
      refine zk_iconst hC dX9_batches_58 (v := nI 3) (by decide +kernel) ?_
      refine zs_callV hC (b := 245) [_, _] [] dX9_batches_59 ml_X9_64 mtX9_of tX9_of (by decide) (by decide) (by decide) rfl rfl (by decide) (by decide +kernel) (Nat.le_of_ble_eq_true rfl) rfl ?_
      refine ⟨i, 3, rfl, by omega, by decide, ?_⟩
      rw [show S1.1 246 (4 + 6 * i + 3) = nI 1 by have q := h2.mem (w := 3) (show i < 16 by omega) (by decide); rw [show mfld 3 = 1 from rfl, dset_f _ _ _ _ (by decide), mbi_n (Nat.le_refl _), h1] at q; exact q]
      dsimp only [Option.toList, List.cons_append, List.nil_append]
      refine zr_if_le hC dX9_batches_62 (tgt := 111) (by decide) (fun c => absurd c (by decide +kernel)) (fun c_62 => ?_)
      refine zr_aload_n hC dX9_batches_65 rfl ?_
      refine zr_iload hC dX9_batches_66 rfl ?_
      refine zk_iconst hC dX9_batches_68 (v := nI 1) (by decide +kernel) ?_
      refine zk_iconst hC dX9_batches_69 (v := nI 0) (by decide +kernel) ?_
      refine zs_callV hC (b := 245) [_, _, _] [] dX9_batches_70 ml_X9_104 mtX9_put tX9_put (by decide) (by decide) (by decide) rfl rfl (by decide) (by decide +kernel) (Nat.le_of_ble_eq_true rfl) rfl ?_
      refine ⟨i, 1, _, rfl, by omega, by decide, ?_⟩
      have h3 : MW ((zput S1 246 (4 + 6 * i + 1) (nI 0)).1 246) (dset (dset (mbi D i) 0 i ((mvD D).1 i)) 2 i 0) := by rw [zput_arr]; exact h2.put (w := 1) (show i < 16 by omega) (by decide) ⟨fun q => absurd q (by decide), fun q => absurd q (by decide), fun _ => by decide⟩
      dsimp only [Option.toList, List.nil_append]
      refine zr_aload_n hC dX9_batches_73 rfl ?_
      refine zr_iload hC dX9_batches_74 rfl ?_
      refine zk_iconst hC dX9_batches_76 (v := nI 2) (by decide +kernel) ?_
      refine zr_iload_n hC dX9_batches_77 rfl ?_
      refine zs_callV hC (b := 245) [_, _, _] [] dX9_batches_78 ml_X9_104 mtX9_put tX9_put (by decide) (by decide) (by decide) rfl rfl (by decide) (by decide +kernel) (Nat.le_of_ble_eq_true rfl) rfl ?_
      refine ⟨i, 2, _, rfl, by omega, by decide, ?_⟩
      have h4 : MW ((zput (zput S1 246 (4 + 6 * i + 1) (nI 0)) 246 (4 + 6 * i + 2) (nI (D 6 1))).1 246) (dset (dset (dset (mbi D i) 0 i ((mvD D).1 i)) 2 i 0) 3 i (D 6 1)) := by rw [zput_arr]; exact h3.put (w := 2) (show i < 16 by omega) (by decide) ⟨fun q => absurd q (by decide), fun q => absurd q (by decide), fun q => absurd q (by decide)⟩
      generalize hS3 : zput (zput S1 246 (4 + 6 * i + 1) (nI 0)) 246 (4 + 6 * i + 2) (nI (D 6 1)) = S3 at *
      dsimp only [Option.toList, List.nil_append]
      refine zr_aload_n hC dX9_batches_81 rfl ?_
      refine zr_iload hC dX9_batches_82 rfl ?_
      refine zr_aload_n hC dX9_batches_84 rfl ?_
      refine zr_iload hC dX9_batches_85 rfl ?_
      refine zk_iconst hC dX9_batches_87 (v := nI 3) (by decide +kernel) ?_
      refine zs_callV hC (b := 245) [_, _] [_, _] dX9_batches_88 ml_X9_64 mtX9_of tX9_of (by decide) (by decide) (by decide) rfl rfl (by decide) (by decide +kernel) (Nat.le_of_ble_eq_true rfl) rfl ?_
      refine ⟨i, 3, rfl, by omega, by decide, ?_⟩
      rw [show S3.1 246 (4 + 6 * i + 3) = nI 1 by have q := h4.mem (w := 3) (show i < 16 by omega) (by decide); rw [show mfld 3 = 1 from rfl, dset_f _ _ _ _ (by decide), dset_f _ _ _ _ (by decide), dset_f _ _ _ _ (by decide), mbi_n (Nat.le_refl _), h1] at q; exact q]
      dsimp only [Option.toList, List.cons_append, List.nil_append]
      refine zk_iconst hC dX9_batches_91 (v := nI 1) (by decide +kernel) ?_
      refine zr_icmp_ne hC dX9_batches_92 (tgt := 99) (by decide) (fun c => absurd c (by decide +kernel)) (fun c_92 => ?_)
      refine zk_iconst hC dX9_batches_95 (v := nI 4) (by decide +kernel) ?_
      refine zr_goto hC dX9_batches_96 (tgt := 100) (by decide) ?_
      refine zr_aload_n hC dX9_batches_100 rfl ?_
      refine zs_getr hC dX9_batches_101 fl_X9_7 (a := 245) (r := 246) rfl (by decide) ?_
      refine zk_iconst hC dX9_batches_104 (v := nI 2) (by decide +kernel) ?_
      refine zv_iald hC dX9_batches_105 (a := 246) (n := 752) rfl (by decide) (by decide) (j := 2) rfl (by decide) (h4.1.1.2.2.1.trans (by rw [dset_f _ _ _ _ (by decide), dset_f _ _ _ _ (by decide), dset_f _ _ _ _ (by decide), mbi_b (by decide)])) ?_
      refine zk_iconst hC dX9_batches_106 (v := nI 1) (by decide +kernel) ?_
      refine zn_iadd hC dX9_batches_107 (nI_add _ _) ?_
      refine zs_callV hC (b := 245) [_, _, _] [] dX9_batches_108 ml_X9_104 mtX9_put tX9_put (by decide) (by decide) (by decide) rfl rfl (by decide) (by decide +kernel) (Nat.le_of_ble_eq_true rfl) rfl ?_
      refine ⟨i, 4, _, rfl, by omega, by decide, ?_⟩
      have h4b : MW ((zput S3 246 (4 + 6 * i + 4) (nI (D 6 2 + 1))).1 246) (dset (dset (dset (dset (mbi D i) 0 i ((mvD D).1 i)) 2 i 0) 3 i (D 6 1)) 4 i (D 6 2 + 1)) := by rw [zput_arr]; exact h4.put (w := 4) (show i < 16 by omega) (by decide) ⟨fun q => absurd q (by decide), fun q => absurd q (by decide), fun q => absurd q (by decide)⟩
      dsimp only [Option.toList, List.nil_append]
      refine zr_aload_n hC dX9_batches_111 rfl ?_
      refine zr_iload hC dX9_batches_112 rfl ?_
      refine zk_iconst hC dX9_batches_114 (v := nI 3) (by decide +kernel) ?_
      refine zk_iconst hC dX9_batches_115 (v := nI 0) (by decide +kernel) ?_
      refine zs_callV hC (b := 245) [_, _, _] [] dX9_batches_116 ml_X9_104 mtX9_put tX9_put (by decide) (by decide) (by decide) rfl rfl (by decide) (by decide +kernel) (Nat.le_of_ble_eq_true rfl) rfl ?_
      refine ⟨i, 3, _, rfl, by omega, by decide, ?_⟩
      have h5 : MW ((zput (zput S3 246 (4 + 6 * i + 4) (nI (D 6 2 + 1))) 246 (4 + 6 * i + 3) (nI 0)).1 246) (dset (dset (dset (dset (dset (mbi D i) 0 i ((mvD D).1 i)) 2 i 0) 3 i (D 6 1)) 4 i (D 6 2 + 1)) 1 i 0) := by rw [zput_arr]; exact h4b.put (w := 3) (show i < 16 by omega) (by decide) ⟨fun q => absurd q (by decide), fun _ => by decide, fun q => absurd q (by decide)⟩
      subst hS3
      subst hS1
      dsimp only [Option.toList, List.nil_append]
      refine zn_iinc hC dX9_batches_119 rfl (by decide) (zk_inc _ 1) ?_
      refine zr_goto hC dX9_batches_122 (tgt := 34) (by decide) ?_
      exact zR_sub [(0, .ref 245), (3, .int (nI (D 6 1))), (4, .int (nI (i + 1)))] ⟨rfl, rfl, rfl, trivial⟩ (ih (i + 1) _ (by omega) (h5.cong (mbi_1 (Or.inl ⟨h1, rfl⟩)) (fun f hf => by rw [mbi_b hf, dset_ff _ _ _ (show f ≠ 1 by omega), dset_ff _ _ _ (show f ≠ 4 by omega), dset_ff _ _ _ (show f ≠ 3 by omega), dset_ff _ _ _ (show f ≠ 2 by omega), dset_ff _ _ _ (show f ≠ 0 by omega), mbi_b hf])) (((((hF.put (by decide) (by decide)).put (by decide) (by decide)).put (by decide) (by decide)).put (by decide) (by decide)).put (by decide) (by decide)))
    · refine zr_aload_n hC dX9_batches_41 rfl ?_
      refine zr_iload hC dX9_batches_42 rfl ?_
      refine zk_iconst hC dX9_batches_44 (v := nI 0) (by decide +kernel) ?_
      refine zr_aload_n hC dX9_batches_45 rfl ?_
      refine zs_getr hC dX9_batches_46 fl_X9_13 (a := 245) (r := 247) rfl (by decide) ?_
      refine zr_iload hC dX9_batches_49 rfl ?_
      refine zv_iald hC dX9_batches_51 (a := 247) (n := 16) rfl (by decide) (by decide) (j := i) rfl (by omega) ((congrFun (hF.1 247 (by decide)) i).trans (hS i (by omega))) ?_
      refine zs_callV hC (b := 245) [_, _, _] [] dX9_batches_52 ml_X9_104 mtX9_put tX9_put (by decide) (by decide) (by decide) rfl rfl (by decide) (by decide +kernel) (Nat.le_of_ble_eq_true rfl) rfl ?_
      refine ⟨i, 0, _, rfl, by omega, by decide, ?_⟩
      have h2 : MW ((zput S 246 (4 + 6 * i + 0) (nI ((mvD D).1 i))).1 246) (dset (mbi D i) 0 i ((mvD D).1 i)) := by rw [zput_arr]; exact hM.put (w := 0) (show i < 16 by omega) (by decide) ⟨fun _ => hlf i (by omega), fun q => absurd q (by decide), fun q => absurd q (by decide)⟩
      generalize hS1 : zput S 246 (4 + 6 * i + 0) (nI ((mvD D).1 i)) = S1 at *
      dsimp only [Option.toList, List.nil_append]
      refine zr_aload_n hC dX9_batches_55 rfl ?_
      refine zr_iload hC dX9_batches_56 rfl ?_
      refine zk_iconst hC dX9_batches_58 (v := nI 3) (by decide +kernel) ?_
      refine zs_callV hC (b := 245) [_, _] [] dX9_batches_59 ml_X9_64 mtX9_of tX9_of (by decide) (by decide) (by decide) rfl rfl (by decide) (by decide +kernel) (Nat.le_of_ble_eq_true rfl) rfl ?_
      refine ⟨i, 3, rfl, by omega, by decide, ?_⟩
      rw [show S1.1 246 (4 + 6 * i + 3) = nI 2 by have q := h2.mem (w := 3) (show i < 16 by omega) (by decide); rw [show mfld 3 = 1 from rfl, dset_f _ _ _ _ (by decide), mbi_n (Nat.le_refl _), h1] at q; exact q]
      dsimp only [Option.toList, List.cons_append, List.nil_append]
      refine zr_if_le hC dX9_batches_62 (tgt := 111) (by decide) (fun c => absurd c (by decide +kernel)) (fun c_62 => ?_)
      refine zr_aload_n hC dX9_batches_65 rfl ?_
      refine zr_iload hC dX9_batches_66 rfl ?_
      refine zk_iconst hC dX9_batches_68 (v := nI 1) (by decide +kernel) ?_
      refine zk_iconst hC dX9_batches_69 (v := nI 0) (by decide +kernel) ?_
      refine zs_callV hC (b := 245) [_, _, _] [] dX9_batches_70 ml_X9_104 mtX9_put tX9_put (by decide) (by decide) (by decide) rfl rfl (by decide) (by decide +kernel) (Nat.le_of_ble_eq_true rfl) rfl ?_
      refine ⟨i, 1, _, rfl, by omega, by decide, ?_⟩
      have h3 : MW ((zput S1 246 (4 + 6 * i + 1) (nI 0)).1 246) (dset (dset (mbi D i) 0 i ((mvD D).1 i)) 2 i 0) := by rw [zput_arr]; exact h2.put (w := 1) (show i < 16 by omega) (by decide) ⟨fun q => absurd q (by decide), fun q => absurd q (by decide), fun _ => by decide⟩
      dsimp only [Option.toList, List.nil_append]
      refine zr_aload_n hC dX9_batches_73 rfl ?_
      refine zr_iload hC dX9_batches_74 rfl ?_
      refine zk_iconst hC dX9_batches_76 (v := nI 2) (by decide +kernel) ?_
      refine zr_iload_n hC dX9_batches_77 rfl ?_
      refine zs_callV hC (b := 245) [_, _, _] [] dX9_batches_78 ml_X9_104 mtX9_put tX9_put (by decide) (by decide) (by decide) rfl rfl (by decide) (by decide +kernel) (Nat.le_of_ble_eq_true rfl) rfl ?_
      refine ⟨i, 2, _, rfl, by omega, by decide, ?_⟩
      have h4 : MW ((zput (zput S1 246 (4 + 6 * i + 1) (nI 0)) 246 (4 + 6 * i + 2) (nI (D 6 1))).1 246) (dset (dset (dset (mbi D i) 0 i ((mvD D).1 i)) 2 i 0) 3 i (D 6 1)) := by rw [zput_arr]; exact h3.put (w := 2) (show i < 16 by omega) (by decide) ⟨fun q => absurd q (by decide), fun q => absurd q (by decide), fun q => absurd q (by decide)⟩
      generalize hS3 : zput (zput S1 246 (4 + 6 * i + 1) (nI 0)) 246 (4 + 6 * i + 2) (nI (D 6 1)) = S3 at *
      dsimp only [Option.toList, List.nil_append]
      refine zr_aload_n hC dX9_batches_81 rfl ?_
      refine zr_iload hC dX9_batches_82 rfl ?_
      refine zr_aload_n hC dX9_batches_84 rfl ?_
      refine zr_iload hC dX9_batches_85 rfl ?_
      refine zk_iconst hC dX9_batches_87 (v := nI 3) (by decide +kernel) ?_
      refine zs_callV hC (b := 245) [_, _] [_, _] dX9_batches_88 ml_X9_64 mtX9_of tX9_of (by decide) (by decide) (by decide) rfl rfl (by decide) (by decide +kernel) (Nat.le_of_ble_eq_true rfl) rfl ?_
      refine ⟨i, 3, rfl, by omega, by decide, ?_⟩
      rw [show S3.1 246 (4 + 6 * i + 3) = nI 2 by have q := h4.mem (w := 3) (show i < 16 by omega) (by decide); rw [show mfld 3 = 1 from rfl, dset_f _ _ _ _ (by decide), dset_f _ _ _ _ (by decide), dset_f _ _ _ _ (by decide), mbi_n (Nat.le_refl _), h1] at q; exact q]
      dsimp only [Option.toList, List.cons_append, List.nil_append]
      refine zk_iconst hC dX9_batches_91 (v := nI 1) (by decide +kernel) ?_
      refine zr_icmp_ne hC dX9_batches_92 (tgt := 99) (by decide) (fun c_92 => ?_) (fun c => absurd c (by decide +kernel))
      refine zk_iconst hC dX9_batches_99 (v := nI 5) (by decide +kernel) ?_
      refine zr_aload_n hC dX9_batches_100 rfl ?_
      refine zs_getr hC dX9_batches_101 fl_X9_7 (a := 245) (r := 246) rfl (by decide) ?_
      refine zk_iconst hC dX9_batches_104 (v := nI 2) (by decide +kernel) ?_
      refine zv_iald hC dX9_batches_105 (a := 246) (n := 752) rfl (by decide) (by decide) (j := 2) rfl (by decide) (h4.1.1.2.2.1.trans (by rw [dset_f _ _ _ _ (by decide), dset_f _ _ _ _ (by decide), dset_f _ _ _ _ (by decide), mbi_b (by decide)])) ?_
      refine zk_iconst hC dX9_batches_106 (v := nI 1) (by decide +kernel) ?_
      refine zn_iadd hC dX9_batches_107 (nI_add _ _) ?_
      refine zs_callV hC (b := 245) [_, _, _] [] dX9_batches_108 ml_X9_104 mtX9_put tX9_put (by decide) (by decide) (by decide) rfl rfl (by decide) (by decide +kernel) (Nat.le_of_ble_eq_true rfl) rfl ?_
      refine ⟨i, 5, _, rfl, by omega, by decide, ?_⟩
      have h4b : MW ((zput S3 246 (4 + 6 * i + 5) (nI (D 6 2 + 1))).1 246) (dset (dset (dset (dset (mbi D i) 0 i ((mvD D).1 i)) 2 i 0) 3 i (D 6 1)) 5 i (D 6 2 + 1)) := by rw [zput_arr]; exact h4.put (w := 5) (show i < 16 by omega) (by decide) ⟨fun q => absurd q (by decide), fun q => absurd q (by decide), fun q => absurd q (by decide)⟩
      dsimp only [Option.toList, List.nil_append]
      refine zr_aload_n hC dX9_batches_111 rfl ?_
      refine zr_iload hC dX9_batches_112 rfl ?_
      refine zk_iconst hC dX9_batches_114 (v := nI 3) (by decide +kernel) ?_
      refine zk_iconst hC dX9_batches_115 (v := nI 0) (by decide +kernel) ?_
      refine zs_callV hC (b := 245) [_, _, _] [] dX9_batches_116 ml_X9_104 mtX9_put tX9_put (by decide) (by decide) (by decide) rfl rfl (by decide) (by decide +kernel) (Nat.le_of_ble_eq_true rfl) rfl ?_
      refine ⟨i, 3, _, rfl, by omega, by decide, ?_⟩
      have h5 : MW ((zput (zput S3 246 (4 + 6 * i + 5) (nI (D 6 2 + 1))) 246 (4 + 6 * i + 3) (nI 0)).1 246) (dset (dset (dset (dset (dset (mbi D i) 0 i ((mvD D).1 i)) 2 i 0) 3 i (D 6 1)) 5 i (D 6 2 + 1)) 1 i 0) := by rw [zput_arr]; exact h4b.put (w := 3) (show i < 16 by omega) (by decide) ⟨fun q => absurd q (by decide), fun _ => by decide, fun q => absurd q (by decide)⟩
      subst hS3
      subst hS1
      dsimp only [Option.toList, List.nil_append]
      refine zn_iinc hC dX9_batches_119 rfl (by decide) (zk_inc _ 1) ?_
      refine zr_goto hC dX9_batches_122 (tgt := 34) (by decide) ?_
      exact zR_sub [(0, .ref 245), (3, .int (nI (D 6 1))), (4, .int (nI (i + 1)))] ⟨rfl, rfl, rfl, trivial⟩ (ih (i + 1) _ (by omega) (h5.cong (mbi_1 (Or.inr ⟨h1, rfl⟩)) (fun f hf => by rw [mbi_b hf, dset_ff _ _ _ (show f ≠ 1 by omega), dset_ff _ _ _ (show f ≠ 5 by omega), dset_ff _ _ _ (show f ≠ 3 by omega), dset_ff _ _ _ (show f ≠ 2 by omega), dset_ff _ _ _ (show f ≠ 0 by omega), mbi_b hf])) (((((hF.put (by decide) (by decide)).put (by decide) (by decide)).put (by decide) (by decide)).put (by decide) (by decide)).put (by decide) (by decide)))
set_option maxHeartbeats 4000000 in
set_option maxRecDepth 100000 in
theorem l9_bkeys {C : zCx} {τ : Nat → ClassId} {ι : Nat → Nat} (hC : zOK C τ (zrm 4 0 0) yX9_batches.cls cX9_batches 6) {S0 : zS} {D : zD} {lf : Nat → Nat} {ch w0 : Nat} (hc : CH S0 (fun v => ch.testBit v)) (h200 : D 6 0 < 200) (hb : D 6 2 < 5000) (hlf0 : D 0 = lf) (k : ∀ S' lv, MW (S'.1 246) (rnh (hlf lf) lf ch D 31) → zfrm 246 247 S0 S' → zsub lv [(0, .ref 245), (3, .int (nI w0))] → zR C τ ι 6 0 0 195 lv [] (zcells S')) : ∀ (d t : Nat) (S : zS), t + d = 31 → MW (S.1 246) (rnh (hlf lf) lf ch D t) → zfrm 246 247 S0 S → zR C τ ι 6 0 0 129 [(0, .ref 245), (3, .int (nI w0)), (4, .int (nI (31 - t)))] [] (zcells S) := by
  intro d
  induction d with
  | zero =>
    intro t S ht hM hF
    refine zr_iload hC dX9_batches_129 rfl ?_
    refine zr_if_le hC dX9_batches_131 (tgt := 195) (by decide) (fun c_131 => ?_) (fun c => absurd c (not_not_intro (nI_le (b := 0) (by omega) (by decide))))
    obtain rfl : t = 31 := (by omega)
    exact k S _ hM hF ⟨rfl, rfl, trivial⟩
  | succ d ih =>
    intro t S ht hM hF
    have hI := (rnh_I (h := hlf lf) (lf := lf) (ch := ch) (D := D) t (by omega)).1.2
    have hlt230 : (rnh (hlf lf) lf ch D t) 6 0 < 230 := by omega
    have h62 : (rnh (hlf lf) lf ch D t) 6 2 < 5000 := by rw [rnh_6 (by decide)]; exact hb
    have hR0 : (rnh (hlf lf) lf ch D t) 0 = lf := by rw [rnh_f (by decide) (by decide) (by decide) (by decide)]; exact hlf0
    refine zr_iload hC dX9_batches_129 rfl ?_
    refine zr_if_le hC dX9_batches_131 (tgt := 195) (by decide) (fun c => absurd c (nI_nle (by omega) (by omega))) (fun c_131 => ?_)
    refine zr_aload_n hC dX9_batches_134 rfl ?_
    refine zs_getr hC dX9_batches_135 fl_X9_16 (a := 245) (r := 248) rfl (by decide) ?_
    refine zr_iload hC dX9_batches_138 rfl ?_
    refine zv_zald hC dX9_batches_140 (a := 248) (n := 32) rfl (by decide) (by decide) (j := 31 - t) rfl (by omega) ((congrFun (hF.1 248 (by decide)) _).trans (hc (31 - t) (by omega))) ?_
    refine zr_if_eq hC dX9_batches_141 (tgt := 189) (by decide) (fun c_141 => ?_) (fun c_141 => ?_)
    · have hs : (rnh (hlf lf) lf ch D (t + 1)) = (rnh (hlf lf) lf ch D t) := if_neg (fun q => by rw [show ch.testBit (31 - t) = false from (zb_eq0 _).mp c_141] at q; exact absurd q.2 (by decide))
      refine zn_iinc hC dX9_batches_189 rfl (by decide) (zk_dec (by omega)) ?_
      refine zr_goto hC dX9_batches_192 (tgt := 129) (by decide) ?_
      exact zR_sub [(0, .ref 245), (3, .int (nI w0)), (4, .int (nI (31 - (t + 1))))] ⟨rfl, rfl, zlk_eq rfl (by omega), trivial⟩ (ih (t + 1) S (by omega) (by rw [hs]; exact hM) hF)
    · have hcb : ch.testBit (31 - t) = true := (zb_ne0 _).mp c_141
      refine zr_aload_n hC dX9_batches_144 rfl ?_
      refine zr_iload hC dX9_batches_145 rfl ?_
      refine zs_callV hC (b := 245) [_] [] dX9_batches_147 ml_X9_84 mtX9_beneath tX9_beneath (by decide) (by decide) (by decide) rfl rfl (by decide) (by decide +kernel) (Nat.le_of_ble_eq_true rfl) rfl ?_
      refine ⟨31 - t, _, rfl, by omega, hM, ?_⟩
      rw [hR0]
      dsimp only [Option.toList, List.cons_append, List.nil_append]
      refine zr_if_eq hC dX9_batches_150 (tgt := 189) (by decide) (fun c_150 => ?_) (fun c_150 => ?_)
      · have hsm : sm lf (31 - t) = 0 := (z_ne0 (Nat.lt_trans (sm_lt _ _) (by decide))).mp c_150
        have hs : (rnh (hlf lf) lf ch D (t + 1)) = (rnh (hlf lf) lf ch D t) := if_neg (fun q => q.1 hsm)
        refine zn_iinc hC dX9_batches_189 rfl (by decide) (zk_dec (by omega)) ?_
        refine zr_goto hC dX9_batches_192 (tgt := 129) (by decide) ?_
        exact zR_sub [(0, .ref 245), (3, .int (nI w0)), (4, .int (nI (31 - (t + 1))))] ⟨rfl, rfl, zlk_eq rfl (by omega), trivial⟩ (ih (t + 1) S (by omega) (by rw [hs]; exact hM) hF)
      · have hsm : sm lf (31 - t) ≠ 0 := fun q => c_150 (by rw [q]; rfl)
        refine zr_aload_n hC dX9_batches_153 rfl ?_
        refine zr_iload hC dX9_batches_154 rfl ?_
        refine zs_callV hC (b := 245) [_] [] dX9_batches_156 ml_X9_137 mtX9_makes tX9_makes (by decide) (by decide) (by decide) rfl rfl (by decide) (by decide +kernel) (Nat.le_of_ble_eq_true rfl) rfl ?_
        refine ⟨31 - t, _, rfl, by omega, hM, hlt230, h62, fun S1 g1 g2 => ?_⟩
        dsimp only [Option.toList, List.cons_append, List.nil_append]
        refine zr_istore hC dX9_batches_159 (by decide) ?_
        refine zr_aload_n hC dX9_batches_161 rfl ?_
        refine zs_getr hC dX9_batches_162 fl_X9_7 (a := 245) (r := 246) rfl (by decide) ?_
        refine zk_sipush hC dX9_batches_165 (v := nI 330) (by decide +kernel) ?_
        refine zr_iload hC dX9_batches_168 rfl ?_
        refine zn_iadd hC dX9_batches_170 (nI_add _ _) ?_
        by_cases h16 : 16 ≤ 31 - t
        · have hh : hlf lf (31 - t) = sm lf (31 - t) := if_pos h16
          refine zr_iload hC dX9_batches_171 rfl ?_
          refine zk_bipush hC dX9_batches_173 (v := nI 15) (by decide +kernel) ?_
          refine zr_icmp_le hC dX9_batches_175 (tgt := 187) (by decide) (fun c => absurd c (nI_ge (by omega) (by omega))) (fun c_175 => ?_)
          refine zr_aload_n hC dX9_batches_178 rfl ?_
          refine zr_iload hC dX9_batches_179 rfl ?_
          refine zs_callV hC (b := 245) [_] [_, _] dX9_batches_181 ml_X9_84 mtX9_beneath tX9_beneath (by decide) (by decide) (by decide) rfl rfl (by decide) (by decide +kernel) (Nat.le_of_ble_eq_true rfl) rfl ?_
          refine ⟨31 - t, _, rfl, by omega, g1, ?_⟩
          rw [kadd_f (by decide) (by decide) (by decide) (by decide), hR0]
          dsimp only [Option.toList, List.cons_append, List.nil_append]
          refine zr_goto hC dX9_batches_184 (tgt := 188) (by decide) ?_
          have hs : (rnh (hlf lf) lf ch D (t + 1)) = kadd (rnh (hlf lf) lf ch D t) (31 - t) (sm lf (31 - t)) := by rw [← hh]; exact if_pos ⟨hsm, hcb⟩
          refine zs_iast hC dX9_batches_188 (a := 246) (n := 752) rfl (by decide) (by decide) (j := 330 + (rnh (hlf lf) lf ch D t) 6 0) rfl (by omega) ?_
          refine zn_iinc hC dX9_batches_189 rfl (by decide) (zk_dec (by omega)) ?_
          refine zr_goto hC dX9_batches_192 (tgt := 129) (by decide) ?_
          exact zR_sub [(0, .ref 245), (3, .int (nI w0)), (4, .int (nI (31 - (t + 1))))] ⟨rfl, rfl, zlk_eq rfl (by omega), trivial⟩ (ih (t + 1) _ (by omega) (by rw [hs, zput_arr, ← kadd_h9]; exact g1.h9 (by rw [kadd_60]; omega)) ((hF.tr g2).put (by decide) (by decide)))
        · have hh : hlf lf (31 - t) = 0 := if_neg h16
          refine zr_iload hC dX9_batches_171 rfl ?_
          refine zk_bipush hC dX9_batches_173 (v := nI 15) (by decide +kernel) ?_
          refine zr_icmp_le hC dX9_batches_175 (tgt := 187) (by decide) (fun c_175 => ?_) (fun c => absurd c (not_not_intro (nI_le (by omega) (by decide))))
          refine zk_iconst hC dX9_batches_187 (v := nI 0) (by decide +kernel) ?_
          have hs : (rnh (hlf lf) lf ch D (t + 1)) = kadd (rnh (hlf lf) lf ch D t) (31 - t) 0 := by rw [← hh]; exact if_pos ⟨hsm, hcb⟩
          refine zs_iast hC dX9_batches_188 (a := 246) (n := 752) rfl (by decide) (by decide) (j := 330 + (rnh (hlf lf) lf ch D t) 6 0) rfl (by omega) ?_
          refine zn_iinc hC dX9_batches_189 rfl (by decide) (zk_dec (by omega)) ?_
          refine zr_goto hC dX9_batches_192 (tgt := 129) (by decide) ?_
          exact zR_sub [(0, .ref 245), (3, .int (nI w0)), (4, .int (nI (31 - (t + 1))))] ⟨rfl, rfl, zlk_eq rfl (by omega), trivial⟩ (ih (t + 1) _ (by omega) (by rw [hs, zput_arr, ← kadd_h9]; exact g1.h9 (by rw [kadd_60]; omega)) ((hF.tr g2).put (by decide) (by decide)))
set_option maxHeartbeats 4000000 in
set_option maxRecDepth 100000 in
theorem l9_blets {C : zCx} {τ : Nat → ClassId} {ι : Nat → Nat} (hC : zOK C τ (zrm 4 0 0) yX9_batches.cls cX9_batches 6) {S0 : zS} {D : zD} {lf : Nat → Nat} {ch w0 : Nat} (hc : CH S0 (fun v => ch.testBit v)) (h160 : D 6 1 < 160) (hb : D 6 2 < 5000) (hlf0 : D 0 = lf) (hok : lfok lf) (hlive : ∀ v, 1 ≤ v → v < 32 → sm lf v ≠ 0 → key D v < D 6 0 ∧ D 7 (key D v) = v) (k : ∀ S' lv, MW (S'.1 246) (tl lf ch D 15) → zfrm 246 247 S0 S' → zsub lv [(0, .ref 245), (3, .int (nI w0))] → zR C τ ι 6 0 0 274 lv [] (zcells S')) : ∀ (d t : Nat) (S : zS), t + d = 15 → MW (S.1 246) (tl lf ch D t) → zfrm 246 247 S0 S → zR C τ ι 6 0 0 199 [(0, .ref 245), (3, .int (nI w0)), (4, .int (nI (15 - t)))] [] (zcells S) := by
  intro d
  induction d with
  | zero =>
    intro t S ht hM hF
    refine zr_iload hC dX9_batches_199 rfl ?_
    refine zr_if_le hC dX9_batches_201 (tgt := 274) (by decide) (fun c_201 => ?_) (fun c => absurd c (not_not_intro (nI_le (b := 0) (by omega) (by decide))))
    obtain rfl : t = 15 := (by omega)
    exact k S _ hM hF ⟨rfl, rfl, trivial⟩
  | succ d ih =>
    intro t S ht hM hF
    refine zr_iload hC dX9_batches_199 rfl ?_
    refine zr_if_le hC dX9_batches_201 (tgt := 274) (by decide) (fun c => absurd c (nI_nle (by omega) (by omega))) (fun c_201 => ?_)
    rcases (show ch.testBit (15 - t) = true ∨ ch.testBit (15 - t) = false by cases ch.testBit (15 - t) <;> simp) with hcb | hcb
    · have hM0 := hM
      have hF0 := hF
      refine zk_iconst hC dX9_batches_204 (v := nI 2) (by decide +kernel) ?_
      refine zr_iload hC dX9_batches_205 rfl ?_
      refine zn_imul hC dX9_batches_207 (pk_mul _ _) ?_
      refine zr_istore hC dX9_batches_208 (by decide) ?_
      refine zr_iload hC dX9_batches_210 rfl ?_
      refine zk_iconst hC dX9_batches_212 (v := nI 2) (by decide +kernel) ?_
      refine zr_iload hC dX9_batches_213 rfl ?_
      refine zn_imul hC dX9_batches_215 (pk_mul _ _) ?_
      refine zk_iconst hC dX9_batches_216 (v := nI 2) (by decide +kernel) ?_
      refine zn_iadd hC dX9_batches_217 (nI_add _ _) ?_
      refine zr_icmp_ge hC dX9_batches_218 (tgt := 268) (by decide) (fun c => absurd c (nI_ge (by omega) (by omega))) (fun c_218 => ?_)
      refine zr_aload_n hC dX9_batches_221 rfl ?_
      refine zs_getr hC dX9_batches_222 fl_X9_16 (a := 245) (r := 248) rfl (by decide) ?_
      refine zr_iload hC dX9_batches_225 rfl ?_
      refine zv_zald hC dX9_batches_227 (a := 248) (n := 32) rfl (by decide) (by decide) (j := 15 - t) rfl (by omega) ((congrFun (hF0.1 248 (by decide)) _).trans ((hc (15 - t) (by omega)).trans (congrArg zb hcb))) ?_
      refine zr_if_eq hC dX9_batches_228 (tgt := 262) (by decide) (fun c => absurd c (by decide +kernel)) (fun c_228 => ?_)
      refine zr_aload_n hC dX9_batches_231 rfl ?_
      refine zr_iload hC dX9_batches_232 rfl ?_
      refine zs_callV hC (b := 245) [_] [] dX9_batches_234 ml_X9_84 mtX9_beneath tX9_beneath (by decide) (by decide) (by decide) rfl rfl (by decide) (by decide +kernel) (Nat.le_of_ble_eq_true rfl) rfl ?_
      refine ⟨2 * (15 - t), _, rfl, by omega, hM0, ?_⟩
      have hE0 : ltE D (tl lf ch D t) := tl_E t
      rw [hE0.1 0 (by decide) (by decide) (by decide) (by decide), hlf0]
      dsimp only [Option.toList, List.cons_append, List.nil_append]
      refine zr_if_eq hC dX9_batches_237 (tgt := 262) (by decide) (fun c_237 => ?_) (fun c_237 => ?_)
      · have hsm : sm lf (2 * (15 - t)) = 0 := (z_ne0 (Nat.lt_trans (sm_lt _ _) (by decide))).mp c_237
        have hM1 := hM0
        rw [show (tl lf ch D t) = (tl1 lf (tl lf ch D t) (15 - t) (2 * (15 - t))) from (if_pos hsm).symm] at hM1
        have hF1 := hF0
        refine zn_iinc hC dX9_batches_262 rfl (by decide) (zk_inc _ 1) ?_
        refine zr_goto hC dX9_batches_265 (tgt := 210) (by decide) ?_
        refine zr_iload hC dX9_batches_210 rfl ?_
        refine zk_iconst hC dX9_batches_212 (v := nI 2) (by decide +kernel) ?_
        refine zr_iload hC dX9_batches_213 rfl ?_
        refine zn_imul hC dX9_batches_215 (pk_mul _ _) ?_
        refine zk_iconst hC dX9_batches_216 (v := nI 2) (by decide +kernel) ?_
        refine zn_iadd hC dX9_batches_217 (nI_add _ _) ?_
        refine zr_icmp_ge hC dX9_batches_218 (tgt := 268) (by decide) (fun c => absurd c (nI_ge (by omega) (by omega))) (fun c_218 => ?_)
        refine zr_aload_n hC dX9_batches_221 rfl ?_
        refine zs_getr hC dX9_batches_222 fl_X9_16 (a := 245) (r := 248) rfl (by decide) ?_
        refine zr_iload hC dX9_batches_225 rfl ?_
        refine zv_zald hC dX9_batches_227 (a := 248) (n := 32) rfl (by decide) (by decide) (j := 15 - t) rfl (by omega) ((congrFun (hF1.1 248 (by decide)) _).trans ((hc (15 - t) (by omega)).trans (congrArg zb hcb))) ?_
        refine zr_if_eq hC dX9_batches_228 (tgt := 262) (by decide) (fun c => absurd c (by decide +kernel)) (fun c_228 => ?_)
        refine zr_aload_n hC dX9_batches_231 rfl ?_
        refine zr_iload hC dX9_batches_232 rfl ?_
        refine zs_callV hC (b := 245) [_] [] dX9_batches_234 ml_X9_84 mtX9_beneath tX9_beneath (by decide) (by decide) (by decide) rfl rfl (by decide) (by decide +kernel) (Nat.le_of_ble_eq_true rfl) rfl ?_
        refine ⟨2 * (15 - t) + 1, _, rfl, by omega, hM1, ?_⟩
        have hE1 : ltE D (tl1 lf (tl lf ch D t) (15 - t) (2 * (15 - t))) := (tl_E t).tl lf _ _
        rw [hE1.1 0 (by decide) (by decide) (by decide) (by decide), hlf0]
        dsimp only [Option.toList, List.cons_append, List.nil_append]
        refine zr_if_eq hC dX9_batches_237 (tgt := 262) (by decide) (fun c_237 => ?_) (fun c_237 => ?_)
        · have hsm : sm lf (2 * (15 - t) + 1) = 0 := (z_ne0 (Nat.lt_trans (sm_lt _ _) (by decide))).mp c_237
          have hM2 := hM1
          rw [show (tl1 lf (tl lf ch D t) (15 - t) (2 * (15 - t))) = (tl1 lf (tl1 lf (tl lf ch D t) (15 - t) (2 * (15 - t))) (15 - t) (2 * (15 - t) + 1)) from (if_pos hsm).symm] at hM2
          have hF2 := hF1
          refine zn_iinc hC dX9_batches_262 rfl (by decide) (zk_inc _ 1) ?_
          refine zr_goto hC dX9_batches_265 (tgt := 210) (by decide) ?_
          refine zr_iload hC dX9_batches_210 rfl ?_
          refine zk_iconst hC dX9_batches_212 (v := nI 2) (by decide +kernel) ?_
          refine zr_iload hC dX9_batches_213 rfl ?_
          refine zn_imul hC dX9_batches_215 (pk_mul _ _) ?_
          refine zk_iconst hC dX9_batches_216 (v := nI 2) (by decide +kernel) ?_
          refine zn_iadd hC dX9_batches_217 (nI_add _ _) ?_
          refine zr_icmp_ge hC dX9_batches_218 (tgt := 268) (by decide) (fun c_218 => ?_) (fun c => absurd c (not_not_intro (nI_le (by omega) (by omega))))
          refine zn_iinc hC dX9_batches_268 rfl (by decide) (zk_dec (by omega)) ?_
          refine zr_goto hC dX9_batches_271 (tgt := 199) (by decide) ?_
          exact zR_sub [(0, .ref 245), (3, .int (nI w0)), (4, .int (nI (15 - (t + 1))))] ⟨rfl, rfl, zlk_eq rfl (by omega), trivial⟩ (ih (t + 1) _ (by omega) (by rw [tl, if_pos hcb]; exact hM2) hF2)
        · have hsm : sm lf (2 * (15 - t) + 1) ≠ 0 := fun q => c_237 (by rw [q]; rfl)
          have hup := sm_up hok (by omega) (by omega) (show 2 * (15 - t) + 1 = 2 * (15 - t) ∨ 2 * (15 - t) + 1 = 2 * (15 - t) + 1 by omega) hsm
          obtain ⟨p1, p2⟩ := hlive (15 - t) (by omega) (by omega) hup
          obtain ⟨r1, r2⟩ := hlive (2 * (15 - t) + 1) (by omega) (by omega) hsm
          refine zr_aload_n hC dX9_batches_240 rfl ?_
          refine zr_aload_n hC dX9_batches_241 rfl ?_
          refine zr_iload hC dX9_batches_242 rfl ?_
          refine zs_callV hC (b := 245) [_] [_] dX9_batches_244 ml_X9_140 mtX9_keyOf tX9_keyOf (by decide) (by decide) (by decide) rfl rfl (by decide) (by decide +kernel) (Nat.le_of_ble_eq_true rfl) rfl ?_
          refine ⟨15 - t, _, rfl, by omega, hM1, ?_⟩
          rw [kofm_is (fun _ => ⟨key D (15 - t), by rw [hE1.2.1 0 (by decide)]; exact p1, by rw [hE1.1 7 (by decide) (by decide) (by decide) (by decide)]; exact p2⟩), hE1.1 0 (by decide) (by decide) (by decide) (by decide), hlf0, kof, if_neg hup]
          dsimp only [Option.toList, List.cons_append, List.nil_append]
          refine zr_aload_n hC dX9_batches_247 rfl ?_
          refine zr_iload hC dX9_batches_248 rfl ?_
          refine zs_callV hC (b := 245) [_] [_, _] dX9_batches_250 ml_X9_140 mtX9_keyOf tX9_keyOf (by decide) (by decide) (by decide) rfl rfl (by decide) (by decide +kernel) (Nat.le_of_ble_eq_true rfl) rfl ?_
          refine ⟨2 * (15 - t) + 1, _, rfl, by omega, hM1, ?_⟩
          rw [kofm_is (fun _ => ⟨key D (2 * (15 - t) + 1), by rw [hE1.2.1 0 (by decide)]; exact r1, by rw [hE1.1 7 (by decide) (by decide) (by decide) (by decide)]; exact r2⟩), hE1.1 0 (by decide) (by decide) (by decide) (by decide), hlf0, kof, if_neg hsm]
          dsimp only [Option.toList, List.cons_append, List.nil_append]
          refine zr_aload_n hC dX9_batches_253 rfl ?_
          refine zs_getr hC dX9_batches_254 fl_X9_7 (a := 245) (r := 246) rfl (by decide) ?_
          refine zk_iconst hC dX9_batches_257 (v := nI 2) (by decide +kernel) ?_
          refine zv_iald hC dX9_batches_258 (a := 246) (n := 752) rfl (by decide) (by decide) (j := 2) rfl (by decide) (hM1.1.1.2.2.1) ?_
          refine zs_callV hC (b := 245) [_, _, _] [] dX9_batches_259 ml_X9_143 mtX9_writes tX9_writes (by decide) (by decide) (by decide) rfl rfl (by decide) (by decide +kernel) (Nat.le_of_ble_eq_true rfl) rfl ?_
          have h60k := hM1.made
          rw [hE1.2.1 0 (by decide)] at h60k
          refine ⟨key (tl1 lf (tl lf ch D t) (15 - t) (2 * (15 - t))) (15 - t), key (tl1 lf (tl lf ch D t) (15 - t) (2 * (15 - t))) (2 * (15 - t) + 1), (tl1 lf (tl lf ch D t) (15 - t) (2 * (15 - t))) 6 2 + 1, _, _, rfl, by rw [hE1.key]; omega, by rw [hE1.key]; omega, by rw [hE1.2.1 2 (by decide)]; omega, nI_add _ _, hM1, ?_, fun S2 g1 g2 => ?_⟩
          · have := tl_n (lf := lf) (ch := ch) (D := D) t
            have := tl1_n (lf := lf) (T := tl lf ch D t) (v := 15 - t) (w := 2 * (15 - t))
            omega
          have hM2 : MW (S2.1 246) (tl1 lf (tl1 lf (tl lf ch D t) (15 - t) (2 * (15 - t))) (15 - t) (2 * (15 - t) + 1)) := by rw [tl1, if_neg (by exact hsm)]; exact g1
          have hF2 := hF1.tr g2
          dsimp only [Option.toList, List.nil_append]
          refine zn_iinc hC dX9_batches_262 rfl (by decide) (zk_inc _ 1) ?_
          refine zr_goto hC dX9_batches_265 (tgt := 210) (by decide) ?_
          refine zr_iload hC dX9_batches_210 rfl ?_
          refine zk_iconst hC dX9_batches_212 (v := nI 2) (by decide +kernel) ?_
          refine zr_iload hC dX9_batches_213 rfl ?_
          refine zn_imul hC dX9_batches_215 (pk_mul _ _) ?_
          refine zk_iconst hC dX9_batches_216 (v := nI 2) (by decide +kernel) ?_
          refine zn_iadd hC dX9_batches_217 (nI_add _ _) ?_
          refine zr_icmp_ge hC dX9_batches_218 (tgt := 268) (by decide) (fun c_218 => ?_) (fun c => absurd c (not_not_intro (nI_le (by omega) (by omega))))
          refine zn_iinc hC dX9_batches_268 rfl (by decide) (zk_dec (by omega)) ?_
          refine zr_goto hC dX9_batches_271 (tgt := 199) (by decide) ?_
          exact zR_sub [(0, .ref 245), (3, .int (nI w0)), (4, .int (nI (15 - (t + 1))))] ⟨rfl, rfl, zlk_eq rfl (by omega), trivial⟩ (ih (t + 1) _ (by omega) (by rw [tl, if_pos hcb]; exact hM2) hF2)
      · have hsm : sm lf (2 * (15 - t)) ≠ 0 := fun q => c_237 (by rw [q]; rfl)
        have hup := sm_up hok (by omega) (by omega) (show 2 * (15 - t) = 2 * (15 - t) ∨ 2 * (15 - t) = 2 * (15 - t) + 1 by omega) hsm
        obtain ⟨p1, p2⟩ := hlive (15 - t) (by omega) (by omega) hup
        obtain ⟨r1, r2⟩ := hlive (2 * (15 - t)) (by omega) (by omega) hsm
        refine zr_aload_n hC dX9_batches_240 rfl ?_
        refine zr_aload_n hC dX9_batches_241 rfl ?_
        refine zr_iload hC dX9_batches_242 rfl ?_
        refine zs_callV hC (b := 245) [_] [_] dX9_batches_244 ml_X9_140 mtX9_keyOf tX9_keyOf (by decide) (by decide) (by decide) rfl rfl (by decide) (by decide +kernel) (Nat.le_of_ble_eq_true rfl) rfl ?_
        refine ⟨15 - t, _, rfl, by omega, hM0, ?_⟩
        rw [kofm_is (fun _ => ⟨key D (15 - t), by rw [hE0.2.1 0 (by decide)]; exact p1, by rw [hE0.1 7 (by decide) (by decide) (by decide) (by decide)]; exact p2⟩), hE0.1 0 (by decide) (by decide) (by decide) (by decide), hlf0, kof, if_neg hup]
        dsimp only [Option.toList, List.cons_append, List.nil_append]
        refine zr_aload_n hC dX9_batches_247 rfl ?_
        refine zr_iload hC dX9_batches_248 rfl ?_
        refine zs_callV hC (b := 245) [_] [_, _] dX9_batches_250 ml_X9_140 mtX9_keyOf tX9_keyOf (by decide) (by decide) (by decide) rfl rfl (by decide) (by decide +kernel) (Nat.le_of_ble_eq_true rfl) rfl ?_
        refine ⟨2 * (15 - t), _, rfl, by omega, hM0, ?_⟩
        rw [kofm_is (fun _ => ⟨key D (2 * (15 - t)), by rw [hE0.2.1 0 (by decide)]; exact r1, by rw [hE0.1 7 (by decide) (by decide) (by decide) (by decide)]; exact r2⟩), hE0.1 0 (by decide) (by decide) (by decide) (by decide), hlf0, kof, if_neg hsm]
        dsimp only [Option.toList, List.cons_append, List.nil_append]
        refine zr_aload_n hC dX9_batches_253 rfl ?_
        refine zs_getr hC dX9_batches_254 fl_X9_7 (a := 245) (r := 246) rfl (by decide) ?_
        refine zk_iconst hC dX9_batches_257 (v := nI 2) (by decide +kernel) ?_
        refine zv_iald hC dX9_batches_258 (a := 246) (n := 752) rfl (by decide) (by decide) (j := 2) rfl (by decide) (hM0.1.1.2.2.1) ?_
        refine zs_callV hC (b := 245) [_, _, _] [] dX9_batches_259 ml_X9_143 mtX9_writes tX9_writes (by decide) (by decide) (by decide) rfl rfl (by decide) (by decide +kernel) (Nat.le_of_ble_eq_true rfl) rfl ?_
        have h60k := hM0.made
        rw [hE0.2.1 0 (by decide)] at h60k
        refine ⟨key (tl lf ch D t) (15 - t), key (tl lf ch D t) (2 * (15 - t)), (tl lf ch D t) 6 2 + 1, _, _, rfl, by rw [hE0.key]; omega, by rw [hE0.key]; omega, by rw [hE0.2.1 2 (by decide)]; omega, nI_add _ _, hM0, ?_, fun S1 g1 g2 => ?_⟩
        · have := tl_n (lf := lf) (ch := ch) (D := D) t
          omega
        have hM1 : MW (S1.1 246) (tl1 lf (tl lf ch D t) (15 - t) (2 * (15 - t))) := by rw [tl1, if_neg (by exact hsm)]; exact g1
        have hF1 := hF0.tr g2
        dsimp only [Option.toList, List.nil_append]
        refine zn_iinc hC dX9_batches_262 rfl (by decide) (zk_inc _ 1) ?_
        refine zr_goto hC dX9_batches_265 (tgt := 210) (by decide) ?_
        refine zr_iload hC dX9_batches_210 rfl ?_
        refine zk_iconst hC dX9_batches_212 (v := nI 2) (by decide +kernel) ?_
        refine zr_iload hC dX9_batches_213 rfl ?_
        refine zn_imul hC dX9_batches_215 (pk_mul _ _) ?_
        refine zk_iconst hC dX9_batches_216 (v := nI 2) (by decide +kernel) ?_
        refine zn_iadd hC dX9_batches_217 (nI_add _ _) ?_
        refine zr_icmp_ge hC dX9_batches_218 (tgt := 268) (by decide) (fun c => absurd c (nI_ge (by omega) (by omega))) (fun c_218 => ?_)
        refine zr_aload_n hC dX9_batches_221 rfl ?_
        refine zs_getr hC dX9_batches_222 fl_X9_16 (a := 245) (r := 248) rfl (by decide) ?_
        refine zr_iload hC dX9_batches_225 rfl ?_
        refine zv_zald hC dX9_batches_227 (a := 248) (n := 32) rfl (by decide) (by decide) (j := 15 - t) rfl (by omega) ((congrFun (hF1.1 248 (by decide)) _).trans ((hc (15 - t) (by omega)).trans (congrArg zb hcb))) ?_
        refine zr_if_eq hC dX9_batches_228 (tgt := 262) (by decide) (fun c => absurd c (by decide +kernel)) (fun c_228 => ?_)
        refine zr_aload_n hC dX9_batches_231 rfl ?_
        refine zr_iload hC dX9_batches_232 rfl ?_
        refine zs_callV hC (b := 245) [_] [] dX9_batches_234 ml_X9_84 mtX9_beneath tX9_beneath (by decide) (by decide) (by decide) rfl rfl (by decide) (by decide +kernel) (Nat.le_of_ble_eq_true rfl) rfl ?_
        refine ⟨2 * (15 - t) + 1, _, rfl, by omega, hM1, ?_⟩
        have hE1 : ltE D (tl1 lf (tl lf ch D t) (15 - t) (2 * (15 - t))) := (tl_E t).tl lf _ _
        rw [hE1.1 0 (by decide) (by decide) (by decide) (by decide), hlf0]
        dsimp only [Option.toList, List.cons_append, List.nil_append]
        refine zr_if_eq hC dX9_batches_237 (tgt := 262) (by decide) (fun c_237 => ?_) (fun c_237 => ?_)
        · have hsm : sm lf (2 * (15 - t) + 1) = 0 := (z_ne0 (Nat.lt_trans (sm_lt _ _) (by decide))).mp c_237
          have hM2 := hM1
          rw [show (tl1 lf (tl lf ch D t) (15 - t) (2 * (15 - t))) = (tl1 lf (tl1 lf (tl lf ch D t) (15 - t) (2 * (15 - t))) (15 - t) (2 * (15 - t) + 1)) from (if_pos hsm).symm] at hM2
          have hF2 := hF1
          refine zn_iinc hC dX9_batches_262 rfl (by decide) (zk_inc _ 1) ?_
          refine zr_goto hC dX9_batches_265 (tgt := 210) (by decide) ?_
          refine zr_iload hC dX9_batches_210 rfl ?_
          refine zk_iconst hC dX9_batches_212 (v := nI 2) (by decide +kernel) ?_
          refine zr_iload hC dX9_batches_213 rfl ?_
          refine zn_imul hC dX9_batches_215 (pk_mul _ _) ?_
          refine zk_iconst hC dX9_batches_216 (v := nI 2) (by decide +kernel) ?_
          refine zn_iadd hC dX9_batches_217 (nI_add _ _) ?_
          refine zr_icmp_ge hC dX9_batches_218 (tgt := 268) (by decide) (fun c_218 => ?_) (fun c => absurd c (not_not_intro (nI_le (by omega) (by omega))))
          refine zn_iinc hC dX9_batches_268 rfl (by decide) (zk_dec (by omega)) ?_
          refine zr_goto hC dX9_batches_271 (tgt := 199) (by decide) ?_
          exact zR_sub [(0, .ref 245), (3, .int (nI w0)), (4, .int (nI (15 - (t + 1))))] ⟨rfl, rfl, zlk_eq rfl (by omega), trivial⟩ (ih (t + 1) _ (by omega) (by rw [tl, if_pos hcb]; exact hM2) hF2)
        · have hsm : sm lf (2 * (15 - t) + 1) ≠ 0 := fun q => c_237 (by rw [q]; rfl)
          have hup := sm_up hok (by omega) (by omega) (show 2 * (15 - t) + 1 = 2 * (15 - t) ∨ 2 * (15 - t) + 1 = 2 * (15 - t) + 1 by omega) hsm
          obtain ⟨p1, p2⟩ := hlive (15 - t) (by omega) (by omega) hup
          obtain ⟨r1, r2⟩ := hlive (2 * (15 - t) + 1) (by omega) (by omega) hsm
          refine zr_aload_n hC dX9_batches_240 rfl ?_
          refine zr_aload_n hC dX9_batches_241 rfl ?_
          refine zr_iload hC dX9_batches_242 rfl ?_
          refine zs_callV hC (b := 245) [_] [_] dX9_batches_244 ml_X9_140 mtX9_keyOf tX9_keyOf (by decide) (by decide) (by decide) rfl rfl (by decide) (by decide +kernel) (Nat.le_of_ble_eq_true rfl) rfl ?_
          refine ⟨15 - t, _, rfl, by omega, hM1, ?_⟩
          rw [kofm_is (fun _ => ⟨key D (15 - t), by rw [hE1.2.1 0 (by decide)]; exact p1, by rw [hE1.1 7 (by decide) (by decide) (by decide) (by decide)]; exact p2⟩), hE1.1 0 (by decide) (by decide) (by decide) (by decide), hlf0, kof, if_neg hup]
          dsimp only [Option.toList, List.cons_append, List.nil_append]
          refine zr_aload_n hC dX9_batches_247 rfl ?_
          refine zr_iload hC dX9_batches_248 rfl ?_
          refine zs_callV hC (b := 245) [_] [_, _] dX9_batches_250 ml_X9_140 mtX9_keyOf tX9_keyOf (by decide) (by decide) (by decide) rfl rfl (by decide) (by decide +kernel) (Nat.le_of_ble_eq_true rfl) rfl ?_
          refine ⟨2 * (15 - t) + 1, _, rfl, by omega, hM1, ?_⟩
          rw [kofm_is (fun _ => ⟨key D (2 * (15 - t) + 1), by rw [hE1.2.1 0 (by decide)]; exact r1, by rw [hE1.1 7 (by decide) (by decide) (by decide) (by decide)]; exact r2⟩), hE1.1 0 (by decide) (by decide) (by decide) (by decide), hlf0, kof, if_neg hsm]
          dsimp only [Option.toList, List.cons_append, List.nil_append]
          refine zr_aload_n hC dX9_batches_253 rfl ?_
          refine zs_getr hC dX9_batches_254 fl_X9_7 (a := 245) (r := 246) rfl (by decide) ?_
          refine zk_iconst hC dX9_batches_257 (v := nI 2) (by decide +kernel) ?_
          refine zv_iald hC dX9_batches_258 (a := 246) (n := 752) rfl (by decide) (by decide) (j := 2) rfl (by decide) (hM1.1.1.2.2.1) ?_
          refine zs_callV hC (b := 245) [_, _, _] [] dX9_batches_259 ml_X9_143 mtX9_writes tX9_writes (by decide) (by decide) (by decide) rfl rfl (by decide) (by decide +kernel) (Nat.le_of_ble_eq_true rfl) rfl ?_
          have h60k := hM1.made
          rw [hE1.2.1 0 (by decide)] at h60k
          refine ⟨key (tl1 lf (tl lf ch D t) (15 - t) (2 * (15 - t))) (15 - t), key (tl1 lf (tl lf ch D t) (15 - t) (2 * (15 - t))) (2 * (15 - t) + 1), (tl1 lf (tl lf ch D t) (15 - t) (2 * (15 - t))) 6 2 + 1, _, _, rfl, by rw [hE1.key]; omega, by rw [hE1.key]; omega, by rw [hE1.2.1 2 (by decide)]; omega, nI_add _ _, hM1, ?_, fun S2 g1 g2 => ?_⟩
          · have := tl_n (lf := lf) (ch := ch) (D := D) t
            have := tl1_n (lf := lf) (T := tl lf ch D t) (v := 15 - t) (w := 2 * (15 - t))
            omega
          have hM2 : MW (S2.1 246) (tl1 lf (tl1 lf (tl lf ch D t) (15 - t) (2 * (15 - t))) (15 - t) (2 * (15 - t) + 1)) := by rw [tl1, if_neg (by exact hsm)]; exact g1
          have hF2 := hF1.tr g2
          dsimp only [Option.toList, List.nil_append]
          refine zn_iinc hC dX9_batches_262 rfl (by decide) (zk_inc _ 1) ?_
          refine zr_goto hC dX9_batches_265 (tgt := 210) (by decide) ?_
          refine zr_iload hC dX9_batches_210 rfl ?_
          refine zk_iconst hC dX9_batches_212 (v := nI 2) (by decide +kernel) ?_
          refine zr_iload hC dX9_batches_213 rfl ?_
          refine zn_imul hC dX9_batches_215 (pk_mul _ _) ?_
          refine zk_iconst hC dX9_batches_216 (v := nI 2) (by decide +kernel) ?_
          refine zn_iadd hC dX9_batches_217 (nI_add _ _) ?_
          refine zr_icmp_ge hC dX9_batches_218 (tgt := 268) (by decide) (fun c_218 => ?_) (fun c => absurd c (not_not_intro (nI_le (by omega) (by omega))))
          refine zn_iinc hC dX9_batches_268 rfl (by decide) (zk_dec (by omega)) ?_
          refine zr_goto hC dX9_batches_271 (tgt := 199) (by decide) ?_
          exact zR_sub [(0, .ref 245), (3, .int (nI w0)), (4, .int (nI (15 - (t + 1))))] ⟨rfl, rfl, zlk_eq rfl (by omega), trivial⟩ (ih (t + 1) _ (by omega) (by rw [tl, if_pos hcb]; exact hM2) hF2)
    · refine zk_iconst hC dX9_batches_204 (v := nI 2) (by decide +kernel) ?_
      refine zr_iload hC dX9_batches_205 rfl ?_
      refine zn_imul hC dX9_batches_207 (pk_mul _ _) ?_
      refine zr_istore hC dX9_batches_208 (by decide) ?_
      refine zr_iload hC dX9_batches_210 rfl ?_
      refine zk_iconst hC dX9_batches_212 (v := nI 2) (by decide +kernel) ?_
      refine zr_iload hC dX9_batches_213 rfl ?_
      refine zn_imul hC dX9_batches_215 (pk_mul _ _) ?_
      refine zk_iconst hC dX9_batches_216 (v := nI 2) (by decide +kernel) ?_
      refine zn_iadd hC dX9_batches_217 (nI_add _ _) ?_
      refine zr_icmp_ge hC dX9_batches_218 (tgt := 268) (by decide) (fun c => absurd c (nI_ge (by omega) (by omega))) (fun c_218 => ?_)
      refine zr_aload_n hC dX9_batches_221 rfl ?_
      refine zs_getr hC dX9_batches_222 fl_X9_16 (a := 245) (r := 248) rfl (by decide) ?_
      refine zr_iload hC dX9_batches_225 rfl ?_
      refine zv_zald hC dX9_batches_227 (a := 248) (n := 32) rfl (by decide) (by decide) (j := 15 - t) rfl (by omega) ((congrFun (hF.1 248 (by decide)) _).trans ((hc (15 - t) (by omega)).trans (congrArg zb hcb))) ?_
      refine zr_if_eq hC dX9_batches_228 (tgt := 262) (by decide) (fun c_228 => ?_) (fun c => absurd c (by decide +kernel))
      refine zn_iinc hC dX9_batches_262 rfl (by decide) (zk_inc _ 1) ?_
      refine zr_goto hC dX9_batches_265 (tgt := 210) (by decide) ?_
      refine zr_iload hC dX9_batches_210 rfl ?_
      refine zk_iconst hC dX9_batches_212 (v := nI 2) (by decide +kernel) ?_
      refine zr_iload hC dX9_batches_213 rfl ?_
      refine zn_imul hC dX9_batches_215 (pk_mul _ _) ?_
      refine zk_iconst hC dX9_batches_216 (v := nI 2) (by decide +kernel) ?_
      refine zn_iadd hC dX9_batches_217 (nI_add _ _) ?_
      refine zr_icmp_ge hC dX9_batches_218 (tgt := 268) (by decide) (fun c => absurd c (nI_ge (by omega) (by omega))) (fun c_218 => ?_)
      refine zr_aload_n hC dX9_batches_221 rfl ?_
      refine zs_getr hC dX9_batches_222 fl_X9_16 (a := 245) (r := 248) rfl (by decide) ?_
      refine zr_iload hC dX9_batches_225 rfl ?_
      refine zv_zald hC dX9_batches_227 (a := 248) (n := 32) rfl (by decide) (by decide) (j := 15 - t) rfl (by omega) ((congrFun (hF.1 248 (by decide)) _).trans ((hc (15 - t) (by omega)).trans (congrArg zb hcb))) ?_
      refine zr_if_eq hC dX9_batches_228 (tgt := 262) (by decide) (fun c_228 => ?_) (fun c => absurd c (by decide +kernel))
      refine zn_iinc hC dX9_batches_262 rfl (by decide) (zk_inc _ 1) ?_
      refine zr_goto hC dX9_batches_265 (tgt := 210) (by decide) ?_
      refine zr_iload hC dX9_batches_210 rfl ?_
      refine zk_iconst hC dX9_batches_212 (v := nI 2) (by decide +kernel) ?_
      refine zr_iload hC dX9_batches_213 rfl ?_
      refine zn_imul hC dX9_batches_215 (pk_mul _ _) ?_
      refine zk_iconst hC dX9_batches_216 (v := nI 2) (by decide +kernel) ?_
      refine zn_iadd hC dX9_batches_217 (nI_add _ _) ?_
      refine zr_icmp_ge hC dX9_batches_218 (tgt := 268) (by decide) (fun c_218 => ?_) (fun c => absurd c (not_not_intro (nI_le (by omega) (by omega))))
      refine zn_iinc hC dX9_batches_268 rfl (by decide) (zk_dec (by omega)) ?_
      refine zr_goto hC dX9_batches_271 (tgt := 199) (by decide) ?_
      exact zR_sub [(0, .ref 245), (3, .int (nI w0)), (4, .int (nI (15 - (t + 1))))] ⟨rfl, rfl, zlk_eq rfl (by omega), trivial⟩ (ih (t + 1) S (by omega) (by rw [tl, if_neg (by rw [hcb]; decide)]; exact hM) hF)
def spX9_batches : zSp := fun av S Q => ∃ D : zD, av = [.ref 245] ∧ MW (S.1 246) D ∧ INV D ∧ brf D = nI 0 ∧ ∀ S', MW (S'.1 246) (btc D) → zfrm 246 250 S S' → Q (some (.int (nI (btc D 6 1 - D 6 1)))) S'
set_option maxHeartbeats 4000000 in
set_option maxRecDepth 100000 in
theorem tX9_batches : zM yX9_batches cX9_batches 6 (some .int) 4 spX9_batches := by
  refine zM.of (by decide) (by decide) (fun av S Q h => by obtain ⟨D, rfl, hM, hI, hb, hQ⟩ := h; exact Nat.le_of_ble_eq_true rfl) (fun C τ ι av S Q Qr h hr hC hE => ?_)
  obtain ⟨D, rfl, hM, hI, hb, hQ⟩ := h
  obtain ⟨hne, h60, h61⟩ := brf_0 hb
  have h16 : ∀ m, m < 16 → bt (nI (dm (tP D 3 2))) m = true → 16 ≤ D 0 m := fun m hm q => by
    have q : D 1 m = 2 := (dm_b1 (f := D 1) hm).mp q
    have := hI.told hm
    rcases hI.leaf hm with z | z <;> omega
  have h00 : ∀ m, m < 16 → bt (nI (dm (tP D 3 1))) m = true → D 0 m = 0 := fun m hm q => by
    have q : D 1 m = 1 := (dm_b1 (f := D 1) hm).mp q
    have := hI.told hm
    omega
  show zR C τ ι _ 0 0 0 [(0, .ref 245)] [] _
  refine zr_aload_n hC dX9_batches_0 rfl ?_
  refine zk_iconst hC dX9_batches_1 (v := nI 3) (by decide +kernel) ?_
  refine zk_iconst hC dX9_batches_2 (v := nI 1) (by decide +kernel) ?_
  refine zs_callV hC (b := 245) [_, _] [] dX9_batches_3 ml_X9_108 mtX9_those tX9_those (by decide) (by decide) (by decide) rfl rfl (by decide) (by decide +kernel) (Nat.le_of_ble_eq_true rfl) rfl ?_
  refine ⟨3, 1, D, rfl, Or.inr (Or.inr rfl), by decide, hM, ?_⟩
  dsimp only [Option.toList, List.cons_append, List.nil_append]
  refine zr_istore_n hC dX9_batches_6 (by decide) ?_
  refine zr_aload_n hC dX9_batches_7 rfl ?_
  refine zk_iconst hC dX9_batches_8 (v := nI 3) (by decide +kernel) ?_
  refine zk_iconst hC dX9_batches_9 (v := nI 2) (by decide +kernel) ?_
  refine zs_callV hC (b := 245) [_, _] [] dX9_batches_10 ml_X9_108 mtX9_those tX9_those (by decide) (by decide) (by decide) rfl rfl (by decide) (by decide +kernel) (Nat.le_of_ble_eq_true rfl) rfl ?_
  refine ⟨3, 2, D, rfl, Or.inr (Or.inr rfl), by decide, hM, ?_⟩
  dsimp only [Option.toList, List.cons_append, List.nil_append]
  refine zr_istore_n hC dX9_batches_13 (by decide) ?_
  refine zr_aload_n hC dX9_batches_14 rfl ?_
  refine zs_getr hC dX9_batches_15 fl_X9_7 (a := 245) (r := 246) rfl (by decide) ?_
  refine zk_iconst hC dX9_batches_18 (v := nI 1) (by decide +kernel) ?_
  refine zv_iald hC dX9_batches_19 (a := 246) (n := 752) rfl (by decide) (by decide) (j := 1) rfl (by decide) (hM.1.1.2.1) ?_
  refine zr_istore_n hC dX9_batches_20 (by decide) ?_
  refine zr_aload_n hC dX9_batches_21 rfl ?_
  refine zs_callV hC (b := 245) [] [] dX9_batches_22 ml_X9_130 mtX9_takesSeats tX9_takesSeats (by decide) (by decide) (by decide) rfl rfl (by decide) (by decide +kernel) (Nat.le_of_ble_eq_true rfl) rfl ?_
  refine ⟨D, rfl, hM, fun S1 hs1 hf1 => ?_⟩
  dsimp only [Option.toList, List.nil_append]
  refine zr_aload_n hC dX9_batches_25 rfl ?_
  refine zr_iload_n hC dX9_batches_26 rfl ?_
  refine zr_iload_n hC dX9_batches_27 rfl ?_
  refine zs_callV hC (b := 245) [_, _] [] dX9_batches_28 ml_X9_133 mtX9_shifts tX9_shifts (by decide) (by decide) (by decide) rfl rfl (by decide) (by decide +kernel) (Nat.le_of_ble_eq_true rfl) rfl ?_
  refine ⟨_, _, D 0, rfl, hs1, hI.ok, hI.inj, h16, h00, ?_⟩
  rw [show mv (D 0) (bt (nI (dm (tP D 3 2)))) (bt (nI (dm (tP D 3 1)))) = mvD D from mv_bits D]
  intro S2 hs2 hc2 hf2
  dsimp only [Option.toList, List.nil_append]
  refine zk_iconst hC dX9_batches_31 (v := nI 0) (by decide +kernel) ?_
  refine zr_istore hC dX9_batches_32 (by decide) ?_
  have hM2 : MW (S2.1 246) D := by rw [hf2.1 246 (by decide), hf1.1 246 (by decide)]; exact hM
  refine zR_sub [(0, .ref 245), (3, .int (nI (D 6 1))), (4, .int (nI 0))] ⟨rfl, rfl, rfl, trivial⟩ (l9_bmem (S0 := S2) (D := D) hC hs2 (fun m hm => (mvD_F hI).1.lt hm) (fun S3 lv hm3 hf3 hq => ?_) 16 0 S2 (by omega) (mbi_00 hM2) zfrm.rf)
  obtain ⟨v0, v3, -⟩ := hq
  refine zk_bipush hC dX9_batches_125 (v := nI 31) (by decide +kernel) ?_
  refine zr_istore hC dX9_batches_127 (by decide) ?_
  refine zR_sub [(0, .ref 245), (3, .int (nI (D 6 1))), (4, .int (nI (31 - 0)))] ⟨zlk_set (show 0 ≠ 4 by decide) v0, zlk_set (show 3 ≠ 4 by decide) v3, rfl, trivial⟩ (l9_bkeys (S0 := S3) (D := mbr D) (lf := (mvD D).1) (ch := (mvD D).2.2) hC (hc2.fr (hf3.1 _ (by decide))) h60 (Nat.lt_of_le_of_lt hI.batches (by decide)) rfl (fun S4 lv hm4 hf4 hq2 => ?_) 31 0 S3 (by omega) hm3 zfrm.rf)
  obtain ⟨w0, w3, -⟩ := hq2
  refine zk_bipush hC dX9_batches_195 (v := nI 15) (by decide +kernel) ?_
  refine zr_istore hC dX9_batches_197 (by decide) ?_
  refine zR_sub [(0, .ref 245), (3, .int (nI (D 6 1))), (4, .int (nI (15 - 0)))] ⟨zlk_set (show 0 ≠ 4 by decide) w0, zlk_set (show 3 ≠ 4 by decide) w3, rfl, trivial⟩ (l9_blets (S0 := S4) (D := (rn (mvD D).1 (mvD D).2.2 (mbr D) 31)) (lf := (mvD D).1) (ch := (mvD D).2.2) hC ((hc2.fr (hf3.1 _ (by decide))).fr (hf4.1 _ (by decide))) (Nat.lt_of_le_of_lt (Nat.le_of_eq (rnh_6 (D := mbr D) (by decide) 31)) h61) (Nat.lt_of_le_of_lt (Nat.le_of_eq (rnh_6 (D := mbr D) (by decide) 31)) (Nat.lt_of_le_of_lt hI.batches (by decide))) (rnh_f (by decide) (by decide) (by decide) (by decide) 31) (mvD_F hI).1 (fun v a b c => bk_key hI a b c) (fun S5 lv ht1 hf5 hq3 => ?_) 15 0 S4 (by omega) hm4 zfrm.rf)
  have e62 : btc1 D 6 2 = D 6 2 := by
    show tl _ _ _ 15 6 2 = _
    rw [(tl_E 15).2.1 2 (by decide)]
    exact rnh_6 (D := mbr D) (by decide) 31
  have hbt : MW ((zput S5 246 2 (nI (D 6 2 + 1))).1 246) (dset (btc1 D) 6 2 (D 6 2 + 1)) := by rw [zput_arr]; exact ht1.set6 (Or.inl rfl) (fun _ => by have := hI.batches; omega)
  refine zR_sub [(0, .ref 245), (3, .int (nI (D 6 1)))] hq3 ?_
  refine zr_aload_n hC dX9_batches_274 rfl ?_
  refine zs_getr hC dX9_batches_275 fl_X9_7 (a := 245) (r := 246) rfl (by decide) ?_
  refine zk_iconst hC dX9_batches_278 (v := nI 2) (by decide +kernel) ?_
  refine zr_dup2 hC dX9_batches_279 rfl rfl ?_
  refine zv_iald hC dX9_batches_280 (a := 246) (n := 752) rfl (by decide) (by decide) (j := 2) rfl (by decide) (ht1.1.1.2.2.1.trans (congrArg nI e62)) ?_
  refine zk_iconst hC dX9_batches_281 (v := nI 1) (by decide +kernel) ?_
  refine zn_iadd hC dX9_batches_282 (nI_add _ _) ?_
  refine zs_iast hC dX9_batches_283 (a := 246) (n := 752) rfl (by decide) (by decide) (j := 2) rfl (by decide) ?_
  refine zr_aload_n hC dX9_batches_284 rfl ?_
  refine zs_callV hC (b := 245) [] [] dX9_batches_285 ml_X9_146 mtX9_readAll tX9_readAll (by decide) (by decide) (by decide) rfl rfl (by decide) (by decide +kernel) (Nat.le_of_ble_eq_true rfl) rfl ?_
  refine ⟨_, rfl, hbt, (hI.btc1 hb).rd, fun S6 g1 g2 => ?_⟩
  dsimp only [Option.toList, List.nil_append]
  refine zr_aload_n hC dX9_batches_288 rfl ?_
  refine zs_getr hC dX9_batches_289 fl_X9_7 (a := 245) (r := 246) rfl (by decide) ?_
  refine zk_iconst hC dX9_batches_292 (v := nI 1) (by decide +kernel) ?_
  refine zv_iald hC dX9_batches_293 (a := 246) (n := 752) rfl (by decide) (by decide) (j := 1) rfl (by decide) (g1.1.1.2.1) ?_
  refine zr_iload_n hC dX9_batches_294 rfl ?_
  refine zn_isub hC dX9_batches_295 (pk_sub (btc_61 D)) ?_
  exact zr_ireturn hC hE dX9_batches_296 (hr _ _ (hQ _ g1 ((((((hf1.up (by decide) (by decide)).tr (hf2.up (by decide) (by decide))).tr (hf3.up (by decide) (by decide))).tr (hf4.up (by decide) (by decide))).tr (hf5.up (by decide) (by decide))).tr ((zfrm.rf.put (by decide) (by decide)).tr (g2.up (by decide) (by decide))))))
