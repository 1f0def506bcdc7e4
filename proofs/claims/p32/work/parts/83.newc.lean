/-! THE LAW'S newcomer -/
theorem one_cms {E : zD} {m : Nat} (hm : m < 16) (h1 : one E m) : pcn 16 (cms E) = 1 := by
  show pcn 16 (dm (fun j => E 1 j == 1)) = 1
  rw [dm_one hm h1.1 (fun j hj e => by rw [h1.2 j hj e]; decide), pcn_pow m hm]
theorem one_lvs {D : zD} {m : Nat} (hm : m < 16) (w : WS D) : pcn 16 (lvs (dset D 1 m 2)) = 1 := by
  show pcn 16 (dm (fun j => dset D 1 m 2 1 j == 2)) = 1
  rw [dm_one hm (dset_at _ _ _ _) (fun j hj e => by rw [dset_k _ _ _ e, w.2.2.1 j hj]; decide), pcn_pow m hm]
theorem brf_lv {D : zD} {m : Nat} (hm : m < 16) (h60 : D 6 0 < 200) (h61 : D 6 1 < 160) : brf (dset D 1 m 2) = nI 0 := by
  unfold brf ful
  rw [if_neg (fun q => ?_), dset_ff _ _ _ (show 6 ≠ 1 by decide), if_neg (by omega)]
  have := dm_zero.mp q.2 m hm
  rw [dset_at] at this
  cases this
theorem pow_lt16 {m : Nat} (hm : m < 16) : 2 ^ m < 65536 := by
  show 2 ^ m < 2 ^ 16
  exact Nat.pow_lt_pow_right (by decide) hm
theorem lb_1 : nI (lbase 0 0 ^ 4) = nI 1 := by decide
theorem lb_2 : nI (lbase 0 1 ^ 4) = nI 1 := by decide
theorem lb_3 : nI (lbase 10 0 ^ 4) = nI 0 := by decide
theorem lb_4 : nI (lbase 5 1 ^ 4) = nI 16 := by decide
theorem WS.holds {D : zD} (w : WS D) {m : Nat} (hm : m < 16) (h0 : D 0 m ≠ 0) : hby D m (D 6 0) ≠ 0 := fun z => by
  have h2 := w.2.1.2.2.2 m hm h0
  have hl := w.1.leaf hm
  rw [(hby_0 _).mp z _ (w.1.live (v := D 0 m) (by omega) (by omega) (sm_of hm (bn_at _ (by omega) (by omega)).1)).1] at h2
  cases h2
set_option maxHeartbeats 1000000 in
set_option maxRecDepth 100000 in
theorem lL_nc1 {C : zCx} {τ : Nat → ClassId} {ι : Nat → Nat} (hC : zOK C τ (zrm 7 0 0) yL_newcomer.cls cL_newcomer 9) {G : zG} {m b : Nat} (hg : GI G) (hm : m < 16) (hk : ∀ k, k < G.1 6 0 → (opr G.1 (f0 G.1 (2 ^ m)) 232).1 k = true → b ≤ G.1 8 k) (k : ∀ S lv, CG S G → zsub lv [(0, .ref 0), (2, .int (nI m)), (4, .int (nI 1)), (5, .int (nI b))] → zR C τ ι 9 0 0 163 lv [] (zcells S)) : ∀ (n i : Nat) (S : zS), i + n = G.1 6 0 → CG S G → zR C τ ι 9 0 0 111 [(0, .ref 0), (2, .int (nI m)), (4, .int (nI 1)), (5, .int (nI b)), (6, .int (nI i))] [] (zcells S) := by
  intro n
  induction n with
  | zero =>
    intro i S hi hc
    have hb1 := hg.1.made
    refine zr_iload hC dL_newcomer_111 rfl ?_
    refine zr_aload_n hC dL_newcomer_113 rfl ?_
    refine zk_iconst hC dL_newcomer_114 (v := nI 4) (by decide +kernel) ?_
    refine zs_callV hC (b := 0) [_] [_] dL_newcomer_115 ml_L_37 mtX8_count tX8_count (by decide) (by decide) (by decide) rfl rfl (by decide) (by decide +kernel) (Nat.le_of_ble_eq_true rfl) rfl ?_
    refine ⟨G, _, rfl, hc, hg, fun S hc _ => ?_⟩
    rw [fc_4]
    dsimp only [Option.toList, List.cons_append, List.nil_append]
    refine zr_icmp_ge hC dL_newcomer_118 (tgt := 163) (by decide) (fun c_118 => ?_) (fun c => absurd c (not_not_intro (nI_le (by omega) (by omega))))
    exact k S _ hc ⟨rfl, rfl, rfl, rfl, trivial⟩
  | succ n ih =>
    intro i S hi hc
    have hb1 := hg.1.made
    cases ho : (opr G.1 (f0 G.1 (2 ^ m)) 232).1 i with
    | false =>
      refine zr_iload hC dL_newcomer_111 rfl ?_
      refine zr_aload_n hC dL_newcomer_113 rfl ?_
      refine zk_iconst hC dL_newcomer_114 (v := nI 4) (by decide +kernel) ?_
      refine zs_callV hC (b := 0) [_] [_] dL_newcomer_115 ml_L_37 mtX8_count tX8_count (by decide) (by decide) (by decide) rfl rfl (by decide) (by decide +kernel) (Nat.le_of_ble_eq_true rfl) rfl ?_
      refine ⟨G, _, rfl, hc, hg, fun S hc _ => ?_⟩
      rw [fc_4]
      dsimp only [Option.toList, List.cons_append, List.nil_append]
      refine zr_icmp_ge hC dL_newcomer_118 (tgt := 163) (by decide) (fun c => absurd c (nI_ge (by omega) (by omega))) (fun c_118 => ?_)
      refine zr_iload hC dL_newcomer_121 rfl ?_
      refine zr_if_eq hC dL_newcomer_123 (tgt := 163) (by decide) (fun c => absurd c (by decide +kernel)) (fun c_123 => ?_)
      refine zr_aload_n hC dL_newcomer_126 rfl ?_
      refine zk_iconst hC dL_newcomer_127 (v := nI 1) (by decide +kernel) ?_
      refine zr_iload_n hC dL_newcomer_128 rfl ?_
      refine zn_ishl hC dL_newcomer_129 (z_shl1 m (by omega)) ?_
      refine zr_iload hC dL_newcomer_130 rfl ?_
      refine zs_callV hC (b := 0) [_, _] [] dL_newcomer_132 ml_L_95 mtX8_opens tX8_opens (by decide) (by decide) (by decide) rfl rfl (by decide) (by decide +kernel) (Nat.le_of_ble_eq_true rfl) rfl ?_
      refine ⟨G, _, _, rfl, hc, hg, fun S hc _ => ?_⟩
      rw [fopn hg (pow_lt16 hm) (by omega), ho, show zb false = nI 0 from rfl]
      dsimp only [Option.toList, List.cons_append, List.nil_append]
      refine zr_if_eq hC dL_newcomer_135 (tgt := 150) (by decide) (fun c_135 => ?_) (fun c => absurd c (by decide +kernel))
      refine zk_iconst hC dL_newcomer_150 (v := nI 1) (by decide +kernel) ?_
      refine zr_goto hC dL_newcomer_151 (tgt := 155) (by decide) ?_
      refine zr_istore hC dL_newcomer_155 (by decide) ?_
      refine zn_iinc hC dL_newcomer_157 rfl (by decide) (zk_inc _ 1) ?_
      refine zr_goto hC dL_newcomer_160 (tgt := 111) (by decide) ?_
      exact zR_sub [(0, .ref 0), (2, .int (nI m)), (4, .int (nI 1)), (5, .int (nI b)), (6, .int (nI (i + 1)))] ⟨rfl, rfl, rfl, rfl, rfl, trivial⟩ (ih (i + 1) S (by omega) hc)
    | true =>
      refine zr_iload hC dL_newcomer_111 rfl ?_
      refine zr_aload_n hC dL_newcomer_113 rfl ?_
      refine zk_iconst hC dL_newcomer_114 (v := nI 4) (by decide +kernel) ?_
      refine zs_callV hC (b := 0) [_] [_] dL_newcomer_115 ml_L_37 mtX8_count tX8_count (by decide) (by decide) (by decide) rfl rfl (by decide) (by decide +kernel) (Nat.le_of_ble_eq_true rfl) rfl ?_
      refine ⟨G, _, rfl, hc, hg, fun S hc _ => ?_⟩
      rw [fc_4]
      dsimp only [Option.toList, List.cons_append, List.nil_append]
      refine zr_icmp_ge hC dL_newcomer_118 (tgt := 163) (by decide) (fun c => absurd c (nI_ge (by omega) (by omega))) (fun c_118 => ?_)
      refine zr_iload hC dL_newcomer_121 rfl ?_
      refine zr_if_eq hC dL_newcomer_123 (tgt := 163) (by decide) (fun c => absurd c (by decide +kernel)) (fun c_123 => ?_)
      refine zr_aload_n hC dL_newcomer_126 rfl ?_
      refine zk_iconst hC dL_newcomer_127 (v := nI 1) (by decide +kernel) ?_
      refine zr_iload_n hC dL_newcomer_128 rfl ?_
      refine zn_ishl hC dL_newcomer_129 (z_shl1 m (by omega)) ?_
      refine zr_iload hC dL_newcomer_130 rfl ?_
      refine zs_callV hC (b := 0) [_, _] [] dL_newcomer_132 ml_L_95 mtX8_opens tX8_opens (by decide) (by decide) (by decide) rfl rfl (by decide) (by decide +kernel) (Nat.le_of_ble_eq_true rfl) rfl ?_
      refine ⟨G, _, _, rfl, hc, hg, fun S hc _ => ?_⟩
      rw [fopn hg (pow_lt16 hm) (by omega), ho, show zb true = nI 1 from rfl]
      dsimp only [Option.toList, List.cons_append, List.nil_append]
      refine zr_if_eq hC dL_newcomer_135 (tgt := 150) (by decide) (fun c => absurd c (by decide +kernel)) (fun c_135 => ?_)
      refine zr_aload_n hC dL_newcomer_138 rfl ?_
      refine zr_iload hC dL_newcomer_139 rfl ?_
      refine zk_iconst hC dL_newcomer_141 (v := nI 1) (by decide +kernel) ?_
      refine zs_callV hC (b := 0) [_, _] [] dL_newcomer_142 ml_L_63 mtX8_key tX8_key (by decide) (by decide) (by decide) rfl rfl (by decide) (by decide +kernel) (Nat.le_of_ble_eq_true rfl) rfl ?_
      refine ⟨G, _, _, rfl, hc, hg, fun S hc _ => ?_⟩
      rw [fkey1 hg (by omega)]
      dsimp only [Option.toList, List.cons_append, List.nil_append]
      refine zr_iload hC dL_newcomer_145 rfl ?_
      refine zr_icmp_lt hC dL_newcomer_147 (tgt := 154) (by decide) (fun c => absurd c (nI_nlt (hk i (by omega) ho) (by have := (hg.1.keys (k := i) (by omega)).2.2.1; have := hg.1.batches; omega))) (fun c_147 => ?_)
      refine zk_iconst hC dL_newcomer_150 (v := nI 1) (by decide +kernel) ?_
      refine zr_goto hC dL_newcomer_151 (tgt := 155) (by decide) ?_
      refine zr_istore hC dL_newcomer_155 (by decide) ?_
      refine zn_iinc hC dL_newcomer_157 rfl (by decide) (zk_inc _ 1) ?_
      refine zr_goto hC dL_newcomer_160 (tgt := 111) (by decide) ?_
      exact zR_sub [(0, .ref 0), (2, .int (nI m)), (4, .int (nI 1)), (5, .int (nI b)), (6, .int (nI (i + 1)))] ⟨rfl, rfl, rfl, rfl, rfl, trivial⟩ (ih (i + 1) S (by omega) hc)
set_option maxHeartbeats 1000000 in
set_option maxRecDepth 100000 in
theorem lL_nc2 {C : zCx} {τ : Nat → ClassId} {ι : Nat → Nat} (hC : zOK C τ (zrm 7 0 0) yL_newcomer.cls cL_newcomer 9) {G : zG} {m b : Nat} (hg : GI G) (hm : m < 16) (hk : ∀ k, k < G.1 6 0 → (opr G.1 (f0 G.1 (2 ^ m)) 232).1 k = true → G.1 8 k = b) (k : ∀ S lv, CG S G → zsub lv [(0, .ref 0), (2, .int (nI m)), (4, .int (nI 1))] → zR C τ ι 9 0 0 333 lv [] (zcells S)) : ∀ (n i : Nat) (S : zS), i + n = G.1 6 0 → CG S G → zR C τ ι 9 0 0 284 [(0, .ref 0), (2, .int (nI m)), (4, .int (nI 1)), (5, .int (nI b)), (7, .int (nI (G.1 6 0))), (8, .int (nI i))] [] (zcells S) := by
  intro n
  induction n with
  | zero =>
    intro i S hi hc
    have hb1 := hg.1.made
    refine zr_iload hC dL_newcomer_284 rfl ?_
    refine zr_iload hC dL_newcomer_286 rfl ?_
    refine zr_icmp_ge hC dL_newcomer_288 (tgt := 333) (by decide) (fun c_288 => ?_) (fun c => absurd c (not_not_intro (nI_le (by omega) (by omega))))
    exact k S _ hc ⟨rfl, rfl, rfl, trivial⟩
  | succ n ih =>
    intro i S hi hc
    have hb1 := hg.1.made
    cases ho : (opr G.1 (f0 G.1 (2 ^ m)) 232).1 i with
    | false =>
      refine zr_iload hC dL_newcomer_284 rfl ?_
      refine zr_iload hC dL_newcomer_286 rfl ?_
      refine zr_icmp_ge hC dL_newcomer_288 (tgt := 333) (by decide) (fun c => absurd c (nI_ge (by omega) (by omega))) (fun c_288 => ?_)
      refine zr_iload hC dL_newcomer_291 rfl ?_
      refine zr_if_eq hC dL_newcomer_293 (tgt := 333) (by decide) (fun c => absurd c (by decide +kernel)) (fun c_293 => ?_)
      refine zr_aload_n hC dL_newcomer_296 rfl ?_
      refine zk_iconst hC dL_newcomer_297 (v := nI 1) (by decide +kernel) ?_
      refine zr_iload_n hC dL_newcomer_298 rfl ?_
      refine zn_ishl hC dL_newcomer_299 (z_shl1 m (by omega)) ?_
      refine zr_iload hC dL_newcomer_300 rfl ?_
      refine zs_callV hC (b := 0) [_, _] [] dL_newcomer_302 ml_L_95 mtX8_opens tX8_opens (by decide) (by decide) (by decide) rfl rfl (by decide) (by decide +kernel) (Nat.le_of_ble_eq_true rfl) rfl ?_
      refine ⟨G, _, _, rfl, hc, hg, fun S hc _ => ?_⟩
      rw [fopn hg (pow_lt16 hm) (by omega), ho, show zb false = nI 0 from rfl]
      dsimp only [Option.toList, List.cons_append, List.nil_append]
      refine zr_if_eq hC dL_newcomer_305 (tgt := 320) (by decide) (fun c_305 => ?_) (fun c => absurd c (by decide +kernel))
      refine zk_iconst hC dL_newcomer_320 (v := nI 1) (by decide +kernel) ?_
      refine zr_goto hC dL_newcomer_321 (tgt := 325) (by decide) ?_
      refine zr_istore hC dL_newcomer_325 (by decide) ?_
      refine zn_iinc hC dL_newcomer_327 rfl (by decide) (zk_inc _ 1) ?_
      refine zr_goto hC dL_newcomer_330 (tgt := 284) (by decide) ?_
      exact zR_sub [(0, .ref 0), (2, .int (nI m)), (4, .int (nI 1)), (5, .int (nI b)), (7, .int (nI (G.1 6 0))), (8, .int (nI (i + 1)))] ⟨rfl, rfl, rfl, rfl, rfl, rfl, trivial⟩ (ih (i + 1) S (by omega) hc)
    | true =>
      refine zr_iload hC dL_newcomer_284 rfl ?_
      refine zr_iload hC dL_newcomer_286 rfl ?_
      refine zr_icmp_ge hC dL_newcomer_288 (tgt := 333) (by decide) (fun c => absurd c (nI_ge (by omega) (by omega))) (fun c_288 => ?_)
      refine zr_iload hC dL_newcomer_291 rfl ?_
      refine zr_if_eq hC dL_newcomer_293 (tgt := 333) (by decide) (fun c => absurd c (by decide +kernel)) (fun c_293 => ?_)
      refine zr_aload_n hC dL_newcomer_296 rfl ?_
      refine zk_iconst hC dL_newcomer_297 (v := nI 1) (by decide +kernel) ?_
      refine zr_iload_n hC dL_newcomer_298 rfl ?_
      refine zn_ishl hC dL_newcomer_299 (z_shl1 m (by omega)) ?_
      refine zr_iload hC dL_newcomer_300 rfl ?_
      refine zs_callV hC (b := 0) [_, _] [] dL_newcomer_302 ml_L_95 mtX8_opens tX8_opens (by decide) (by decide) (by decide) rfl rfl (by decide) (by decide +kernel) (Nat.le_of_ble_eq_true rfl) rfl ?_
      refine ⟨G, _, _, rfl, hc, hg, fun S hc _ => ?_⟩
      rw [fopn hg (pow_lt16 hm) (by omega), ho, show zb true = nI 1 from rfl]
      dsimp only [Option.toList, List.cons_append, List.nil_append]
      refine zr_if_eq hC dL_newcomer_305 (tgt := 320) (by decide) (fun c => absurd c (by decide +kernel)) (fun c_305 => ?_)
      refine zr_aload_n hC dL_newcomer_308 rfl ?_
      refine zr_iload hC dL_newcomer_309 rfl ?_
      refine zk_iconst hC dL_newcomer_311 (v := nI 1) (by decide +kernel) ?_
      refine zs_callV hC (b := 0) [_, _] [] dL_newcomer_312 ml_L_63 mtX8_key tX8_key (by decide) (by decide) (by decide) rfl rfl (by decide) (by decide +kernel) (Nat.le_of_ble_eq_true rfl) rfl ?_
      refine ⟨G, _, _, rfl, hc, hg, fun S hc _ => ?_⟩
      rw [fkey1 hg (by omega), hk i (by omega) ho]
      dsimp only [Option.toList, List.cons_append, List.nil_append]
      refine zr_iload hC dL_newcomer_315 rfl ?_
      refine zr_icmp_ne hC dL_newcomer_317 (tgt := 324) (by decide) (fun c => absurd c (not_not_intro rfl)) (fun c_317 => ?_)
      refine zk_iconst hC dL_newcomer_320 (v := nI 1) (by decide +kernel) ?_
      refine zr_goto hC dL_newcomer_321 (tgt := 325) (by decide) ?_
      refine zr_istore hC dL_newcomer_325 (by decide) ?_
      refine zn_iinc hC dL_newcomer_327 rfl (by decide) (zk_inc _ 1) ?_
      refine zr_goto hC dL_newcomer_330 (tgt := 284) (by decide) ?_
      exact zR_sub [(0, .ref 0), (2, .int (nI m)), (4, .int (nI 1)), (5, .int (nI b)), (7, .int (nI (G.1 6 0))), (8, .int (nI (i + 1)))] ⟨rfl, rfl, rfl, rfl, rfl, rfl, trivial⟩ (ih (i + 1) S (by omega) hc)
def spL_newcomer : zSp := fun av S Q => ∃ (G : zG) (x : Nat), av = [.ref 0, .int (nI x)] ∧ x < 2147483648 ∧ CG S G ∧ GI G ∧ WS G.1 ∧ S3 G.1 ∧ ∀ S' G', CG S' G' → GI G' → WS G'.1 → G'.1 6 3 = G.1 6 3 → Q (some (.int (nI 1))) S'
set_option maxHeartbeats 1000000 in
set_option maxRecDepth 100000 in
theorem tL_newcomer : zM yL_newcomer cL_newcomer 9 (some .boolean) 7 spL_newcomer := by
  refine zM.of (by decide) (by decide) (fun av S Q h => by obtain ⟨G, x, rfl, hx, hc, hg, hw, hs3, hQ⟩ := h; exact Nat.le_of_ble_eq_true rfl) (fun C τ ι av S Q Qr h hr hC hE => ?_)
  obtain ⟨G, x, rfl, hx, hc, hg, hw, hs3, hQ⟩ := h
  have hb1 := hg.1.made
  have hb2 := hg.1.written
  have hb3 := hg.1.batches
  show zR C τ ι _ 0 0 0 [(0, .ref 0), (1, .int (nI x))] [] _
  refine zr_aload_n hC dL_newcomer_0 rfl ?_
  refine zk_iconst hC dL_newcomer_1 (v := nI 4) (by decide +kernel) ?_
  refine zs_callV hC (b := 0) [_] [] dL_newcomer_2 ml_L_37 mtX8_count tX8_count (by decide) (by decide) (by decide) rfl rfl (by decide) (by decide +kernel) (Nat.le_of_ble_eq_true rfl) rfl ?_
  refine ⟨G, _, rfl, hc, hg, fun S hc _ => ?_⟩
  rw [fc_4]
  dsimp only [Option.toList, List.cons_append, List.nil_append]
  refine zk_sipush hC dL_newcomer_5 (v := nI 150) (by decide +kernel) ?_
  refine zr_icmp_gt hC dL_newcomer_8 (tgt := 34) (by decide) (fun c_8 => ?_) (fun c_8 => ?_)
  · refine zk_iconst hC dL_newcomer_34 (v := nI 1) (by decide +kernel) ?_
    exact zr_zreturn hC hE dL_newcomer_35 (by first | exact Or.inl rfl | exact Or.inr rfl) (hr _ _ (hQ _ _ hc hg hw rfl))
  · rw [nI_ltI (by decide) (by omega)] at c_8
    refine zr_aload_n hC dL_newcomer_11 rfl ?_
    refine zk_iconst hC dL_newcomer_12 (v := nI 5) (by decide +kernel) ?_
    refine zs_callV hC (b := 0) [_] [] dL_newcomer_13 ml_L_37 mtX8_count tX8_count (by decide) (by decide) (by decide) rfl rfl (by decide) (by decide +kernel) (Nat.le_of_ble_eq_true rfl) rfl ?_
    refine ⟨G, _, rfl, hc, hg, fun S hc _ => ?_⟩
    rw [fc_5]
    dsimp only [Option.toList, List.cons_append, List.nil_append]
    refine zk_bipush hC dL_newcomer_16 (v := nI 110) (by decide +kernel) ?_
    refine zr_icmp_gt hC dL_newcomer_18 (tgt := 34) (by decide) (fun c_18 => ?_) (fun c_18 => ?_)
    · refine zk_iconst hC dL_newcomer_34 (v := nI 1) (by decide +kernel) ?_
      exact zr_zreturn hC hE dL_newcomer_35 (by first | exact Or.inl rfl | exact Or.inr rfl) (hr _ _ (hQ _ _ hc hg hw rfl))
    · rw [nI_ltI (by decide) (by omega)] at c_18
      refine zr_aload_n hC dL_newcomer_21 rfl ?_
      refine zk_iconst hC dL_newcomer_22 (v := nI 0) (by decide +kernel) ?_
      refine zs_callV hC (b := 0) [_] [] dL_newcomer_23 ml_L_37 mtX8_count tX8_count (by decide) (by decide) (by decide) rfl rfl (by decide) (by decide +kernel) (Nat.le_of_ble_eq_true rfl) rfl ?_
      refine ⟨G, _, rfl, hc, hg, fun S hc _ => ?_⟩
      rw [fc_0]
      dsimp only [Option.toList, List.cons_append, List.nil_append]
      refine zs_callS hC [_] [] dL_newcomer_26 ml_L_81 mtL_bits tL_bits (by decide) (by decide) (by decide) rfl (Nat.le_of_ble_eq_true rfl) rfl ?_
      refine ⟨_, rfl, sm_lt _ _, ?_⟩
      dsimp only [Option.toList, List.cons_append, List.nil_append]
      refine zk_bipush hC dL_newcomer_29 (v := nI 16) (by decide +kernel) ?_
      refine zr_icmp_ne hC dL_newcomer_31 (tgt := 36) (by decide) (fun c_31 => ?_) (fun c_31 => ?_)
      · refine zr_iload_n hC dL_newcomer_36 rfl ?_
        refine zk_bipush hC dL_newcomer_37 (v := nI 15) (by decide +kernel) ?_
        obtain ⟨m, em⟩ : ∃ m, x % 16 = m := ⟨_, rfl⟩
        have hm : m < 16 := by omega
        refine zn_iand hC dL_newcomer_39 (z_15m em) ?_
        refine zr_istore_n hC dL_newcomer_40 (by decide) ?_
        have hz0 := hby_lt32 (D := G.1) (m := m) (G.1 6 0)
        by_cases h0 : G.1 0 m = 0
        · by_cases hz : hby G.1 m (G.1 6 0) = 0
          · refine zr_aload_n hC dL_newcomer_41 rfl ?_
            refine zr_iload_n hC dL_newcomer_42 rfl ?_
            refine zk_iconst hC dL_newcomer_43 (v := nI 1) (by decide +kernel) ?_
            refine zs_callV hC (b := 0) [_, _] [] dL_newcomer_44 ml_L_91 mtX8_member tX8_member (by decide) (by decide) (by decide) rfl rfl (by decide) (by decide +kernel) (Nat.le_of_ble_eq_true rfl) rfl ?_
            refine ⟨G, _, _, rfl, hc, hg, fun S hc _ => ?_⟩
            rw [fmem1 hm, hz]
            dsimp only [Option.toList, List.cons_append, List.nil_append]
            refine zr_if_ne hC dL_newcomer_47 (tgt := 54) (by decide) (fun c => absurd c (by decide +kernel)) (fun c_47 => ?_)
            refine zk_iconst hC dL_newcomer_50 (v := nI 1) (by decide +kernel) ?_
            refine zr_goto hC dL_newcomer_51 (tgt := 55) (by decide) ?_
            refine zr_istore_n hC dL_newcomer_55 (by decide) ?_
            refine zr_aload_n hC dL_newcomer_56 rfl ?_
            refine zr_iload_n hC dL_newcomer_57 rfl ?_
            refine zk_iconst hC dL_newcomer_58 (v := nI 0) (by decide +kernel) ?_
            refine zs_callV hC (b := 0) [_, _] [] dL_newcomer_59 ml_L_91 mtX8_member tX8_member (by decide) (by decide) (by decide) rfl rfl (by decide) (by decide +kernel) (Nat.le_of_ble_eq_true rfl) rfl ?_
            refine ⟨G, _, _, rfl, hc, hg, fun S hc _ => ?_⟩
            rw [fmem0 hm, if_neg (fun z => z h0)]
            dsimp only [Option.toList, List.cons_append, List.nil_append]
            refine zk_bipush hC dL_newcomer_62 (v := (-4)) (by decide +kernel) ?_
            refine zr_icmp_ne hC dL_newcomer_64 (tgt := 84) (by decide) (fun c => absurd c (not_not_intro rfl)) (fun c_64 => ?_)
            refine zr_aload_n hC dL_newcomer_67 rfl ?_
            refine zr_iload_n hC dL_newcomer_68 rfl ?_
            refine zs_callV hC (b := 0) [_] [] dL_newcomer_69 ml_L_70 mtX8_come tX8_come (by decide) (by decide) (by decide) rfl rfl (by decide) (by decide +kernel) (Nat.le_of_ble_eq_true rfl) rfl ?_
            refine ⟨G, _, rfl, hc, hg, fun S hc _ => ?_⟩
            rw [fcom hm ⟨h0, by rw [hw.2.2.1 m hm]; decide⟩] at hc ⊢
            obtain ⟨i1, i2, i3, i4⟩ := come_ok hw h0
            have i5 := hs3.told (m := m) (x := 1)
            have e6 : dset G.1 1 m 1 6 = G.1 6 := dset_ff _ _ _ (by decide)
            have e9 : dset G.1 1 m 1 9 = G.1 9 := dset_ff _ _ _ (by decide)
            have e60 := congrFun e6 0
            have e61 := congrFun e6 1
            obtain ⟨E, hE1⟩ : ∃ E, E = dset G.1 1 m 1 := ⟨_, rfl⟩
            rw [← hE1] at hc i1 i2 i3 i4 i5 e6 e9 e60 e61 ⊢
            have hg := hg.kp.set i1
            have hb : brf E = nI 0 := one_brf hm i2.1 (by rw [e6]; omega) (by rw [e6]; omega)
            obtain ⟨⟨q1, q2, q3, q4⟩, q5, q6⟩ := bq i1 hb
            have hB := bt_BT i1
            have n4 := one_ge4 i1 hB (i1.btc1 hb) hm i2.1
            have n8 := one_eight i1 hB hm i2
            have n5 := one_five i1 hB hm i2
            have g6 : btc E 6 = btB E 6 := btc_f (by decide) (by decide)
            rw [← g6] at n4 n8 n5
            rw [one_cms hm i2]
            dsimp only [Option.toList, List.cons_append, List.nil_append]
            refine zk_iconst hC dL_newcomer_72 (v := nI 1) (by decide +kernel) ?_
            refine zr_icmp_ne hC dL_newcomer_73 (tgt := 88) (by decide) (fun c => absurd c (by decide +kernel)) (fun c_73 => ?_)
            refine zr_aload_n hC dL_newcomer_76 rfl ?_
            refine zs_callV hC (b := 0) [] [] dL_newcomer_77 ml_L_76 mtX8_batch tX8_batch (by decide) (by decide) (by decide) rfl rfl (by decide) (by decide +kernel) (Nat.le_of_ble_eq_true rfl) rfl ?_
            refine ⟨gset (gkp G) E, rfl, hc, hg, fun S hc _ => ?_⟩
            rw [fbat (G := gset (gkp G) E) (by rw [gset_1]; exact hb), gset_1] at hc ⊢
            have hw := btc_WS i1 hb i3 i4
            have hg := hg.kp.set (i1.btc hb)
            obtain ⟨H, hH⟩ : ∃ H, H = gset (gkp (gset (gkp G) E)) (btc E) := ⟨_, rfl⟩
            rw [← hH] at hc hg
            have hH1 : H.1 = btc E := by rw [hH, gset_1]
            dsimp only [Option.toList, List.cons_append, List.nil_append]
            refine zk_iconst hC dL_newcomer_80 (v := nI 4) (by decide +kernel) ?_
            refine zr_icmp_lt hC dL_newcomer_81 (tgt := 88) (by decide) (fun c => absurd c (nI_nlt (by omega) (by omega))) (fun c_81 => ?_)
            refine zk_iconst hC dL_newcomer_84 (v := nI 1) (by decide +kernel) ?_
            refine zr_goto hC dL_newcomer_85 (tgt := 89) (by decide) ?_
            refine zr_istore hC dL_newcomer_89 (by decide) ?_
            refine zr_iload_n hC dL_newcomer_91 rfl ?_
            refine zr_if_ne hC dL_newcomer_92 (tgt := 98) (by decide) (fun c_92 => ?_) (fun c => absurd c (by decide +kernel))
            have hf : ∀ k, k < E 6 0 → hd E m k = false := fun k hk => by
              show (E 9 k).testBit m = false
              rw [e9]; rw [e6] at hk; exact (hby_0 _).mp hz k hk
            have hsit := nc_lf i1 hb hm i2
            rw [← hH1] at hw hsit
            refine zr_aload_n hC dL_newcomer_98 rfl ?_
            refine zk_bipush hC dL_newcomer_99 (v := nI 6) (by decide +kernel) ?_
            refine zs_callV hC (b := 0) [_] [] dL_newcomer_101 ml_L_37 mtX8_count tX8_count (by decide) (by decide) (by decide) rfl rfl (by decide) (by decide +kernel) (Nat.le_of_ble_eq_true rfl) rfl ?_
            refine ⟨H, _, rfl, hc, hg, fun S hc _ => ?_⟩
            rw [fc_6, hH1, q2]
            dsimp only [Option.toList, List.cons_append, List.nil_append]
            refine zk_iconst hC dL_newcomer_104 (v := nI 1) (by decide +kernel) ?_
            refine zn_isub hC dL_newcomer_105 (pk_sub (by omega)) ?_
            refine zr_istore hC dL_newcomer_106 (by decide) ?_
            refine zk_iconst hC dL_newcomer_108 (v := nI 0) (by decide +kernel) ?_
            refine zr_istore hC dL_newcomer_109 (by decide) ?_
            rw [Nat.add_sub_cancel]
            refine zR_sub [(0, .ref 0), (2, .int (nI m)), (4, .int (nI 1)), (5, .int (nI (E 6 2))), (6, .int (nI 0))] ⟨rfl, rfl, rfl, rfl, rfl, trivial⟩ ?_
            refine lL_nc1 hC hg hm (fun k hk ho => by rw [hH1] at hk ho ⊢; exact nc_1 i1 hb i5 hm i2 hf hk ho) (fun S lv hc h => ?_) (H.1 6 0) 0 S (Nat.zero_add _) hc
            obtain ⟨v0, v2, v4, v5, -⟩ := h
            refine zR_sub [(0, .ref 0), (2, .int (nI m)), (4, .int (nI 1)), (5, .int (nI (E 6 2)))] ⟨v0, v2, v4, v5, trivial⟩ ?_
            have hlk := nc_2 i1 hb hm i2
            rw [← hH1] at hlk
            refine zr_aload_n hC dL_newcomer_163 rfl ?_
            refine zk_iconst hC dL_newcomer_164 (v := nI 5) (by decide +kernel) ?_
            refine zs_callV hC (b := 0) [_] [] dL_newcomer_165 ml_L_37 mtX8_count tX8_count (by decide) (by decide) (by decide) rfl rfl (by decide) (by decide +kernel) (Nat.le_of_ble_eq_true rfl) rfl ?_
            refine ⟨H, _, rfl, hc, hg, fun S hc _ => ?_⟩
            rw [fc_5]
            dsimp only [Option.toList, List.cons_append, List.nil_append]
            refine zk_iconst hC dL_newcomer_168 (v := nI 1) (by decide +kernel) ?_
            refine zn_isub hC dL_newcomer_169 (pk_sub (by rw [hH1]; omega)) ?_
            refine zr_istore hC dL_newcomer_170 (by decide) ?_
            refine zr_iload hC dL_newcomer_172 rfl ?_
            refine zr_if_eq hC dL_newcomer_174 (tgt := 271) (by decide) (fun c => absurd c (by decide +kernel)) (fun c_174 => ?_)
            refine zr_aload_n hC dL_newcomer_177 rfl ?_
            refine zr_iload_n hC dL_newcomer_178 rfl ?_
            refine zk_iconst hC dL_newcomer_179 (v := nI 0) (by decide +kernel) ?_
            refine zk_iconst hC dL_newcomer_180 (v := nI 0) (by decide +kernel) ?_
            refine zs_callV hC (b := 0) [_, _, _] [] dL_newcomer_181 ml_L_101 mtX8_luck tX8_luck (by decide) (by decide) (by decide) rfl rfl (by decide) (by decide +kernel) (Nat.le_of_ble_eq_true rfl) rfl ?_
            refine ⟨H, _, _, _, rfl, hc, hg, fun S hc _ => ?_⟩
            rw [flck hm (by decide) (by decide), if_pos hsit, hlk, lb_1]
            dsimp only [Option.toList, List.cons_append, List.nil_append]
            refine zk_iconst hC dL_newcomer_184 (v := nI 1) (by decide +kernel) ?_
            refine zr_icmp_ne hC dL_newcomer_185 (tgt := 271) (by decide) (fun c => absurd c (by decide +kernel)) (fun c_185 => ?_)
            refine zr_aload_n hC dL_newcomer_188 rfl ?_
            refine zr_iload_n hC dL_newcomer_189 rfl ?_
            refine zk_iconst hC dL_newcomer_190 (v := nI 0) (by decide +kernel) ?_
            refine zk_iconst hC dL_newcomer_191 (v := nI 1) (by decide +kernel) ?_
            refine zs_callV hC (b := 0) [_, _, _] [] dL_newcomer_192 ml_L_101 mtX8_luck tX8_luck (by decide) (by decide) (by decide) rfl rfl (by decide) (by decide +kernel) (Nat.le_of_ble_eq_true rfl) rfl ?_
            refine ⟨H, _, _, _, rfl, hc, hg, fun S hc _ => ?_⟩
            rw [flck hm (by decide) (by decide), if_pos hsit, hlk, lb_2]
            dsimp only [Option.toList, List.cons_append, List.nil_append]
            refine zk_iconst hC dL_newcomer_195 (v := nI 1) (by decide +kernel) ?_
            refine zr_icmp_ne hC dL_newcomer_196 (tgt := 271) (by decide) (fun c => absurd c (by decide +kernel)) (fun c_196 => ?_)
            refine zr_aload_n hC dL_newcomer_199 rfl ?_
            refine zr_iload_n hC dL_newcomer_200 rfl ?_
            refine zk_bipush hC dL_newcomer_201 (v := nI 10) (by decide +kernel) ?_
            refine zk_iconst hC dL_newcomer_203 (v := nI 0) (by decide +kernel) ?_
            refine zs_callV hC (b := 0) [_, _, _] [] dL_newcomer_204 ml_L_101 mtX8_luck tX8_luck (by decide) (by decide) (by decide) rfl rfl (by decide) (by decide +kernel) (Nat.le_of_ble_eq_true rfl) rfl ?_
            refine ⟨H, _, _, _, rfl, hc, hg, fun S hc _ => ?_⟩
            rw [flck hm (by decide) (by decide), if_pos hsit, hlk, lb_3]
            dsimp only [Option.toList, List.cons_append, List.nil_append]
            refine zr_if_ne hC dL_newcomer_207 (tgt := 271) (by decide) (fun c => absurd c (by decide +kernel)) (fun c_207 => ?_)
            refine zr_aload_n hC dL_newcomer_210 rfl ?_
            refine zr_iload_n hC dL_newcomer_211 rfl ?_
            refine zk_iconst hC dL_newcomer_212 (v := nI 5) (by decide +kernel) ?_
            refine zk_iconst hC dL_newcomer_213 (v := nI 1) (by decide +kernel) ?_
            refine zs_callV hC (b := 0) [_, _, _] [] dL_newcomer_214 ml_L_101 mtX8_luck tX8_luck (by decide) (by decide) (by decide) rfl rfl (by decide) (by decide +kernel) (Nat.le_of_ble_eq_true rfl) rfl ?_
            refine ⟨H, _, _, _, rfl, hc, hg, fun S hc _ => ?_⟩
            rw [flck hm (by decide) (by decide), if_pos hsit, hlk, lb_4]
            dsimp only [Option.toList, List.cons_append, List.nil_append]
            refine zk_bipush hC dL_newcomer_217 (v := nI 16) (by decide +kernel) ?_
            refine zr_icmp_ne hC dL_newcomer_219 (tgt := 271) (by decide) (fun c => absurd c (by decide +kernel)) (fun c_219 => ?_)
            refine zr_iload hC dL_newcomer_222 rfl ?_
            refine zk_bipush hC dL_newcomer_224 (v := nI 9) (by decide +kernel) ?_
            refine zr_icmp_lt hC dL_newcomer_226 (tgt := 239) (by decide) (fun c_226 => ?_) (fun c_226 => ?_)
            · refine zr_aload_n hC dL_newcomer_239 rfl ?_
              refine zr_iload_n hC dL_newcomer_240 rfl ?_
              refine zs_callV hC (b := 0) [_] [] dL_newcomer_241 ml_L_88 mtX8_leave tX8_leave (by decide) (by decide) (by decide) rfl rfl (by decide) (by decide +kernel) (Nat.le_of_ble_eq_true rfl) rfl ?_
              refine ⟨H, _, rfl, hc, hg, fun S hc _ => ?_⟩
              rw [flea hm ⟨hsit, by rw [hw.2.2.1 m hm]; decide⟩] at hc ⊢
              obtain ⟨j1, j2, j3⟩ := leave_ok hw hsit
              have hb2 : brf (dset H.1 1 m 2) = nI 0 := brf_lv hm (by rw [hH1]; omega) (by rw [hH1]; omega)
              rw [one_lvs hm hw]
              have hg := hg.kp.set j1
              dsimp only [Option.toList, List.cons_append, List.nil_append]
              refine zk_iconst hC dL_newcomer_244 (v := nI 1) (by decide +kernel) ?_
              refine zr_icmp_ne hC dL_newcomer_245 (tgt := 271) (by decide) (fun c => absurd c (by decide +kernel)) (fun c_245 => ?_)
              refine zr_aload_n hC dL_newcomer_248 rfl ?_
              refine zs_callV hC (b := 0) [] [] dL_newcomer_249 ml_L_76 mtX8_batch tX8_batch (by decide) (by decide) (by decide) rfl rfl (by decide) (by decide +kernel) (Nat.le_of_ble_eq_true rfl) rfl ?_
              refine ⟨gset (gkp H) (dset H.1 1 m 2), rfl, hc, hg, fun S hc _ => ?_⟩
              rw [fbat (G := gset (gkp H) (dset H.1 1 m 2)) (by rw [gset_1]; exact hb2), gset_1] at hc ⊢
              have hw2 := btc_WS j1 hb2 j2 j3
              have hg := hg.kp.set (j1.btc hb2)
              have hdr := (bq j1 hb2).1.2.2.2
              have hlf : lfD (dset H.1 1 m 2) m = 0 := by
                have e1 : dset H.1 1 m 2 1 m = 2 := dset_at _ _ _ _
                rcases mvD_at j1 hm with z | z | z
                · omega
                · exact z.2
                · omega
              have h00 : btc (dset H.1 1 m 2) 0 m = 0 := by rw [btc_f (by decide) (by decide), (bt_BT j1).1.1]; exact hlf
              have hk4 : ∀ k, k < btc (dset H.1 1 m 2) 6 0 → (opr (btc (dset H.1 1 m 2)) (f0 (btc (dset H.1 1 m 2)) (2 ^ m)) 232).1 k = true → btc (dset H.1 1 m 2) 8 k = E 6 2 := fun k hk ho => by
                rw [hH1] at hk ho hb2 ⊢
                exact nc_4 i1 hb i5 hm i2 hf hb2 hk ho
              have hk5 : sm (btc (dset H.1 1 m 2) 0) 1 ≠ 0 → (opr (btc (dset H.1 1 m 2)) (f0 (btc (dset H.1 1 m 2)) (2 ^ m)) 232).1 (key (btc (dset H.1 1 m 2)) 1) = false := fun hl => by
                rw [hH1] at hl hb2 ⊢
                exact nc_5 i1 hb i5 hm i2 hf hb2 hl
              have hd0 : dset H.1 1 m 2 6 = btc E 6 := by rw [dset_ff _ _ _ (show 6 ≠ 1 by decide), hH1]
              obtain ⟨K, hK⟩ : ∃ K, K = gset (gkp (gset (gkp H) (dset H.1 1 m 2))) (btc (dset H.1 1 m 2)) := ⟨_, rfl⟩
              rw [← hK] at hc hg
              have hK1 : K.1 = btc (dset H.1 1 m 2) := by rw [hK, gset_1]
              have hsub := j1.btc hb2
              rw [← hK1] at hw2 h00 hk4 hk5 hdr hsub ⊢
              have hkw := hg.1.written
              dsimp only [Option.toList, List.cons_append, List.nil_append]
              refine zr_if_lt hC dL_newcomer_252 (tgt := 271) (by decide) (fun c => absurd c (nI_pos (by omega))) (fun c_252 => ?_)
              refine zr_aload_n hC dL_newcomer_255 rfl ?_
              refine zr_iload_n hC dL_newcomer_256 rfl ?_
              refine zk_iconst hC dL_newcomer_257 (v := nI 0) (by decide +kernel) ?_
              refine zk_iconst hC dL_newcomer_258 (v := nI 0) (by decide +kernel) ?_
              refine zs_callV hC (b := 0) [_, _, _] [] dL_newcomer_259 ml_L_101 mtX8_luck tX8_luck (by decide) (by decide) (by decide) rfl rfl (by decide) (by decide +kernel) (Nat.le_of_ble_eq_true rfl) rfl ?_
              refine ⟨K, _, _, _, rfl, hc, hg, fun S hc _ => ?_⟩
              rw [flck hm (by decide) (by decide), if_neg (fun z => z h00)]
              dsimp only [Option.toList, List.cons_append, List.nil_append]
              refine zk_bipush hC dL_newcomer_262 (v := (-2)) (by decide +kernel) ?_
              refine zr_icmp_ne hC dL_newcomer_264 (tgt := 271) (by decide) (fun c => absurd c (not_not_intro rfl)) (fun c_264 => ?_)
              refine zk_iconst hC dL_newcomer_267 (v := nI 1) (by decide +kernel) ?_
              refine zr_goto hC dL_newcomer_268 (tgt := 272) (by decide) ?_
              refine zr_istore hC dL_newcomer_272 (by decide) ?_
              refine zr_aload_n hC dL_newcomer_274 rfl ?_
              refine zk_iconst hC dL_newcomer_275 (v := nI 4) (by decide +kernel) ?_
              refine zs_callV hC (b := 0) [_] [] dL_newcomer_276 ml_L_37 mtX8_count tX8_count (by decide) (by decide) (by decide) rfl rfl (by decide) (by decide +kernel) (Nat.le_of_ble_eq_true rfl) rfl ?_
              refine ⟨K, _, rfl, hc, hg, fun S hc _ => ?_⟩
              rw [fc_4]
              dsimp only [Option.toList, List.cons_append, List.nil_append]
              refine zr_istore hC dL_newcomer_279 (by decide) ?_
              refine zk_iconst hC dL_newcomer_281 (v := nI 0) (by decide +kernel) ?_
              refine zr_istore hC dL_newcomer_282 (by decide) ?_
              refine zR_sub [(0, .ref 0), (2, .int (nI m)), (4, .int (nI 1)), (5, .int (nI (E 6 2))), (7, .int (nI (K.1 6 0))), (8, .int (nI 0))] ⟨rfl, rfl, rfl, rfl, rfl, rfl, trivial⟩ ?_
              refine lL_nc2 hC hg hm hk4 (fun S lv hc h => ?_) (K.1 6 0) 0 S (Nat.zero_add _) hc
              obtain ⟨v0, v2, v4, -⟩ := h
              refine zR_sub [(0, .ref 0), (2, .int (nI m)), (4, .int (nI 1))] ⟨v0, v2, v4, trivial⟩ ?_
              by_cases hl1 : sm (K.1 0) 1 = 0
              · refine zr_iload hC dL_newcomer_333 rfl ?_
                refine zr_if_eq hC dL_newcomer_335 (tgt := 367) (by decide) (fun c => absurd c (by decide +kernel)) (fun c_335 => ?_)
                refine zr_aload_n hC dL_newcomer_338 rfl ?_
                refine zk_iconst hC dL_newcomer_339 (v := nI 1) (by decide +kernel) ?_
                refine zk_iconst hC dL_newcomer_340 (v := nI 0) (by decide +kernel) ?_
                refine zs_callV hC (b := 0) [_, _] [] dL_newcomer_341 ml_L_78 mtX8_node tX8_node (by decide) (by decide) (by decide) rfl rfl (by decide) (by decide +kernel) (Nat.le_of_ble_eq_true rfl) rfl ?_
                refine ⟨K, _, _, rfl, hc, hg, fun S hc _ => ?_⟩
                rw [fnod0 (by decide) (by decide), kof, if_pos hl1]
                dsimp only [Option.toList, List.cons_append, List.nil_append]
                refine zr_if_lt hC dL_newcomer_344 (tgt := 363) (by decide) (fun c_344 => ?_) (fun c => absurd c (not_not_intro m4_lt0))
                refine zk_iconst hC dL_newcomer_363 (v := nI 1) (by decide +kernel) ?_
                refine zr_goto hC dL_newcomer_364 (tgt := 368) (by decide) ?_
                exact zr_zreturn hC hE dL_newcomer_368 (by first | exact Or.inl rfl | exact Or.inr rfl) (hr _ _ (hQ _ _ hc hg hw2 (by rw [hdr, hd0, q4, e6])))
              · have hk1 := (hg.1.live (v := 1) (by decide) (by decide) hl1).1
                refine zr_iload hC dL_newcomer_333 rfl ?_
                refine zr_if_eq hC dL_newcomer_335 (tgt := 367) (by decide) (fun c => absurd c (by decide +kernel)) (fun c_335 => ?_)
                refine zr_aload_n hC dL_newcomer_338 rfl ?_
                refine zk_iconst hC dL_newcomer_339 (v := nI 1) (by decide +kernel) ?_
                refine zk_iconst hC dL_newcomer_340 (v := nI 0) (by decide +kernel) ?_
                refine zs_callV hC (b := 0) [_, _] [] dL_newcomer_341 ml_L_78 mtX8_node tX8_node (by decide) (by decide) (by decide) rfl rfl (by decide) (by decide +kernel) (Nat.le_of_ble_eq_true rfl) rfl ?_
                refine ⟨K, _, _, rfl, hc, hg, fun S hc _ => ?_⟩
                rw [fnod0 (by decide) (by decide), kof, if_neg hl1]
                dsimp only [Option.toList, List.cons_append, List.nil_append]
                refine zr_if_lt hC dL_newcomer_344 (tgt := 363) (by decide) (fun c => absurd c (nI_pos (by have := hg.1.made; omega))) (fun c_344 => ?_)
                refine zr_aload_n hC dL_newcomer_347 rfl ?_
                refine zk_iconst hC dL_newcomer_348 (v := nI 1) (by decide +kernel) ?_
                refine zr_iload_n hC dL_newcomer_349 rfl ?_
                refine zn_ishl hC dL_newcomer_350 (z_shl1 m (by omega)) ?_
                refine zr_aload_n hC dL_newcomer_351 rfl ?_
                refine zk_iconst hC dL_newcomer_352 (v := nI 1) (by decide +kernel) ?_
                refine zk_iconst hC dL_newcomer_353 (v := nI 0) (by decide +kernel) ?_
                refine zs_callV hC (b := 0) [_, _] [_, _] dL_newcomer_354 ml_L_78 mtX8_node tX8_node (by decide) (by decide) (by decide) rfl rfl (by decide) (by decide +kernel) (Nat.le_of_ble_eq_true rfl) rfl ?_
                refine ⟨K, _, _, rfl, hc, hg, fun S hc _ => ?_⟩
                rw [fnod0 (by decide) (by decide), kof, if_neg hl1]
                dsimp only [Option.toList, List.cons_append, List.nil_append]
                refine zs_callV hC (b := 0) [_, _] [] dL_newcomer_357 ml_L_95 mtX8_opens tX8_opens (by decide) (by decide) (by decide) rfl rfl (by decide) (by decide +kernel) (Nat.le_of_ble_eq_true rfl) rfl ?_
                refine ⟨K, _, _, rfl, hc, hg, fun S hc _ => ?_⟩
                rw [fopn hg (pow_lt16 hm) hk1, hk5 hl1, show zb false = nI 0 from rfl]
                dsimp only [Option.toList, List.cons_append, List.nil_append]
                refine zr_if_ne hC dL_newcomer_360 (tgt := 367) (by decide) (fun c => absurd c (by decide +kernel)) (fun c_360 => ?_)
                refine zk_iconst hC dL_newcomer_363 (v := nI 1) (by decide +kernel) ?_
                refine zr_goto hC dL_newcomer_364 (tgt := 368) (by decide) ?_
                exact zr_zreturn hC hE dL_newcomer_368 (by first | exact Or.inl rfl | exact Or.inr rfl) (hr _ _ (hQ _ _ hc hg hw2 (by rw [hdr, hd0, q4, e6])))
            · rw [nI_ltI (by have := hg.1.written; omega) (by decide)] at c_226
              refine zr_aload_n hC dL_newcomer_229 rfl ?_
              refine zr_iload_n hC dL_newcomer_230 rfl ?_
              refine zk_iconst hC dL_newcomer_231 (v := nI 0) (by decide +kernel) ?_
              refine zs_callV hC (b := 0) [_, _] [] dL_newcomer_232 ml_L_98 mtX8_why tX8_why (by decide) (by decide) (by decide) rfl rfl (by decide) (by decide +kernel) (Nat.le_of_ble_eq_true rfl) rfl ?_
              refine ⟨H, _, _, rfl, hc, hg, fun S hc _ => ?_⟩
              rw [fwhy hg hm (by rw [hH1] at c_226 ⊢; omega), hH1, nc_3 i1 hm i2 hf (by rw [hH1] at c_226; omega)]
              dsimp only [Option.toList, List.cons_append, List.nil_append]
              refine zk_iconst hC dL_newcomer_235 (v := nI 2) (by decide +kernel) ?_
              refine zr_icmp_ne hC dL_newcomer_236 (tgt := 271) (by decide) (fun c => absurd c (by decide +kernel)) (fun c_236 => ?_)
              refine zr_aload_n hC dL_newcomer_239 rfl ?_
              refine zr_iload_n hC dL_newcomer_240 rfl ?_
              refine zs_callV hC (b := 0) [_] [] dL_newcomer_241 ml_L_88 mtX8_leave tX8_leave (by decide) (by decide) (by decide) rfl rfl (by decide) (by decide +kernel) (Nat.le_of_ble_eq_true rfl) rfl ?_
              refine ⟨H, _, rfl, hc, hg, fun S hc _ => ?_⟩
              rw [flea hm ⟨hsit, by rw [hw.2.2.1 m hm]; decide⟩] at hc ⊢
              obtain ⟨j1, j2, j3⟩ := leave_ok hw hsit
              have hb2 : brf (dset H.1 1 m 2) = nI 0 := brf_lv hm (by rw [hH1]; omega) (by rw [hH1]; omega)
              rw [one_lvs hm hw]
              have hg := hg.kp.set j1
              dsimp only [Option.toList, List.cons_append, List.nil_append]
              refine zk_iconst hC dL_newcomer_244 (v := nI 1) (by decide +kernel) ?_
              refine zr_icmp_ne hC dL_newcomer_245 (tgt := 271) (by decide) (fun c => absurd c (by decide +kernel)) (fun c_245 => ?_)
              refine zr_aload_n hC dL_newcomer_248 rfl ?_
              refine zs_callV hC (b := 0) [] [] dL_newcomer_249 ml_L_76 mtX8_batch tX8_batch (by decide) (by decide) (by decide) rfl rfl (by decide) (by decide +kernel) (Nat.le_of_ble_eq_true rfl) rfl ?_
              refine ⟨gset (gkp H) (dset H.1 1 m 2), rfl, hc, hg, fun S hc _ => ?_⟩
              rw [fbat (G := gset (gkp H) (dset H.1 1 m 2)) (by rw [gset_1]; exact hb2), gset_1] at hc ⊢
              have hw2 := btc_WS j1 hb2 j2 j3
              have hg := hg.kp.set (j1.btc hb2)
              have hdr := (bq j1 hb2).1.2.2.2
              have hlf : lfD (dset H.1 1 m 2) m = 0 := by
                have e1 : dset H.1 1 m 2 1 m = 2 := dset_at _ _ _ _
                rcases mvD_at j1 hm with z | z | z
                · omega
                · exact z.2
                · omega
              have h00 : btc (dset H.1 1 m 2) 0 m = 0 := by rw [btc_f (by decide) (by decide), (bt_BT j1).1.1]; exact hlf
              have hk4 : ∀ k, k < btc (dset H.1 1 m 2) 6 0 → (opr (btc (dset H.1 1 m 2)) (f0 (btc (dset H.1 1 m 2)) (2 ^ m)) 232).1 k = true → btc (dset H.1 1 m 2) 8 k = E 6 2 := fun k hk ho => by
                rw [hH1] at hk ho hb2 ⊢
                exact nc_4 i1 hb i5 hm i2 hf hb2 hk ho
              have hk5 : sm (btc (dset H.1 1 m 2) 0) 1 ≠ 0 → (opr (btc (dset H.1 1 m 2)) (f0 (btc (dset H.1 1 m 2)) (2 ^ m)) 232).1 (key (btc (dset H.1 1 m 2)) 1) = false := fun hl => by
                rw [hH1] at hl hb2 ⊢
                exact nc_5 i1 hb i5 hm i2 hf hb2 hl
              have hd0 : dset H.1 1 m 2 6 = btc E 6 := by rw [dset_ff _ _ _ (show 6 ≠ 1 by decide), hH1]
              obtain ⟨K, hK⟩ : ∃ K, K = gset (gkp (gset (gkp H) (dset H.1 1 m 2))) (btc (dset H.1 1 m 2)) := ⟨_, rfl⟩
              rw [← hK] at hc hg
              have hK1 : K.1 = btc (dset H.1 1 m 2) := by rw [hK, gset_1]
              have hsub := j1.btc hb2
              rw [← hK1] at hw2 h00 hk4 hk5 hdr hsub ⊢
              have hkw := hg.1.written
              dsimp only [Option.toList, List.cons_append, List.nil_append]
              refine zr_if_lt hC dL_newcomer_252 (tgt := 271) (by decide) (fun c => absurd c (nI_pos (by omega))) (fun c_252 => ?_)
              refine zr_aload_n hC dL_newcomer_255 rfl ?_
              refine zr_iload_n hC dL_newcomer_256 rfl ?_
              refine zk_iconst hC dL_newcomer_257 (v := nI 0) (by decide +kernel) ?_
              refine zk_iconst hC dL_newcomer_258 (v := nI 0) (by decide +kernel) ?_
              refine zs_callV hC (b := 0) [_, _, _] [] dL_newcomer_259 ml_L_101 mtX8_luck tX8_luck (by decide) (by decide) (by decide) rfl rfl (by decide) (by decide +kernel) (Nat.le_of_ble_eq_true rfl) rfl ?_
              refine ⟨K, _, _, _, rfl, hc, hg, fun S hc _ => ?_⟩
              rw [flck hm (by decide) (by decide), if_neg (fun z => z h00)]
              dsimp only [Option.toList, List.cons_append, List.nil_append]
              refine zk_bipush hC dL_newcomer_262 (v := (-2)) (by decide +kernel) ?_
              refine zr_icmp_ne hC dL_newcomer_264 (tgt := 271) (by decide) (fun c => absurd c (not_not_intro rfl)) (fun c_264 => ?_)
              refine zk_iconst hC dL_newcomer_267 (v := nI 1) (by decide +kernel) ?_
              refine zr_goto hC dL_newcomer_268 (tgt := 272) (by decide) ?_
              refine zr_istore hC dL_newcomer_272 (by decide) ?_
              refine zr_aload_n hC dL_newcomer_274 rfl ?_
              refine zk_iconst hC dL_newcomer_275 (v := nI 4) (by decide +kernel) ?_
              refine zs_callV hC (b := 0) [_] [] dL_newcomer_276 ml_L_37 mtX8_count tX8_count (by decide) (by decide) (by decide) rfl rfl (by decide) (by decide +kernel) (Nat.le_of_ble_eq_true rfl) rfl ?_
              refine ⟨K, _, rfl, hc, hg, fun S hc _ => ?_⟩
              rw [fc_4]
              dsimp only [Option.toList, List.cons_append, List.nil_append]
              refine zr_istore hC dL_newcomer_279 (by decide) ?_
              refine zk_iconst hC dL_newcomer_281 (v := nI 0) (by decide +kernel) ?_
              refine zr_istore hC dL_newcomer_282 (by decide) ?_
              refine zR_sub [(0, .ref 0), (2, .int (nI m)), (4, .int (nI 1)), (5, .int (nI (E 6 2))), (7, .int (nI (K.1 6 0))), (8, .int (nI 0))] ⟨rfl, rfl, rfl, rfl, rfl, rfl, trivial⟩ ?_
              refine lL_nc2 hC hg hm hk4 (fun S lv hc h => ?_) (K.1 6 0) 0 S (Nat.zero_add _) hc
              obtain ⟨v0, v2, v4, -⟩ := h
              refine zR_sub [(0, .ref 0), (2, .int (nI m)), (4, .int (nI 1))] ⟨v0, v2, v4, trivial⟩ ?_
              by_cases hl1 : sm (K.1 0) 1 = 0
              · refine zr_iload hC dL_newcomer_333 rfl ?_
                refine zr_if_eq hC dL_newcomer_335 (tgt := 367) (by decide) (fun c => absurd c (by decide +kernel)) (fun c_335 => ?_)
                refine zr_aload_n hC dL_newcomer_338 rfl ?_
                refine zk_iconst hC dL_newcomer_339 (v := nI 1) (by decide +kernel) ?_
                refine zk_iconst hC dL_newcomer_340 (v := nI 0) (by decide +kernel) ?_
                refine zs_callV hC (b := 0) [_, _] [] dL_newcomer_341 ml_L_78 mtX8_node tX8_node (by decide) (by decide) (by decide) rfl rfl (by decide) (by decide +kernel) (Nat.le_of_ble_eq_true rfl) rfl ?_
                refine ⟨K, _, _, rfl, hc, hg, fun S hc _ => ?_⟩
                rw [fnod0 (by decide) (by decide), kof, if_pos hl1]
                dsimp only [Option.toList, List.cons_append, List.nil_append]
                refine zr_if_lt hC dL_newcomer_344 (tgt := 363) (by decide) (fun c_344 => ?_) (fun c => absurd c (not_not_intro m4_lt0))
                refine zk_iconst hC dL_newcomer_363 (v := nI 1) (by decide +kernel) ?_
                refine zr_goto hC dL_newcomer_364 (tgt := 368) (by decide) ?_
                exact zr_zreturn hC hE dL_newcomer_368 (by first | exact Or.inl rfl | exact Or.inr rfl) (hr _ _ (hQ _ _ hc hg hw2 (by rw [hdr, hd0, q4, e6])))
              · have hk1 := (hg.1.live (v := 1) (by decide) (by decide) hl1).1
                refine zr_iload hC dL_newcomer_333 rfl ?_
                refine zr_if_eq hC dL_newcomer_335 (tgt := 367) (by decide) (fun c => absurd c (by decide +kernel)) (fun c_335 => ?_)
                refine zr_aload_n hC dL_newcomer_338 rfl ?_
                refine zk_iconst hC dL_newcomer_339 (v := nI 1) (by decide +kernel) ?_
                refine zk_iconst hC dL_newcomer_340 (v := nI 0) (by decide +kernel) ?_
                refine zs_callV hC (b := 0) [_, _] [] dL_newcomer_341 ml_L_78 mtX8_node tX8_node (by decide) (by decide) (by decide) rfl rfl (by decide) (by decide +kernel) (Nat.le_of_ble_eq_true rfl) rfl ?_
                refine ⟨K, _, _, rfl, hc, hg, fun S hc _ => ?_⟩
                rw [fnod0 (by decide) (by decide), kof, if_neg hl1]
                dsimp only [Option.toList, List.cons_append, List.nil_append]
                refine zr_if_lt hC dL_newcomer_344 (tgt := 363) (by decide) (fun c => absurd c (nI_pos (by have := hg.1.made; omega))) (fun c_344 => ?_)
                refine zr_aload_n hC dL_newcomer_347 rfl ?_
                refine zk_iconst hC dL_newcomer_348 (v := nI 1) (by decide +kernel) ?_
                refine zr_iload_n hC dL_newcomer_349 rfl ?_
                refine zn_ishl hC dL_newcomer_350 (z_shl1 m (by omega)) ?_
                refine zr_aload_n hC dL_newcomer_351 rfl ?_
                refine zk_iconst hC dL_newcomer_352 (v := nI 1) (by decide +kernel) ?_
                refine zk_iconst hC dL_newcomer_353 (v := nI 0) (by decide +kernel) ?_
                refine zs_callV hC (b := 0) [_, _] [_, _] dL_newcomer_354 ml_L_78 mtX8_node tX8_node (by decide) (by decide) (by decide) rfl rfl (by decide) (by decide +kernel) (Nat.le_of_ble_eq_true rfl) rfl ?_
                refine ⟨K, _, _, rfl, hc, hg, fun S hc _ => ?_⟩
                rw [fnod0 (by decide) (by decide), kof, if_neg hl1]
                dsimp only [Option.toList, List.cons_append, List.nil_append]
                refine zs_callV hC (b := 0) [_, _] [] dL_newcomer_357 ml_L_95 mtX8_opens tX8_opens (by decide) (by decide) (by decide) rfl rfl (by decide) (by decide +kernel) (Nat.le_of_ble_eq_true rfl) rfl ?_
                refine ⟨K, _, _, rfl, hc, hg, fun S hc _ => ?_⟩
                rw [fopn hg (pow_lt16 hm) hk1, hk5 hl1, show zb false = nI 0 from rfl]
                dsimp only [Option.toList, List.cons_append, List.nil_append]
                refine zr_if_ne hC dL_newcomer_360 (tgt := 367) (by decide) (fun c => absurd c (by decide +kernel)) (fun c_360 => ?_)
                refine zk_iconst hC dL_newcomer_363 (v := nI 1) (by decide +kernel) ?_
                refine zr_goto hC dL_newcomer_364 (tgt := 368) (by decide) ?_
                exact zr_zreturn hC hE dL_newcomer_368 (by first | exact Or.inl rfl | exact Or.inr rfl) (hr _ _ (hQ _ _ hc hg hw2 (by rw [hdr, hd0, q4, e6])))
          · refine zr_aload_n hC dL_newcomer_41 rfl ?_
            refine zr_iload_n hC dL_newcomer_42 rfl ?_
            refine zk_iconst hC dL_newcomer_43 (v := nI 1) (by decide +kernel) ?_
            refine zs_callV hC (b := 0) [_, _] [] dL_newcomer_44 ml_L_91 mtX8_member tX8_member (by decide) (by decide) (by decide) rfl rfl (by decide) (by decide +kernel) (Nat.le_of_ble_eq_true rfl) rfl ?_
            refine ⟨G, _, _, rfl, hc, hg, fun S hc _ => ?_⟩
            rw [fmem1 hm]
            dsimp only [Option.toList, List.cons_append, List.nil_append]
            refine zr_if_ne hC dL_newcomer_47 (tgt := 54) (by decide) (fun c_47 => ?_) (fun c => absurd c (nI_ne0 (by omega) (by omega)))
            refine zk_iconst hC dL_newcomer_54 (v := nI 0) (by decide +kernel) ?_
            refine zr_istore_n hC dL_newcomer_55 (by decide) ?_
            refine zr_aload_n hC dL_newcomer_56 rfl ?_
            refine zr_iload_n hC dL_newcomer_57 rfl ?_
            refine zk_iconst hC dL_newcomer_58 (v := nI 0) (by decide +kernel) ?_
            refine zs_callV hC (b := 0) [_, _] [] dL_newcomer_59 ml_L_91 mtX8_member tX8_member (by decide) (by decide) (by decide) rfl rfl (by decide) (by decide +kernel) (Nat.le_of_ble_eq_true rfl) rfl ?_
            refine ⟨G, _, _, rfl, hc, hg, fun S hc _ => ?_⟩
            rw [fmem0 hm, if_neg (fun z => z h0)]
            dsimp only [Option.toList, List.cons_append, List.nil_append]
            refine zk_bipush hC dL_newcomer_62 (v := (-4)) (by decide +kernel) ?_
            refine zr_icmp_ne hC dL_newcomer_64 (tgt := 84) (by decide) (fun c => absurd c (not_not_intro rfl)) (fun c_64 => ?_)
            refine zr_aload_n hC dL_newcomer_67 rfl ?_
            refine zr_iload_n hC dL_newcomer_68 rfl ?_
            refine zs_callV hC (b := 0) [_] [] dL_newcomer_69 ml_L_70 mtX8_come tX8_come (by decide) (by decide) (by decide) rfl rfl (by decide) (by decide +kernel) (Nat.le_of_ble_eq_true rfl) rfl ?_
            refine ⟨G, _, rfl, hc, hg, fun S hc _ => ?_⟩
            rw [fcom hm ⟨h0, by rw [hw.2.2.1 m hm]; decide⟩] at hc ⊢
            obtain ⟨i1, i2, i3, i4⟩ := come_ok hw h0
            have i5 := hs3.told (m := m) (x := 1)
            have e6 : dset G.1 1 m 1 6 = G.1 6 := dset_ff _ _ _ (by decide)
            have e9 : dset G.1 1 m 1 9 = G.1 9 := dset_ff _ _ _ (by decide)
            have e60 := congrFun e6 0
            have e61 := congrFun e6 1
            obtain ⟨E, hE1⟩ : ∃ E, E = dset G.1 1 m 1 := ⟨_, rfl⟩
            rw [← hE1] at hc i1 i2 i3 i4 i5 e6 e9 e60 e61 ⊢
            have hg := hg.kp.set i1
            have hb : brf E = nI 0 := one_brf hm i2.1 (by rw [e6]; omega) (by rw [e6]; omega)
            obtain ⟨⟨q1, q2, q3, q4⟩, q5, q6⟩ := bq i1 hb
            have hB := bt_BT i1
            have n4 := one_ge4 i1 hB (i1.btc1 hb) hm i2.1
            have n8 := one_eight i1 hB hm i2
            have n5 := one_five i1 hB hm i2
            have g6 : btc E 6 = btB E 6 := btc_f (by decide) (by decide)
            rw [← g6] at n4 n8 n5
            rw [one_cms hm i2]
            dsimp only [Option.toList, List.cons_append, List.nil_append]
            refine zk_iconst hC dL_newcomer_72 (v := nI 1) (by decide +kernel) ?_
            refine zr_icmp_ne hC dL_newcomer_73 (tgt := 88) (by decide) (fun c => absurd c (by decide +kernel)) (fun c_73 => ?_)
            refine zr_aload_n hC dL_newcomer_76 rfl ?_
            refine zs_callV hC (b := 0) [] [] dL_newcomer_77 ml_L_76 mtX8_batch tX8_batch (by decide) (by decide) (by decide) rfl rfl (by decide) (by decide +kernel) (Nat.le_of_ble_eq_true rfl) rfl ?_
            refine ⟨gset (gkp G) E, rfl, hc, hg, fun S hc _ => ?_⟩
            rw [fbat (G := gset (gkp G) E) (by rw [gset_1]; exact hb), gset_1] at hc ⊢
            have hw := btc_WS i1 hb i3 i4
            have hg := hg.kp.set (i1.btc hb)
            obtain ⟨H, hH⟩ : ∃ H, H = gset (gkp (gset (gkp G) E)) (btc E) := ⟨_, rfl⟩
            rw [← hH] at hc hg
            have hH1 : H.1 = btc E := by rw [hH, gset_1]
            dsimp only [Option.toList, List.cons_append, List.nil_append]
            refine zk_iconst hC dL_newcomer_80 (v := nI 4) (by decide +kernel) ?_
            refine zr_icmp_lt hC dL_newcomer_81 (tgt := 88) (by decide) (fun c => absurd c (nI_nlt (by omega) (by omega))) (fun c_81 => ?_)
            refine zk_iconst hC dL_newcomer_84 (v := nI 1) (by decide +kernel) ?_
            refine zr_goto hC dL_newcomer_85 (tgt := 89) (by decide) ?_
            refine zr_istore hC dL_newcomer_89 (by decide) ?_
            refine zr_iload_n hC dL_newcomer_91 rfl ?_
            refine zr_if_ne hC dL_newcomer_92 (tgt := 98) (by decide) (fun c => absurd c (by decide +kernel)) (fun c_92 => ?_)
            refine zr_iload hC dL_newcomer_95 rfl ?_
            exact zr_zreturn hC hE dL_newcomer_97 (Or.inr rfl) (hr _ _ (hQ _ _ hc hg (by rw [hH1]; exact hw) (by rw [hH1, q4, e6])))
        · have hz := hw.holds hm h0
          have hl := hg.1.leaf hm
          refine zr_aload_n hC dL_newcomer_41 rfl ?_
          refine zr_iload_n hC dL_newcomer_42 rfl ?_
          refine zk_iconst hC dL_newcomer_43 (v := nI 1) (by decide +kernel) ?_
          refine zs_callV hC (b := 0) [_, _] [] dL_newcomer_44 ml_L_91 mtX8_member tX8_member (by decide) (by decide) (by decide) rfl rfl (by decide) (by decide +kernel) (Nat.le_of_ble_eq_true rfl) rfl ?_
          refine ⟨G, _, _, rfl, hc, hg, fun S hc _ => ?_⟩
          rw [fmem1 hm]
          dsimp only [Option.toList, List.cons_append, List.nil_append]
          refine zr_if_ne hC dL_newcomer_47 (tgt := 54) (by decide) (fun c_47 => ?_) (fun c => absurd c (nI_ne0 (by omega) (by omega)))
          refine zk_iconst hC dL_newcomer_54 (v := nI 0) (by decide +kernel) ?_
          refine zr_istore_n hC dL_newcomer_55 (by decide) ?_
          refine zr_aload_n hC dL_newcomer_56 rfl ?_
          refine zr_iload_n hC dL_newcomer_57 rfl ?_
          refine zk_iconst hC dL_newcomer_58 (v := nI 0) (by decide +kernel) ?_
          refine zs_callV hC (b := 0) [_, _] [] dL_newcomer_59 ml_L_91 mtX8_member tX8_member (by decide) (by decide) (by decide) rfl rfl (by decide) (by decide +kernel) (Nat.le_of_ble_eq_true rfl) rfl ?_
          refine ⟨G, _, _, rfl, hc, hg, fun S hc _ => ?_⟩
          rw [fmem0 hm, if_pos h0]
          dsimp only [Option.toList, List.cons_append, List.nil_append]
          refine zk_bipush hC dL_newcomer_62 (v := (-4)) (by decide +kernel) ?_
          refine zr_icmp_ne hC dL_newcomer_64 (tgt := 84) (by decide) (fun c_64 => ?_) (fun c => absurd c (nI_ne4 (by omega)))
          refine zk_iconst hC dL_newcomer_84 (v := nI 1) (by decide +kernel) ?_
          refine zr_goto hC dL_newcomer_85 (tgt := 89) (by decide) ?_
          refine zr_istore hC dL_newcomer_89 (by decide) ?_
          refine zr_iload_n hC dL_newcomer_91 rfl ?_
          refine zr_if_ne hC dL_newcomer_92 (tgt := 98) (by decide) (fun c => absurd c (by decide +kernel)) (fun c_92 => ?_)
          refine zr_iload hC dL_newcomer_95 rfl ?_
          exact zr_zreturn hC hE dL_newcomer_97 (Or.inr rfl) (hr _ _ (hQ _ _ hc hg hw rfl))
      · refine zk_iconst hC dL_newcomer_34 (v := nI 1) (by decide +kernel) ?_
        exact zr_zreturn hC hE dL_newcomer_35 (by first | exact Or.inl rfl | exact Or.inr rfl) (hr _ _ (hQ _ _ hc hg hw rfl))
