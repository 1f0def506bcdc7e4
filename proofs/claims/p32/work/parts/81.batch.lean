/-! THE LAW'S batch -/
theorem gset_1 (G : zG) (D : zD) : (gset G D).1 = D := rfl
theorem gset_2 (G : zG) (D : zD) : (gset G D).2 = G.2 := rfl
theorem bgn_f {D : zD} {f : Nat} (h : f ≠ 6) : bgn D f = fun _ => 0 := funext fun k => if_neg (fun z => h z.1)
theorem bgn_6 {D : zD} {k : Nat} (h : k ≠ 3) : bgn D 6 k = 0 := if_neg (fun z => h z.2)
theorem WS_bgn {D : zD} (h : INV D) : WS (bgn D) := by
  have e0 : bgn D 0 = fun _ => 0 := bgn_f (by decide)
  have e61 : bgn D 6 1 = 0 := bgn_6 (by decide)
  have e60 : bgn D 6 0 = 0 := bgn_6 (by decide)
  refine ⟨h.begun, ⟨fun k q m hm _ => ?_, fun i hi => ?_, fun m hm q => ?_, fun m hm q => ?_⟩, fun m hm => ?_, fun m hm => ?_⟩
  · have := q.1; omega
  · omega
  · exact absurd (congrFun e0 m) q.1
  · exact absurd (congrFun e0 m) q
  · rw [bgn_f (by decide)]
  · rw [bgn_f (by decide)]
theorem S3_bgn (D : zD) : S3 (bgn D) := fun i hi => by
  have e61 : bgn D 6 1 = 0 := bgn_6 (by decide)
  omega
theorem ws_cms {D : zD} (w : WS D) : cms D = 0 := dm_no (fun j hj => by rw [w.2.2.1 j hj]; decide)
theorem ws_lvs {D : zD} (w : WS D) : lvs D = 0 := dm_no (fun j hj => by rw [w.2.2.1 j hj]; decide)
theorem ws_sls {D : zD} (w : WS D) : sls D = 0 := dm_no (fun j hj => by rw [w.2.2.2 j hj]; decide)
theorem ws_brf {D : zD} (w : WS D) : brf D = -2 := if_pos ⟨ws_cms w, ws_lvs w⟩
theorem ws_due {D : zD} (w : WS D) : ltr (lfD D) (chD D) 15 = 0 := by
  have e : mvD D = (D 0, fun _ => false, 0) := by
    show mv (D 0) _ _ = _
    rw [mv_cong (P' := fun _ => false) (K' := fun _ => false) (fun m hm => by rw [w.2.2.1 m hm]; rfl) (fun m hm => by rw [w.2.2.1 m hm]; rfl)]
    unfold mv
    rw [mvL_none, mvC_none]
  show ltr (mvD D).1 (mvD D).2.2 15 = 0
  rw [e]
  exact ltr_0 _ _
theorem brf_full {D : zD} (hI : INV D) (ht : ∃ m, m < 16 ∧ D 1 m ≠ 0) (h : ¬ brf D = nI 0) : brf D = -3 ∧ (200 ≤ D 6 0 ∨ 160 ≤ D 6 1) ∧ D 6 0 ≠ 0 := by
  obtain ⟨m, hm, h1⟩ := ht
  have hn : ¬ (cms D = 0 ∧ lvs D = 0) := fun q => by
    have a := dm_zero.mp q.1 m hm
    have b := dm_zero.mp q.2 m hm
    have := hI.told hm
    simp only [beq_eq_false_iff_ne] at a b
    omega
  unfold brf ful at h ⊢
  rw [if_neg hn] at h ⊢
  by_cases q : 200 ≤ D 6 0 ∨ 160 ≤ D 6 1
  · rw [if_pos q]
    refine ⟨rfl, q, fun z => ?_⟩
    rcases q with q | q
    · omega
    · have := (hI.lets (i := 0) (by omega)).1
      omega
  · rw [if_neg q] at h
    exact absurd rfl h
theorem m3_0 : (-3 : Int32) ≠ nI 0 := by decide
theorem fbeg {G : zG} (h : G.1 6 0 ≠ 0) : fBegin G = (nI (G.1 6 0), gset (gkp G) (bgn G.1)) := if_neg (fun z => h z.1)
theorem bt_sit {D : zD} (h : INV D) : sm (lfD D) 1 = zan (sm (D 0) 1) (lvs D) ||| cms D := by
  refine Nat.eq_of_testBit_eq (fun i => ?_)
  rw [Nat.testBit_or]
  rcases Nat.lt_or_ge i 16 with hi | hi
  · rw [zan_bit (by omega), sm_bit hi, sm_bit hi, dm_b hi, dm_b hi]
    have hl := (mvD_F h).1.lt hi
    rcases mvD_at h hi with z | z | z
    · rw [bn_root _ hl (show lfD D i ≠ 0 from by have := one_lf h hi z.1; omega), z.1]; simp
    · rw [show lfD D i = 0 from z.2, z.1, show bn 0 1 = false from bnf_0 5 1]; simp
    · rw [show lfD D i = D 0 i from z.2, z.1]; simp
  · rw [z_small (n := 16) (sm_lt _ _) hi, z_small (n := 16) (zan_lt (sm_lt _ _)) hi, z_small (n := 16) (dm_lt _) hi]; rfl
theorem bq {D : zD} (h : INV D) (hb : brf D = nI 0) : (btc D 6 1 = D 6 1 + ltr (lfD D) (chD D) 15 ∧ btc D 6 2 = D 6 2 + 1 ∧ D 6 0 ≤ btc D 6 0 ∧ btc D 6 3 = D 6 3) ∧ (∀ k, D 6 0 ≤ k → k < btc D 6 0 → btc D 8 k = D 6 2 ∧ kof (btc D 0) (btc D) (btc D 7 k) = nI k) ∧ ∀ i, D 6 1 ≤ i → i < btc D 6 1 → btc D 12 i = D 6 2 + 1 ∧ D 6 0 ≤ btc D 10 i ∧ btc D 7 (btc D 10 i) = btc D 7 (btc D 11 i) / 2 ∧ kof (btc D 0) (btc D) (btc D 7 (btc D 11 i)) = nI (btc D 11 i) ∧ btc D 10 i < btc D 6 0 ∧ btc D 11 i < btc D 6 0 := by
  have hB := bt_BT h
  have hI := h.btc hb
  have hIB := h.btc1 hb
  have ef : ∀ f, f ≠ 3 → f ≠ 9 → btc D f = btB D f := fun f a b => btc_f a b
  have e0 := ef 0 (by decide) (by decide)
  have e6 := ef 6 (by decide) (by decide)
  have e7 := ef 7 (by decide) (by decide)
  have e8 := ef 8 (by decide) (by decide)
  have e10 := ef 10 (by decide) (by decide)
  have e11 := ef 11 (by decide) (by decide)
  have e12 := ef 12 (by decide) (by decide)
  have ek : ∀ v, key (btc D) v = key (btB D) v := fun v => key_cong e7 (congrFun e6 0) v
  refine ⟨⟨by rw [e6]; exact hB.2.1.2.1, by rw [e6]; exact hB.2.1.2.2.1, by rw [e6]; exact hB.2.1.1, by rw [e6]; exact hB.2.1.2.2.2⟩, fun k k1 k2 => ?_, fun i i1 i2 => ?_⟩
  · rw [e6] at k2
    obtain ⟨a1, a2, a3, a4, a5, a6, a7⟩ := hB.2.2.2.1 k k1 k2
    refine ⟨by rw [e8]; exact a5, ?_⟩
    unfold kof
    rw [e0, e7, hB.1.1, if_neg a4, ek, a7]
  · have hl := hI.lets i2
    rw [e6] at i2
    obtain ⟨w, w1, w2, w3, w4, w5, w6, w7, w8⟩ := hB.2.2.2.2.2.1 i i1 i2
    have hl2 : sm (lfD D) (w / 2) ≠ 0 := by
      obtain ⟨m, hm, hbn⟩ := sm_ne.mp w3
      exact sm_of hm (bn_tr _ ((mvD_F h).1.lt hm) _ w2 hbn _ (by omega) (bn_par w w2 w1))
    obtain ⟨c1, c2, c3⟩ := (hB.2.2.2.2.2.2.2 (w / 2) (by omega) (by omega)).2 w4 hl2
    refine ⟨by rw [e12]; exact w8, by rw [e10, w7]; exact c1, ?_, ?_, hl.1, hl.2.1⟩
    · rw [e10, e11, e7, w5, w7, c3]
    · unfold kof
      rw [e0, e11, e7, w5, hB.1.1, if_neg w3, ek, w6]
theorem nI_ne3 {k : Nat} (h : k < 2147483648) : ¬ nI k = -3 := fun e => by
  have h1 : ¬ nI k < 0 := nI_pos (by omega)
  rw [e] at h1
  exact absurd (show (-3 : Int32) < 0 by decide) h1
set_option maxHeartbeats 1000000 in
set_option maxRecDepth 100000 in
theorem lL_bt1 {C : zCx} {τ : Nat → ClassId} {ι : Nat → Nat} (hC : zOK C τ (zrm 7 0 0) yL_batch.cls cL_batch 12) {G : zG} {a b c : Nat} (hg : GI G) (hk : ∀ k, b ≤ k → k < G.1 6 0 → G.1 8 k = c ∧ kof (G.1 0) G.1 (G.1 7 k) = nI k) (k : ∀ S lv, CG S G → zsub lv [(0, .ref 0), (5, .int (nI a)), (6, .int (nI b)), (7, .int (nI c)), (9, .int (nI 1))] → zR C τ ι 12 0 0 259 lv [] (zcells S)) : ∀ (n i : Nat) (S : zS), i + n = G.1 6 0 → b ≤ i → CG S G → zR C τ ι 12 0 0 208 [(0, .ref 0), (5, .int (nI a)), (6, .int (nI b)), (7, .int (nI c)), (9, .int (nI 1)), (10, .int (nI i))] [] (zcells S) := by
  intro n
  induction n with
  | zero =>
    intro i S hi hb hc
    have hb1 := hg.1.made
    refine zr_iload hC dL_batch_208 rfl ?_
    refine zr_aload_n hC dL_batch_210 rfl ?_
    refine zk_iconst hC dL_batch_211 (v := nI 4) (by decide +kernel) ?_
    refine zs_callV hC (b := 0) [_] [_] dL_batch_212 ml_L_37 mtX8_count tX8_count (by decide) (by decide) (by decide) rfl rfl (by decide) (by decide +kernel) (Nat.le_of_ble_eq_true rfl) rfl ?_
    refine ⟨G, _, rfl, hc, hg, fun S hc _ => ?_⟩
    rw [fc_4]
    dsimp only [Option.toList, List.cons_append, List.nil_append]
    refine zr_icmp_ge hC dL_batch_215 (tgt := 259) (by decide) (fun c_215 => ?_) (fun c => absurd c (not_not_intro (nI_le (by omega) (by omega))))
    exact k S _ hc ⟨rfl, rfl, rfl, rfl, rfl, trivial⟩
  | succ n ih =>
    intro i S hi hb hc
    have hb1 := hg.1.made
    obtain ⟨h1, h2⟩ := hk i hb (by omega)
    refine zr_iload hC dL_batch_208 rfl ?_
    refine zr_aload_n hC dL_batch_210 rfl ?_
    refine zk_iconst hC dL_batch_211 (v := nI 4) (by decide +kernel) ?_
    refine zs_callV hC (b := 0) [_] [_] dL_batch_212 ml_L_37 mtX8_count tX8_count (by decide) (by decide) (by decide) rfl rfl (by decide) (by decide +kernel) (Nat.le_of_ble_eq_true rfl) rfl ?_
    refine ⟨G, _, rfl, hc, hg, fun S hc _ => ?_⟩
    rw [fc_4]
    dsimp only [Option.toList, List.cons_append, List.nil_append]
    refine zr_icmp_ge hC dL_batch_215 (tgt := 259) (by decide) (fun c => absurd c (nI_ge (by omega) (by omega))) (fun c_215 => ?_)
    refine zr_iload hC dL_batch_218 rfl ?_
    refine zr_if_eq hC dL_batch_220 (tgt := 259) (by decide) (fun c => absurd c (by decide +kernel)) (fun c_220 => ?_)
    refine zr_aload_n hC dL_batch_223 rfl ?_
    refine zr_iload hC dL_batch_224 rfl ?_
    refine zk_iconst hC dL_batch_226 (v := nI 1) (by decide +kernel) ?_
    refine zs_callV hC (b := 0) [_, _] [] dL_batch_227 ml_L_63 mtX8_key tX8_key (by decide) (by decide) (by decide) rfl rfl (by decide) (by decide +kernel) (Nat.le_of_ble_eq_true rfl) rfl ?_
    refine ⟨G, _, _, rfl, hc, hg, fun S hc _ => ?_⟩
    rw [fkey1 hg (by omega), h1]
    dsimp only [Option.toList, List.cons_append, List.nil_append]
    refine zr_iload hC dL_batch_230 rfl ?_
    refine zr_icmp_ne hC dL_batch_232 (tgt := 250) (by decide) (fun c => absurd c (not_not_intro rfl)) (fun c_232 => ?_)
    refine zr_aload_n hC dL_batch_235 rfl ?_
    refine zr_iload hC dL_batch_236 rfl ?_
    refine zk_iconst hC dL_batch_238 (v := nI 2) (by decide +kernel) ?_
    refine zs_callV hC (b := 0) [_, _] [] dL_batch_239 ml_L_63 mtX8_key tX8_key (by decide) (by decide) (by decide) rfl rfl (by decide) (by decide +kernel) (Nat.le_of_ble_eq_true rfl) rfl ?_
    refine ⟨G, _, _, rfl, hc, hg, fun S hc _ => ?_⟩
    rw [fkey2 hg (by omega), if_pos h2]
    dsimp only [Option.toList, List.cons_append, List.nil_append]
    refine zk_iconst hC dL_batch_242 (v := nI 1) (by decide +kernel) ?_
    refine zr_icmp_ne hC dL_batch_243 (tgt := 250) (by decide) (fun c => absurd c (by decide +kernel)) (fun c_243 => ?_)
    refine zk_iconst hC dL_batch_246 (v := nI 1) (by decide +kernel) ?_
    refine zr_goto hC dL_batch_247 (tgt := 251) (by decide) ?_
    refine zr_istore hC dL_batch_251 (by decide) ?_
    refine zn_iinc hC dL_batch_253 rfl (by decide) (zk_inc _ 1) ?_
    refine zr_goto hC dL_batch_256 (tgt := 208) (by decide) ?_
    exact zR_sub [(0, .ref 0), (5, .int (nI a)), (6, .int (nI b)), (7, .int (nI c)), (9, .int (nI 1)), (10, .int (nI (i + 1)))] ⟨rfl, rfl, rfl, rfl, rfl, rfl, trivial⟩ (ih (i + 1) S (by omega) (by omega) hc)
set_option maxHeartbeats 1000000 in
set_option maxRecDepth 100000 in
theorem lL_bt2 {C : zCx} {τ : Nat → ClassId} {ι : Nat → Nat} (hC : zOK C τ (zrm 7 0 0) yL_batch.cls cL_batch 12) {G : zG} {a b c : Nat} (hg : GI G) (hk : ∀ i, a ≤ i → i < G.1 6 1 → G.1 12 i = c + 1 ∧ b ≤ G.1 10 i ∧ G.1 7 (G.1 10 i) = G.1 7 (G.1 11 i) / 2 ∧ kof (G.1 0) G.1 (G.1 7 (G.1 11 i)) = nI (G.1 11 i) ∧ G.1 10 i < G.1 6 0 ∧ G.1 11 i < G.1 6 0) (k : ∀ S lv, CG S G → zsub lv [(9, .int (nI 1))] → zR C τ ι 12 0 0 364 lv [] (zcells S)) : ∀ (n i : Nat) (S : zS), i + n = G.1 6 1 → a ≤ i → CG S G → zR C τ ι 12 0 0 263 [(0, .ref 0), (5, .int (nI a)), (6, .int (nI b)), (7, .int (nI c)), (9, .int (nI 1)), (10, .int (nI i))] [] (zcells S) := by
  intro n
  induction n with
  | zero =>
    intro i S hi hb hc
    have hb1 := hg.1.written
    refine zr_iload hC dL_batch_263 rfl ?_
    refine zr_aload_n hC dL_batch_265 rfl ?_
    refine zk_iconst hC dL_batch_266 (v := nI 5) (by decide +kernel) ?_
    refine zs_callV hC (b := 0) [_] [_] dL_batch_267 ml_L_37 mtX8_count tX8_count (by decide) (by decide) (by decide) rfl rfl (by decide) (by decide +kernel) (Nat.le_of_ble_eq_true rfl) rfl ?_
    refine ⟨G, _, rfl, hc, hg, fun S hc _ => ?_⟩
    rw [fc_5]
    dsimp only [Option.toList, List.cons_append, List.nil_append]
    refine zr_icmp_ge hC dL_batch_270 (tgt := 364) (by decide) (fun c_270 => ?_) (fun c => absurd c (not_not_intro (nI_le (by omega) (by omega))))
    exact k S _ hc ⟨rfl, trivial⟩
  | succ n ih =>
    intro i S hi hb hc
    have hb1 := hg.1.written
    have hb2 := hg.1.made
    obtain ⟨h1, h2, h3, h4, h5, h6⟩ := hk i hb (by omega)
    have hb3 := (hg.1.keys h6).2.1
    refine zr_iload hC dL_batch_263 rfl ?_
    refine zr_aload_n hC dL_batch_265 rfl ?_
    refine zk_iconst hC dL_batch_266 (v := nI 5) (by decide +kernel) ?_
    refine zs_callV hC (b := 0) [_] [_] dL_batch_267 ml_L_37 mtX8_count tX8_count (by decide) (by decide) (by decide) rfl rfl (by decide) (by decide +kernel) (Nat.le_of_ble_eq_true rfl) rfl ?_
    refine ⟨G, _, rfl, hc, hg, fun S hc _ => ?_⟩
    rw [fc_5]
    dsimp only [Option.toList, List.cons_append, List.nil_append]
    refine zr_icmp_ge hC dL_batch_270 (tgt := 364) (by decide) (fun c => absurd c (nI_ge (by omega) (by omega))) (fun c_270 => ?_)
    refine zr_iload hC dL_batch_273 rfl ?_
    refine zr_if_eq hC dL_batch_275 (tgt := 364) (by decide) (fun c => absurd c (by decide +kernel)) (fun c_275 => ?_)
    refine zr_aload_n hC dL_batch_278 rfl ?_
    refine zr_aload_n hC dL_batch_279 rfl ?_
    refine zr_iload hC dL_batch_280 rfl ?_
    refine zk_iconst hC dL_batch_282 (v := nI 0) (by decide +kernel) ?_
    refine zs_callV hC (b := 0) [_, _] [_] dL_batch_283 ml_L_67 mtX8_letter tX8_letter (by decide) (by decide) (by decide) rfl rfl (by decide) (by decide +kernel) (Nat.le_of_ble_eq_true rfl) rfl ?_
    refine ⟨G, _, _, rfl, hc, hg, fun S hc _ => ?_⟩
    rw [flet0 hg (by omega)]
    dsimp only [Option.toList, List.cons_append, List.nil_append]
    refine zk_iconst hC dL_batch_286 (v := nI 0) (by decide +kernel) ?_
    refine zs_callV hC (b := 0) [_, _] [] dL_batch_287 ml_L_63 mtX8_key tX8_key (by decide) (by decide) (by decide) rfl rfl (by decide) (by decide +kernel) (Nat.le_of_ble_eq_true rfl) rfl ?_
    refine ⟨G, _, _, rfl, hc, hg, fun S hc _ => ?_⟩
    rw [fkey0 hg h5, h3]
    dsimp only [Option.toList, List.cons_append, List.nil_append]
    refine zr_istore hC dL_batch_290 (by decide) ?_
    refine zr_aload_n hC dL_batch_292 rfl ?_
    refine zr_iload hC dL_batch_293 rfl ?_
    refine zk_iconst hC dL_batch_295 (v := nI 2) (by decide +kernel) ?_
    refine zs_callV hC (b := 0) [_, _] [] dL_batch_296 ml_L_67 mtX8_letter tX8_letter (by decide) (by decide) (by decide) rfl rfl (by decide) (by decide +kernel) (Nat.le_of_ble_eq_true rfl) rfl ?_
    refine ⟨G, _, _, rfl, hc, hg, fun S hc _ => ?_⟩
    rw [flet2 hg (by omega), h1, show lbI (c + 1) = nI c from rfl]
    dsimp only [Option.toList, List.cons_append, List.nil_append]
    refine zr_iload hC dL_batch_299 rfl ?_
    refine zr_icmp_ne hC dL_batch_301 (tgt := 355) (by decide) (fun c => absurd c (not_not_intro rfl)) (fun c_301 => ?_)
    refine zr_aload_n hC dL_batch_304 rfl ?_
    refine zr_iload hC dL_batch_305 rfl ?_
    refine zk_iconst hC dL_batch_307 (v := nI 0) (by decide +kernel) ?_
    refine zs_callV hC (b := 0) [_, _] [] dL_batch_308 ml_L_67 mtX8_letter tX8_letter (by decide) (by decide) (by decide) rfl rfl (by decide) (by decide +kernel) (Nat.le_of_ble_eq_true rfl) rfl ?_
    refine ⟨G, _, _, rfl, hc, hg, fun S hc _ => ?_⟩
    rw [flet0 hg (by omega)]
    dsimp only [Option.toList, List.cons_append, List.nil_append]
    refine zr_iload hC dL_batch_311 rfl ?_
    refine zr_icmp_lt hC dL_batch_313 (tgt := 355) (by decide) (fun c => absurd c (nI_nlt h2 (by omega))) (fun c_313 => ?_)
    refine zr_iload hC dL_batch_316 rfl ?_
    refine zr_aload_n hC dL_batch_318 rfl ?_
    refine zr_aload_n hC dL_batch_319 rfl ?_
    refine zr_iload hC dL_batch_320 rfl ?_
    refine zk_iconst hC dL_batch_322 (v := nI 1) (by decide +kernel) ?_
    refine zs_callV hC (b := 0) [_, _] [_, _] dL_batch_323 ml_L_67 mtX8_letter tX8_letter (by decide) (by decide) (by decide) rfl rfl (by decide) (by decide +kernel) (Nat.le_of_ble_eq_true rfl) rfl ?_
    refine ⟨G, _, _, rfl, hc, hg, fun S hc _ => ?_⟩
    rw [flet1 hg (by omega)]
    dsimp only [Option.toList, List.cons_append, List.nil_append]
    refine zk_iconst hC dL_batch_326 (v := nI 0) (by decide +kernel) ?_
    refine zs_callV hC (b := 0) [_, _] [_] dL_batch_327 ml_L_63 mtX8_key tX8_key (by decide) (by decide) (by decide) rfl rfl (by decide) (by decide +kernel) (Nat.le_of_ble_eq_true rfl) rfl ?_
    refine ⟨G, _, _, rfl, hc, hg, fun S hc _ => ?_⟩
    rw [fkey0 hg h6]
    dsimp only [Option.toList, List.cons_append, List.nil_append]
    refine zk_iconst hC dL_batch_330 (v := nI 2) (by decide +kernel) ?_
    refine zn_idiv hC dL_batch_331 (by decide +kernel) (pk_div (by omega) (by decide) (by decide)) ?_
    refine zr_icmp_ne hC dL_batch_332 (tgt := 355) (by decide) (fun c => absurd c (not_not_intro rfl)) (fun c_332 => ?_)
    refine zr_aload_n hC dL_batch_335 rfl ?_
    refine zr_aload_n hC dL_batch_336 rfl ?_
    refine zr_iload hC dL_batch_337 rfl ?_
    refine zk_iconst hC dL_batch_339 (v := nI 1) (by decide +kernel) ?_
    refine zs_callV hC (b := 0) [_, _] [_] dL_batch_340 ml_L_67 mtX8_letter tX8_letter (by decide) (by decide) (by decide) rfl rfl (by decide) (by decide +kernel) (Nat.le_of_ble_eq_true rfl) rfl ?_
    refine ⟨G, _, _, rfl, hc, hg, fun S hc _ => ?_⟩
    rw [flet1 hg (by omega)]
    dsimp only [Option.toList, List.cons_append, List.nil_append]
    refine zk_iconst hC dL_batch_343 (v := nI 2) (by decide +kernel) ?_
    refine zs_callV hC (b := 0) [_, _] [] dL_batch_344 ml_L_63 mtX8_key tX8_key (by decide) (by decide) (by decide) rfl rfl (by decide) (by decide +kernel) (Nat.le_of_ble_eq_true rfl) rfl ?_
    refine ⟨G, _, _, rfl, hc, hg, fun S hc _ => ?_⟩
    rw [fkey2 hg h6, if_pos h4]
    dsimp only [Option.toList, List.cons_append, List.nil_append]
    refine zk_iconst hC dL_batch_347 (v := nI 1) (by decide +kernel) ?_
    refine zr_icmp_ne hC dL_batch_348 (tgt := 355) (by decide) (fun c => absurd c (by decide +kernel)) (fun c_348 => ?_)
    refine zk_iconst hC dL_batch_351 (v := nI 1) (by decide +kernel) ?_
    refine zr_goto hC dL_batch_352 (tgt := 356) (by decide) ?_
    refine zr_istore hC dL_batch_356 (by decide) ?_
    refine zn_iinc hC dL_batch_358 rfl (by decide) (zk_inc _ 1) ?_
    refine zr_goto hC dL_batch_361 (tgt := 263) (by decide) ?_
    exact zR_sub [(0, .ref 0), (5, .int (nI a)), (6, .int (nI b)), (7, .int (nI c)), (9, .int (nI 1)), (10, .int (nI (i + 1)))] ⟨rfl, rfl, rfl, rfl, rfl, rfl, trivial⟩ (ih (i + 1) S (by omega) (by omega) hc)
def spL_batch : zSp := fun av S Q => ∃ G : zG, av = [.ref 0] ∧ CG S G ∧ GI G ∧ SEC G.1 ∧ (∀ m, m < 16 → G.1 2 m = 0) ∧ (∃ m, m < 16 ∧ G.1 1 m ≠ 0) ∧ ∀ S' G', CG S' G' → GI G' → WS G'.1 → ((brf G.1 = nI 0 ∧ G'.1 = btc G.1) ∨ G'.1 = bgn G.1) → Q (some (.int (nI 1))) S'
set_option maxHeartbeats 1000000 in
set_option maxRecDepth 100000 in
theorem tL_batch : zM yL_batch cL_batch 12 (some .boolean) 7 spL_batch := by
  refine zM.of (by decide) (by decide) (fun av S Q h => by obtain ⟨G, rfl, hc, hg, hs, hl, ht, hQ⟩ := h; exact Nat.le_of_ble_eq_true rfl) (fun C τ ι av S Q Qr h hr hC hE => ?_)
  obtain ⟨G, rfl, hc, hg, hs, hl, ht, hQ⟩ := h
  have hb1 := hg.1.made
  have hb2 := hg.1.written
  have hb3 := hg.1.batches
  show zR C τ ι _ 0 0 0 [(0, .ref 0)] [] _
  refine zr_aload_n hC dL_batch_0 rfl ?_
  refine zk_iconst hC dL_batch_1 (v := nI 0) (by decide +kernel) ?_
  refine zs_callV hC (b := 0) [_] [] dL_batch_2 ml_L_73 mtX8_due tX8_due (by decide) (by decide) (by decide) rfl rfl (by decide) (by decide +kernel) (Nat.le_of_ble_eq_true rfl) rfl ?_
  refine ⟨G, _, rfl, hc, hg, fun S hc _ => ?_⟩
  rw [fdue0]
  dsimp only [Option.toList, List.cons_append, List.nil_append]
  refine zr_istore_n hC dL_batch_5 (by decide) ?_
  refine zr_aload_n hC dL_batch_6 rfl ?_
  refine zk_iconst hC dL_batch_7 (v := nI 1) (by decide +kernel) ?_
  refine zs_callV hC (b := 0) [_] [] dL_batch_8 ml_L_37 mtX8_count tX8_count (by decide) (by decide) (by decide) rfl rfl (by decide) (by decide +kernel) (Nat.le_of_ble_eq_true rfl) rfl ?_
  refine ⟨G, _, rfl, hc, hg, fun S hc _ => ?_⟩
  rw [fc_1]
  dsimp only [Option.toList, List.cons_append, List.nil_append]
  refine zr_istore_n hC dL_batch_11 (by decide) ?_
  refine zr_aload_n hC dL_batch_12 rfl ?_
  refine zk_iconst hC dL_batch_13 (v := nI 2) (by decide +kernel) ?_
  refine zs_callV hC (b := 0) [_] [] dL_batch_14 ml_L_37 mtX8_count tX8_count (by decide) (by decide) (by decide) rfl rfl (by decide) (by decide +kernel) (Nat.le_of_ble_eq_true rfl) rfl ?_
  refine ⟨G, _, rfl, hc, hg, fun S hc _ => ?_⟩
  rw [fc_2]
  dsimp only [Option.toList, List.cons_append, List.nil_append]
  refine zr_istore_n hC dL_batch_17 (by decide) ?_
  refine zr_aload_n hC dL_batch_18 rfl ?_
  refine zk_iconst hC dL_batch_19 (v := nI 0) (by decide +kernel) ?_
  refine zs_callV hC (b := 0) [_] [] dL_batch_20 ml_L_37 mtX8_count tX8_count (by decide) (by decide) (by decide) rfl rfl (by decide) (by decide +kernel) (Nat.le_of_ble_eq_true rfl) rfl ?_
  refine ⟨G, _, rfl, hc, hg, fun S hc _ => ?_⟩
  rw [fc_0]
  dsimp only [Option.toList, List.cons_append, List.nil_append]
  refine zr_istore hC dL_batch_23 (by decide) ?_
  refine zr_aload_n hC dL_batch_25 rfl ?_
  refine zk_iconst hC dL_batch_26 (v := nI 5) (by decide +kernel) ?_
  refine zs_callV hC (b := 0) [_] [] dL_batch_27 ml_L_37 mtX8_count tX8_count (by decide) (by decide) (by decide) rfl rfl (by decide) (by decide +kernel) (Nat.le_of_ble_eq_true rfl) rfl ?_
  refine ⟨G, _, rfl, hc, hg, fun S hc _ => ?_⟩
  rw [fc_5]
  dsimp only [Option.toList, List.cons_append, List.nil_append]
  refine zr_istore hC dL_batch_30 (by decide) ?_
  refine zr_aload_n hC dL_batch_32 rfl ?_
  refine zk_iconst hC dL_batch_33 (v := nI 4) (by decide +kernel) ?_
  refine zs_callV hC (b := 0) [_] [] dL_batch_34 ml_L_37 mtX8_count tX8_count (by decide) (by decide) (by decide) rfl rfl (by decide) (by decide +kernel) (Nat.le_of_ble_eq_true rfl) rfl ?_
  refine ⟨G, _, rfl, hc, hg, fun S hc _ => ?_⟩
  rw [fc_4]
  dsimp only [Option.toList, List.cons_append, List.nil_append]
  refine zr_istore hC dL_batch_37 (by decide) ?_
  refine zr_aload_n hC dL_batch_39 rfl ?_
  refine zk_bipush hC dL_batch_40 (v := nI 6) (by decide +kernel) ?_
  refine zs_callV hC (b := 0) [_] [] dL_batch_42 ml_L_37 mtX8_count tX8_count (by decide) (by decide) (by decide) rfl rfl (by decide) (by decide +kernel) (Nat.le_of_ble_eq_true rfl) rfl ?_
  refine ⟨G, _, rfl, hc, hg, fun S hc _ => ?_⟩
  rw [fc_6]
  dsimp only [Option.toList, List.cons_append, List.nil_append]
  refine zr_istore hC dL_batch_45 (by decide) ?_
  by_cases hb : brf G.1 = nI 0
  · refine zr_aload_n hC dL_batch_47 rfl ?_
    refine zs_callV hC (b := 0) [] [] dL_batch_48 ml_L_76 mtX8_batch tX8_batch (by decide) (by decide) (by decide) rfl rfl (by decide) (by decide +kernel) (Nat.le_of_ble_eq_true rfl) rfl ?_
    refine ⟨G, rfl, hc, hg, fun S hc _ => ?_⟩
    rw [fbat hb] at hc ⊢
    obtain ⟨⟨q1, q2, q3, q4⟩, q5, q6⟩ := bq hg.1 hb
    have hw := btc_WS hg.1 hb hs hl
    have hlt := ltr_le (lfD G.1) (chD G.1) 15
    have hst : sm (btc G.1 0) 1 = zan (sm (G.1 0) 1) (lvs G.1) ||| cms G.1 := by rw [btc_f (by decide) (by decide), (bt_BT hg.1).1.1]; exact bt_sit hg.1
    obtain ⟨H, hH⟩ : ∃ H, H = gset (gkp G) (btc G.1) := ⟨_, rfl⟩
    have hg2 : GI H := by rw [hH]; exact hg.kp.set (hg.1.btc hb)
    have hH1 : btc G.1 = H.1 := by rw [hH, gset_1]
    rw [← hH] at hc ⊢
    rw [hH1] at q1 q2 q3 q4 q5 q6 hw hst ⊢
    have hg0 := hg
    have hg := hg2
    rw [q1, Nat.add_sub_cancel_left]
    dsimp only [Option.toList, List.cons_append, List.nil_append]
    refine zr_istore hC dL_batch_51 (by decide) ?_
    refine zr_iload hC dL_batch_53 rfl ?_
    refine zk_bipush hC dL_batch_55 (v := (-3)) (by decide +kernel) ?_
    refine zr_icmp_ne hC dL_batch_57 (tgt := 102) (by decide) (fun c_57 => ?_) (fun c => absurd c (nI_ne3 (by omega)))
    refine zr_iload hC dL_batch_102 rfl ?_
    refine zr_iload_n hC dL_batch_104 rfl ?_
    refine zr_icmp_ne hC dL_batch_105 (tgt := 201) (by decide) (fun c => absurd c (not_not_intro rfl)) (fun c_105 => ?_)
    refine zr_iload_n hC dL_batch_108 rfl ?_
    refine zk_bipush hC dL_batch_109 (v := nI 30) (by decide +kernel) ?_
    refine zr_icmp_gt hC dL_batch_111 (tgt := 201) (by decide) (fun c => absurd c (nI_nlt (by omega) (by omega))) (fun c_111 => ?_)
    refine zr_aload_n hC dL_batch_114 rfl ?_
    refine zk_iconst hC dL_batch_115 (v := nI 5) (by decide +kernel) ?_
    refine zs_callV hC (b := 0) [_] [] dL_batch_116 ml_L_37 mtX8_count tX8_count (by decide) (by decide) (by decide) rfl rfl (by decide) (by decide +kernel) (Nat.le_of_ble_eq_true rfl) rfl ?_
    refine ⟨H, _, rfl, hc, hg, fun S hc _ => ?_⟩
    rw [fc_5, q1]
    dsimp only [Option.toList, List.cons_append, List.nil_append]
    refine zr_iload hC dL_batch_119 rfl ?_
    refine zr_iload_n hC dL_batch_121 rfl ?_
    refine zn_iadd hC dL_batch_122 (nI_add _ _) ?_
    refine zr_icmp_ne hC dL_batch_123 (tgt := 201) (by decide) (fun c => absurd c (not_not_intro rfl)) (fun c_123 => ?_)
    refine zr_aload_n hC dL_batch_126 rfl ?_
    refine zk_bipush hC dL_batch_127 (v := nI 6) (by decide +kernel) ?_
    refine zs_callV hC (b := 0) [_] [] dL_batch_129 ml_L_37 mtX8_count tX8_count (by decide) (by decide) (by decide) rfl rfl (by decide) (by decide +kernel) (Nat.le_of_ble_eq_true rfl) rfl ?_
    refine ⟨H, _, rfl, hc, hg, fun S hc _ => ?_⟩
    rw [fc_6, q2]
    dsimp only [Option.toList, List.cons_append, List.nil_append]
    refine zr_iload hC dL_batch_132 rfl ?_
    refine zk_iconst hC dL_batch_134 (v := nI 1) (by decide +kernel) ?_
    refine zn_iadd hC dL_batch_135 (nI_add _ _) ?_
    refine zr_icmp_ne hC dL_batch_136 (tgt := 201) (by decide) (fun c => absurd c (not_not_intro rfl)) (fun c_136 => ?_)
    refine zr_aload_n hC dL_batch_139 rfl ?_
    refine zk_iconst hC dL_batch_140 (v := nI 0) (by decide +kernel) ?_
    refine zs_callV hC (b := 0) [_] [] dL_batch_141 ml_L_37 mtX8_count tX8_count (by decide) (by decide) (by decide) rfl rfl (by decide) (by decide +kernel) (Nat.le_of_ble_eq_true rfl) rfl ?_
    refine ⟨H, _, rfl, hc, hg, fun S hc _ => ?_⟩
    rw [fc_0, hst]
    dsimp only [Option.toList, List.cons_append, List.nil_append]
    refine zr_iload hC dL_batch_144 rfl ?_
    refine zr_iload_n hC dL_batch_146 rfl ?_
    refine zk_iconst hC dL_batch_147 (v := (-1)) (by decide +kernel) ?_
    refine zr_ixor hC dL_batch_148 ?_
    refine zn_iand hC dL_batch_149 (z_andn _ _) ?_
    refine zr_iload_n hC dL_batch_150 rfl ?_
    refine zn_ior hC dL_batch_151 (fa_or _ _) ?_
    refine zr_icmp_ne hC dL_batch_152 (tgt := 201) (by decide) (fun c => absurd c (not_not_intro rfl)) (fun c_152 => ?_)
    refine zr_aload_n hC dL_batch_155 rfl ?_
    refine zk_iconst hC dL_batch_156 (v := nI 1) (by decide +kernel) ?_
    refine zs_callV hC (b := 0) [_] [] dL_batch_157 ml_L_37 mtX8_count tX8_count (by decide) (by decide) (by decide) rfl rfl (by decide) (by decide +kernel) (Nat.le_of_ble_eq_true rfl) rfl ?_
    refine ⟨H, _, rfl, hc, hg, fun S hc _ => ?_⟩
    rw [fc_1, ws_cms hw]
    dsimp only [Option.toList, List.cons_append, List.nil_append]
    refine zr_if_ne hC dL_batch_160 (tgt := 201) (by decide) (fun c => absurd c (by decide +kernel)) (fun c_160 => ?_)
    refine zr_aload_n hC dL_batch_163 rfl ?_
    refine zk_iconst hC dL_batch_164 (v := nI 2) (by decide +kernel) ?_
    refine zs_callV hC (b := 0) [_] [] dL_batch_165 ml_L_37 mtX8_count tX8_count (by decide) (by decide) (by decide) rfl rfl (by decide) (by decide +kernel) (Nat.le_of_ble_eq_true rfl) rfl ?_
    refine ⟨H, _, rfl, hc, hg, fun S hc _ => ?_⟩
    rw [fc_2, ws_lvs hw]
    dsimp only [Option.toList, List.cons_append, List.nil_append]
    refine zr_if_ne hC dL_batch_168 (tgt := 201) (by decide) (fun c => absurd c (by decide +kernel)) (fun c_168 => ?_)
    refine zr_aload_n hC dL_batch_171 rfl ?_
    refine zk_iconst hC dL_batch_172 (v := nI 0) (by decide +kernel) ?_
    refine zs_callV hC (b := 0) [_] [] dL_batch_173 ml_L_73 mtX8_due tX8_due (by decide) (by decide) (by decide) rfl rfl (by decide) (by decide +kernel) (Nat.le_of_ble_eq_true rfl) rfl ?_
    refine ⟨H, _, rfl, hc, hg, fun S hc _ => ?_⟩
    rw [fdue0, ws_due hw]
    dsimp only [Option.toList, List.cons_append, List.nil_append]
    refine zr_if_ne hC dL_batch_176 (tgt := 201) (by decide) (fun c => absurd c (by decide +kernel)) (fun c_176 => ?_)
    refine zr_aload_n hC dL_batch_179 rfl ?_
    refine zk_bipush hC dL_batch_180 (v := nI 7) (by decide +kernel) ?_
    refine zs_callV hC (b := 0) [_] [] dL_batch_182 ml_L_37 mtX8_count tX8_count (by decide) (by decide) (by decide) rfl rfl (by decide) (by decide +kernel) (Nat.le_of_ble_eq_true rfl) rfl ?_
    refine ⟨H, _, rfl, hc, hg, fun S hc _ => ?_⟩
    rw [fc_7w hw]
    dsimp only [Option.toList, List.cons_append, List.nil_append]
    refine zr_if_ne hC dL_batch_185 (tgt := 201) (by decide) (fun c => absurd c (by decide +kernel)) (fun c_185 => ?_)
    refine zr_aload_n hC dL_batch_188 rfl ?_
    refine zs_callV hC (b := 0) [] [] dL_batch_189 ml_L_76 mtX8_batch tX8_batch (by decide) (by decide) (by decide) rfl rfl (by decide) (by decide +kernel) (Nat.le_of_ble_eq_true rfl) rfl ?_
    refine ⟨H, rfl, hc, hg, fun S hc _ => ?_⟩
    rw [fbatN (by rw [ws_brf hw]; exact m2_0), ws_brf hw] at hc ⊢
    dsimp only [Option.toList, List.cons_append, List.nil_append]
    refine zk_bipush hC dL_batch_192 (v := (-2)) (by decide +kernel) ?_
    refine zr_icmp_ne hC dL_batch_194 (tgt := 201) (by decide) (fun c => absurd c (not_not_intro rfl)) (fun c_194 => ?_)
    refine zk_iconst hC dL_batch_197 (v := nI 1) (by decide +kernel) ?_
    refine zr_goto hC dL_batch_198 (tgt := 202) (by decide) ?_
    refine zr_istore hC dL_batch_202 (by decide) ?_
    refine zr_iload hC dL_batch_204 rfl ?_
    refine zr_istore hC dL_batch_206 (by decide) ?_
    refine zR_sub [(0, .ref 0), (5, .int (nI (G.1 6 1))), (6, .int (nI (G.1 6 0))), (7, .int (nI (G.1 6 2))), (9, .int (nI 1)), (10, .int (nI (G.1 6 0)))] ⟨rfl, rfl, rfl, rfl, rfl, rfl, trivial⟩ ?_
    refine lL_bt1 hC hg q5 (fun S lv hc h => ?_) (H.1 6 0 - G.1 6 0) (G.1 6 0) S (by omega) (Nat.le_refl _) hc
    obtain ⟨v0, v5, v6, v7, v9, -⟩ := h
    refine zR_sub [(0, .ref 0), (5, .int (nI (G.1 6 1))), (6, .int (nI (G.1 6 0))), (7, .int (nI (G.1 6 2))), (9, .int (nI 1))] ⟨v0, v5, v6, v7, v9, trivial⟩ ?_
    refine zr_iload hC dL_batch_259 rfl ?_
    refine zr_istore hC dL_batch_261 (by decide) ?_
    refine zR_sub [(0, .ref 0), (5, .int (nI (G.1 6 1))), (6, .int (nI (G.1 6 0))), (7, .int (nI (G.1 6 2))), (9, .int (nI 1)), (10, .int (nI (G.1 6 1)))] ⟨rfl, rfl, rfl, rfl, rfl, rfl, trivial⟩ ?_
    refine lL_bt2 hC hg q6 (fun S lv hc h => ?_) (H.1 6 1 - G.1 6 1) (G.1 6 1) S (by omega) (Nat.le_refl _) hc
    obtain ⟨v9, -⟩ := h
    refine zr_iload hC dL_batch_364 v9 ?_
    exact zr_zreturn hC hE dL_batch_366 (Or.inr rfl) (hr _ _ (hQ _ _ hc hg hw (Or.inl ⟨hb, hH1.symm⟩)))
  · refine zr_aload_n hC dL_batch_47 rfl ?_
    refine zs_callV hC (b := 0) [] [] dL_batch_48 ml_L_76 mtX8_batch tX8_batch (by decide) (by decide) (by decide) rfl rfl (by decide) (by decide +kernel) (Nat.le_of_ble_eq_true rfl) rfl ?_
    refine ⟨G, rfl, hc, hg, fun S hc _ => ?_⟩
    obtain ⟨q1, q2, q3⟩ := brf_full hg.1 ht hb
    rw [fbatN hb, q1] at hc ⊢
    dsimp only [Option.toList, List.cons_append, List.nil_append]
    refine zr_istore hC dL_batch_51 (by decide) ?_
    refine zr_iload hC dL_batch_53 rfl ?_
    refine zk_bipush hC dL_batch_55 (v := (-3)) (by decide +kernel) ?_
    refine zr_icmp_ne hC dL_batch_57 (tgt := 102) (by decide) (fun c => absurd c (not_not_intro rfl)) (fun c_57 => ?_)
    refine zr_iload hC dL_batch_60 rfl ?_
    refine zk_sipush hC dL_batch_62 (v := nI 200) (by decide +kernel) ?_
    refine zr_icmp_ge hC dL_batch_65 (tgt := 76) (by decide) (fun c_65 => ?_) (fun c_65 => ?_)
    · refine zr_aload_n hC dL_batch_76 rfl ?_
      refine zk_bipush hC dL_batch_77 (v := nI 6) (by decide +kernel) ?_
      refine zs_callV hC (b := 0) [_] [] dL_batch_79 ml_L_37 mtX8_count tX8_count (by decide) (by decide) (by decide) rfl rfl (by decide) (by decide +kernel) (Nat.le_of_ble_eq_true rfl) rfl ?_
      refine ⟨G, _, rfl, hc, hg, fun S hc _ => ?_⟩
      rw [fc_6]
      dsimp only [Option.toList, List.cons_append, List.nil_append]
      refine zr_iload hC dL_batch_82 rfl ?_
      refine zr_icmp_ne hC dL_batch_84 (tgt := 100) (by decide) (fun c => absurd c (not_not_intro rfl)) (fun c_84 => ?_)
      refine zr_aload_n hC dL_batch_87 rfl ?_
      refine zs_callV hC (b := 0) [] [] dL_batch_88 ml_L_18 mtX8_begin tX8_begin (by decide) (by decide) (by decide) rfl rfl (by decide) (by decide +kernel) (Nat.le_of_ble_eq_true rfl) rfl ?_
      refine ⟨G, rfl, hc, hg, fun S hc _ => ?_⟩
      rw [fbeg q3] at hc ⊢
      dsimp only [Option.toList, List.cons_append, List.nil_append]
      refine zr_iload hC dL_batch_91 rfl ?_
      refine zr_icmp_ne hC dL_batch_93 (tgt := 100) (by decide) (fun c => absurd c (not_not_intro rfl)) (fun c_93 => ?_)
      refine zk_iconst hC dL_batch_96 (v := nI 1) (by decide +kernel) ?_
      refine zr_goto hC dL_batch_97 (tgt := 101) (by decide) ?_
      exact zr_zreturn hC hE dL_batch_101 (by first | exact Or.inl rfl | exact Or.inr rfl) (hr _ _ (hQ _ _ hc (hg.kp.set hg.1.begun) (WS_bgn hg.1) (Or.inr rfl)))
    · rw [nI_leI (by decide) (by omega)] at c_65
      refine zr_iload hC dL_batch_68 rfl ?_
      refine zk_sipush hC dL_batch_70 (v := nI 160) (by decide +kernel) ?_
      refine zr_icmp_lt hC dL_batch_73 (tgt := 100) (by decide) (fun c => absurd c (nI_nlt (by omega) (by omega))) (fun c_73 => ?_)
      refine zr_aload_n hC dL_batch_76 rfl ?_
      refine zk_bipush hC dL_batch_77 (v := nI 6) (by decide +kernel) ?_
      refine zs_callV hC (b := 0) [_] [] dL_batch_79 ml_L_37 mtX8_count tX8_count (by decide) (by decide) (by decide) rfl rfl (by decide) (by decide +kernel) (Nat.le_of_ble_eq_true rfl) rfl ?_
      refine ⟨G, _, rfl, hc, hg, fun S hc _ => ?_⟩
      rw [fc_6]
      dsimp only [Option.toList, List.cons_append, List.nil_append]
      refine zr_iload hC dL_batch_82 rfl ?_
      refine zr_icmp_ne hC dL_batch_84 (tgt := 100) (by decide) (fun c => absurd c (not_not_intro rfl)) (fun c_84 => ?_)
      refine zr_aload_n hC dL_batch_87 rfl ?_
      refine zs_callV hC (b := 0) [] [] dL_batch_88 ml_L_18 mtX8_begin tX8_begin (by decide) (by decide) (by decide) rfl rfl (by decide) (by decide +kernel) (Nat.le_of_ble_eq_true rfl) rfl ?_
      refine ⟨G, rfl, hc, hg, fun S hc _ => ?_⟩
      rw [fbeg q3] at hc ⊢
      dsimp only [Option.toList, List.cons_append, List.nil_append]
      refine zr_iload hC dL_batch_91 rfl ?_
      refine zr_icmp_ne hC dL_batch_93 (tgt := 100) (by decide) (fun c => absurd c (not_not_intro rfl)) (fun c_93 => ?_)
      refine zk_iconst hC dL_batch_96 (v := nI 1) (by decide +kernel) ?_
      refine zr_goto hC dL_batch_97 (tgt := 101) (by decide) ?_
      exact zr_zreturn hC hE dL_batch_101 (by first | exact Or.inl rfl | exact Or.inr rfl) (hr _ _ (hQ _ _ hc (hg.kp.set hg.1.begun) (WS_bgn hg.1) (Or.inr rfl)))
