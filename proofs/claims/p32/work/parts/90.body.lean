/-! THE LAW'S BODY -/
/-- ever: those that sat behind a batch since the book was begun -/
def EVN (D : zD) (e : Nat) : Prop := (D 6 0 = 0 → e = 0) ∧ (D 6 0 ≠ 0 → ∀ m, m < 16 → (hby D m (D 6 0) = 0 ↔ ¬ e.testBit m = true))
theorem EVN_next {D0 D D' : zD} {e : Nat} (h : EVN D0 e) (hg : gI D0 D) (ho : (brf D = nI 0 ∧ D' = btc D) ∨ D' = bgn D) : EV D' e := by
  rcases ho with ⟨hb, e⟩ | e
  · rw [e]
    intro h0 m hm
    rw [btc_ever hg.1 hb hg.2.1 hm]
    have e6 : D 6 = D0 6 := hg.2.2.2 6 (by decide)
    have e9 : D 9 = D0 9 := hg.2.2.2 9 (by decide)
    have hh : hby D m (D 6 0) = hby D0 m (D0 6 0) := by
      rw [e6]
      exact hby_cong _ (fun k _ => by
        show (D 9 k).testBit m = _
        rw [e9])
    rw [hh]
    by_cases z : D0 6 0 = 0
    · rw [h.1 z, z, Nat.zero_testBit]
      constructor
      · rintro ⟨-, q⟩ y
        rcases y with y | y
        · cases y
        · exact y q
      · intro q
        refine ⟨rfl, ?_⟩
        by_cases x : btc D 0 m = 0
        · exact x
        · exact absurd (Or.inr x) q
    · rw [h.2 z m hm]
      constructor
      · rintro ⟨p, q⟩ y
        rcases y with y | y
        · exact p y
        · exact y q
      · intro q
        refine ⟨fun y => q (Or.inl y), ?_⟩
        by_cases x : btc D 0 m = 0
        · exact x
        · exact absurd (Or.inr x) q
  · rw [e]
    exact fun h0 => absurd (bgn_6 (D := D) (k := 0) (by decide)) h0
theorem EV_up {D : zD} {e : Nat} (hI : INV D) (h : EV D e) : EVN D (if D 6 0 = 0 then 0 else e ||| sm (D 0) 1) := by
  by_cases z : D 6 0 = 0
  · rw [if_pos z]
    exact ⟨fun _ => rfl, fun y => absurd z y⟩
  · rw [if_neg z]
    refine ⟨fun y => absurd y z, fun _ m hm => ?_⟩
    rw [h z m hm, Nat.testBit_or, sm_bit hm]
    have hs : bn (D 0 m) 1 = true ↔ D 0 m ≠ 0 := by
      constructor
      · intro q e
        rw [e, show bn 0 1 = false from bnf_0 5 1] at q; cases q
      · exact fun q => bn_root _ (hI.ok.lt hm) q
    rw [← hs, Bool.or_eq_true]
theorem EVN_bgn (D : zD) : EVN (bgn D) 0 := ⟨fun _ => rfl, fun h => absurd (bgn_6 (D := D) (k := 0) (by decide)) h⟩
theorem S3_next {D0 D D' : zD} (h : S3 D0) (hg : gI D0 D) (ho : (brf D = nI 0 ∧ D' = btc D) ∨ D' = bgn D) : S3 D' := by
  rcases ho with ⟨hb, e⟩ | e
  · rw [e]
    refine btc_S3 hg.1 hb ?_
    unfold S3
    rw [hg.2.2.2 6 (by decide), hg.2.2.2 8 (by decide), hg.2.2.2 10 (by decide), hg.2.2.2 11 (by decide)]
    exact h
  · rw [e]; exact S3_bgn _
theorem dr_next {D0 D D' : zD} (h : D0 6 3 = 1) (hg : gI D0 D) (ho : (brf D = nI 0 ∧ D' = btc D) ∨ D' = bgn D) : D' 6 3 = 1 := by
  have e6 : D 6 3 = D0 6 3 := congrFun (hg.2.2.2 6 (by decide)) 3
  rcases ho with ⟨hb, e⟩ | e
  · rw [e, (bq hg.1 hb).1.2.2.2, e6, h]
  · rw [e]
    show (if 6 = 6 ∧ 3 = 3 then D 6 3 else 0) = 1
    rw [if_pos ⟨rfl, rfl⟩, e6, h]
theorem fimg (G : zG) : fImage G = (nI 1, (G.1, G.2.1, (true, G.1, G.2.1), G.2.2.2)) := rfl
set_option maxHeartbeats 400000 in
set_option maxRecDepth 100000 in
theorem law_tail {C : zCx} {τ : Nat → ClassId} {ι : Nat → Nat} {kc ks L : Nat} {xs : Nat → Int32} (hC : zOK C τ room_1 RL cL_law 6) (hE : zLw C) (hX : zSc C ι L xs) (hkc : kc ≤ 600000) (hks : ks ≤ 7302250) (hL : L ≤ 260) {S : zS} {G : zG} (hc : CG S G) (hg : GI G) (hw : WS G.1) (hs3 : S3 G.1) (h63 : G.1 6 3 = 1) : zR C τ ι 6 kc ks 109 [(0, .ref 245), (1, .ref 0), (2, .int (nI 1))] [] (zcells S) := by
  refine zr_iload_n hC dL_law_109 rfl ?_
  refine zr_if_eq hC dL_law_110 (tgt := 150) (by decide) (fun c => absurd c (by decide +kernel)) (fun c_110 => ?_)
  refine zr_aload_n hC dL_law_113 rfl ?_
  refine zr_aload_n hC dL_law_114 rfl ?_
  refine zk_bipush hC dL_law_115 (v := nI 12) (by decide +kernel) ?_
  refine zl_callSS hC hX [_, _] [_] dL_law_117 ml_L_22 mtL_cell tL_cell (by decide) hkc hks rfl (Nat.le_of_ble_eq_true rfl) rfl ?_
  refine ⟨12, rfl, by decide, hL, ?_⟩
  dsimp only [Option.toList, List.cons_append, List.nil_append]
  refine zl_callS hC [_, _] [] dL_law_120 ml_L_41 mtL_newcomer tL_newcomer (by decide) hkc hks rfl (Nat.le_of_ble_eq_true rfl) rfl ?_
  refine ⟨G, _, rfl, pcell_lt _ _ _, hc, hg, hw, hs3, fun S N hc hg hw hd => ?_⟩
  dsimp only [Option.toList, List.cons_append, List.nil_append]
  refine zr_if_eq hC dL_law_123 (tgt := 150) (by decide) (fun c => absurd c (by decide +kernel)) (fun c_123 => ?_)
  refine zr_aload_n hC dL_law_126 rfl ?_
  refine zr_aload_n hC dL_law_127 rfl ?_
  refine zk_bipush hC dL_law_128 (v := nI 13) (by decide +kernel) ?_
  refine zl_callSS hC hX [_, _] [_] dL_law_130 ml_L_22 mtL_cell tL_cell (by decide) hkc hks rfl (Nat.le_of_ble_eq_true rfl) rfl ?_
  refine ⟨13, rfl, by decide, hL, ?_⟩
  dsimp only [Option.toList, List.cons_append, List.nil_append]
  refine zl_callS hC [_, _] [] dL_law_133 ml_L_44 mtL_late tL_late (by decide) hkc hks rfl (Nat.le_of_ble_eq_true rfl) rfl ?_
  refine ⟨N, _, rfl, pcell_lt _ _ _, hc, hg, hw, fun S P hc hg hw he => ?_⟩
  dsimp only [Option.toList, List.cons_append, List.nil_append]
  refine zr_if_eq hC dL_law_136 (tgt := 150) (by decide) (fun c => absurd c (by decide +kernel)) (fun c_136 => ?_)
  refine zr_aload_n hC dL_law_139 rfl ?_
  refine zl_callS hC [_] [] dL_law_140 ml_L_47 mtL_told tL_told (by decide) hkc hks rfl (Nat.le_of_ble_eq_true rfl) rfl ?_
  refine ⟨P, rfl, hc, hg, hw, fun S T hc hg hf => ?_⟩
  have hdr : T.1 6 3 = 1 := by rw [hf, he, hd, h63]
  dsimp only [Option.toList, List.cons_append, List.nil_append]
  refine zr_if_eq hC dL_law_143 (tgt := 150) (by decide) (fun c => absurd c (by decide +kernel)) (fun c_143 => ?_)
  refine zk_iconst hC dL_law_146 (v := nI 1) (by decide +kernel) ?_
  refine zr_goto hC dL_law_147 (tgt := 151) (by decide) ?_
  refine zr_istore_n hC dL_law_151 (by decide) ?_
  refine zr_aload_n hC dL_law_152 rfl ?_
  refine zk_bipush hC dL_law_153 (v := nI 8) (by decide +kernel) ?_
  refine zl_callV hC (b := 0) [_] [] dL_law_155 ml_L_37 mtX8_count tX8_count (by decide) hkc hks rfl rfl (by decide) (by decide +kernel) (Nat.le_of_ble_eq_true rfl) rfl ?_
  refine ⟨T, _, rfl, hc, hg, fun S hc _ => ?_⟩
  rw [fc_8]
  dsimp only [Option.toList, List.cons_append, List.nil_append]
  refine zr_istore hC dL_law_158 (by decide) ?_
  refine zr_aload_n hC dL_law_160 rfl ?_
  refine zl_callS hC [_] [] dL_law_161 ml_L_50 mtL_mark tL_mark (by decide) hkc hks rfl (Nat.le_of_ble_eq_true rfl) rfl ?_
  refine ⟨T, rfl, hc, hg, fun S hc => ?_⟩
  dsimp only [Option.toList, List.cons_append, List.nil_append]
  refine zr_istore hC dL_law_164 (by decide) ?_
  refine zr_iload_n hC dL_law_166 rfl ?_
  refine zr_if_eq hC dL_law_167 (tgt := 218) (by decide) (fun c => absurd c (by decide +kernel)) (fun c_167 => ?_)
  refine zr_aload_n hC dL_law_170 rfl ?_
  refine zl_callV hC (b := 0) [] [] dL_law_171 ml_L_54 mtX8_image tX8_image (by decide) hkc hks rfl rfl (by decide) (by decide +kernel) (Nat.le_of_ble_eq_true rfl) rfl ?_
  refine ⟨T, rfl, hc, hg, fun S hc _ => ?_⟩
  have hgI := gi_image hg
  rw [fimg] at hc hgI ⊢
  have h21 : ((T.1, T.2.1, (true, T.1, T.2.1), T.2.2.2) : zG).2.1 = T.2.1 := rfl
  have h11 : ((T.1, T.2.1, (true, T.1, T.2.1), T.2.2.2) : zG).1 = T.1 := rfl
  have him : ((T.1, T.2.1, (true, T.1, T.2.1), T.2.2.2) : zG).2.2.1 = (true, ((T.1, T.2.1, (true, T.1, T.2.1), T.2.2.2) : zG).1, ((T.1, T.2.1, (true, T.1, T.2.1), T.2.2.2) : zG).2.1) := rfl
  obtain ⟨V, dfV⟩ : ∃ V : zG, V = (T.1, T.2.1, (true, T.1, T.2.1), T.2.2.2) := ⟨_, rfl⟩
  rw [← dfV] at hc hgI h21 h11 him
  dsimp only [Option.toList, List.cons_append, List.nil_append]
  refine zk_iconst hC dL_law_174 (v := nI 1) (by decide +kernel) ?_
  refine zr_icmp_ne hC dL_law_175 (tgt := 218) (by decide) (fun c => absurd c (by decide +kernel)) (fun c_175 => ?_)
  refine zr_aload_n hC dL_law_178 rfl ?_
  refine zr_aload_n hC dL_law_179 rfl ?_
  refine zl_callSS hC hX [_, _] [] dL_law_180 ml_L_57 mtL_drifts tL_drifts (by decide) hkc hks rfl (Nat.le_of_ble_eq_true rfl) rfl ?_
  refine ⟨V, rfl, hL, hc, hgI, him, by rw [h11]; exact hdr, fun S hc => ?_⟩
  dsimp only [Option.toList, List.cons_append, List.nil_append]
  refine zr_if_eq hC dL_law_183 (tgt := 218) (by decide) (fun c => absurd c (by decide +kernel)) (fun c_183 => ?_)
  refine zr_aload_n hC dL_law_186 rfl ?_
  refine zl_callV hC (b := 0) [] [] dL_law_187 ml_L_60 mtX8_restore tX8_restore (by decide) hkc hks rfl rfl (by decide) (by decide +kernel) (Nat.le_of_ble_eq_true rfl) rfl ?_
  refine ⟨V, rfl, hc, hgI, fun S hc _ => ?_⟩
  rw [fres (G := V) rfl him] at hc ⊢
  dsimp only [Option.toList, List.cons_append, List.nil_append]
  refine zk_iconst hC dL_law_190 (v := nI 1) (by decide +kernel) ?_
  refine zr_icmp_ne hC dL_law_191 (tgt := 218) (by decide) (fun c => absurd c (by decide +kernel)) (fun c_191 => ?_)
  refine zr_aload_n hC dL_law_194 rfl ?_
  refine zk_bipush hC dL_law_195 (v := nI 8) (by decide +kernel) ?_
  refine zl_callV hC (b := 0) [_] [] dL_law_197 ml_L_37 mtX8_count tX8_count (by decide) hkc hks rfl rfl (by decide) (by decide +kernel) (Nat.le_of_ble_eq_true rfl) rfl ?_
  refine ⟨V, _, rfl, hc, hgI, fun S hc _ => ?_⟩
  rw [fc_8, h21]
  dsimp only [Option.toList, List.cons_append, List.nil_append]
  refine zr_iload hC dL_law_200 rfl ?_
  refine zr_icmp_ne hC dL_law_202 (tgt := 218) (by decide) (fun c => absurd c (not_not_intro rfl)) (fun c_202 => ?_)
  refine zr_aload_n hC dL_law_205 rfl ?_
  refine zl_callS hC [_] [] dL_law_206 ml_L_50 mtL_mark tL_mark (by decide) hkc hks rfl (Nat.le_of_ble_eq_true rfl) rfl ?_
  refine ⟨V, rfl, hc, hgI, fun S hc => ?_⟩
  rw [h11]
  dsimp only [Option.toList, List.cons_append, List.nil_append]
  refine zr_iload hC dL_law_209 rfl ?_
  refine zr_icmp_ne hC dL_law_211 (tgt := 218) (by decide) (fun c => absurd c (not_not_intro rfl)) (fun c_211 => ?_)
  refine zk_iconst hC dL_law_214 (v := nI 1) (by decide +kernel) ?_
  refine zr_goto hC dL_law_215 (tgt := 219) (by decide) ?_
  exact zl_end hC hE hkc hks dL_law_219
set_option maxHeartbeats 400000 in
set_option maxRecDepth 100000 in
theorem law_loop {C : zCx} {τ : Nat → ClassId} {ι : Nat → Nat} {kc ks L : Nat} {xs : Nat → Int32} (hC : zOK C τ room_1 RL cL_law 6) (hE : zLw C) (hX : zSc C ι L xs) (hkc : kc ≤ 600000) (hks : ks ≤ 7302250) (hL : L ≤ 260) : ∀ (n i e : Nat) (S : zS) (G : zG), i + n = 12 → e < 65536 → CG S G → GI G → WS G.1 → S3 G.1 → G.1 6 3 = 1 → EVN G.1 e → zR C τ ι 6 kc ks 34 [(0, .ref 245), (1, .ref 0), (2, .int (nI 1)), (3, .int (nI e)), (4, .int (nI i))] [] (zcells S) := by
  intro n
  induction n with
  | zero =>
    intro i e S G hi he hc hg hw hs3 h63 hev
    refine zr_iload hC dL_law_34 rfl ?_
    refine zk_bipush hC dL_law_36 (v := nI 12) (by decide +kernel) ?_
    refine zr_icmp_ge hC dL_law_38 (tgt := 109) (by decide) (fun c_38 => ?_) (fun c => absurd c (not_not_intro (nI_le (by omega) (by omega))))
    exact zR_sub [(0, .ref 245), (1, .ref 0), (2, .int (nI 1))] ⟨rfl, rfl, rfl, trivial⟩ (law_tail hC hE hX hkc hks hL hc hg hw hs3 h63)
  | succ n ih =>
    intro i e S G hi he hc hg hw hs3 h63 hev
    refine zr_iload hC dL_law_34 rfl ?_
    refine zk_bipush hC dL_law_36 (v := nI 12) (by decide +kernel) ?_
    refine zr_icmp_ge hC dL_law_38 (tgt := 109) (by decide) (fun c => absurd c (nI_ge (by omega) (by omega))) (fun c_38 => ?_)
    refine zr_iload_n hC dL_law_41 rfl ?_
    refine zr_if_eq hC dL_law_42 (tgt := 109) (by decide) (fun c => absurd c (by decide +kernel)) (fun c_42 => ?_)
    refine zr_aload_n hC dL_law_45 rfl ?_
    refine zr_iload hC dL_law_46 rfl ?_
    refine zl_callSS hC hX [_, _] [] dL_law_48 ml_L_22 mtL_cell tL_cell (by decide) hkc hks rfl (Nat.le_of_ble_eq_true rfl) rfl ?_
    refine ⟨i, rfl, by omega, hL, ?_⟩
    dsimp only [Option.toList, List.cons_append, List.nil_append]
    refine zr_istore hC dL_law_51 (by decide) ?_
    refine zr_aload_n hC dL_law_53 rfl ?_
    refine zr_iload hC dL_law_54 rfl ?_
    refine zl_callS hC [_, _] [] dL_law_56 ml_L_26 mtL_gathers tL_gathers (by decide) hkc hks rfl (Nat.le_of_ble_eq_true rfl) rfl ?_
    refine ⟨G, _, rfl, pcell_lt _ _ _, hc, hg, hw, fun S N hc hg hI ht => ?_⟩
    dsimp only [Option.toList, List.cons_append, List.nil_append]
    refine zr_if_eq hC dL_law_59 (tgt := 81) (by decide) (fun c => absurd c (by decide +kernel)) (fun c_59 => ?_)
    refine zr_aload_n hC dL_law_62 rfl ?_
    refine zl_callS hC [_] [] dL_law_63 ml_L_30 mtL_batch tL_batch (by decide) hkc hks rfl (Nat.le_of_ble_eq_true rfl) rfl ?_
    refine ⟨N, rfl, hc, hg, hI.2.1, hI.2.2.1, ht, fun S B hc hg hw ho => ?_⟩
    have hev := EVN_next hev hI ho
    have hs3 := S3_next hs3 hI ho
    have h63 := dr_next h63 hI ho
    dsimp only [Option.toList, List.cons_append, List.nil_append]
    refine zr_if_eq hC dL_law_66 (tgt := 81) (by decide) (fun c => absurd c (by decide +kernel)) (fun c_66 => ?_)
    refine zr_aload_n hC dL_law_69 rfl ?_
    refine zr_iload_n hC dL_law_70 rfl ?_
    refine zl_callS hC [_, _] [] dL_law_71 ml_L_34 mtL_shut tL_shut (by decide) hkc hks rfl (Nat.le_of_ble_eq_true rfl) rfl ?_
    refine ⟨B, e, rfl, he, hc, hg, hw, hev, fun S hc => ?_⟩
    dsimp only [Option.toList, List.cons_append, List.nil_append]
    refine zr_if_eq hC dL_law_74 (tgt := 81) (by decide) (fun c => absurd c (by decide +kernel)) (fun c_74 => ?_)
    refine zk_iconst hC dL_law_77 (v := nI 1) (by decide +kernel) ?_
    refine zr_goto hC dL_law_78 (tgt := 82) (by decide) ?_
    refine zr_istore_n hC dL_law_82 (by decide) ?_
    have hev := EV_up hg.1 hev
    have hb1 := hg.1.made
    by_cases h60 : B.1 6 0 = 0
    · refine zr_aload_n hC dL_law_83 rfl ?_
      refine zk_iconst hC dL_law_84 (v := nI 4) (by decide +kernel) ?_
      refine zl_callV hC (b := 0) [_] [] dL_law_85 ml_L_37 mtX8_count tX8_count (by decide) hkc hks rfl rfl (by decide) (by decide +kernel) (Nat.le_of_ble_eq_true rfl) rfl ?_
      refine ⟨B, _, rfl, hc, hg, fun S hc _ => ?_⟩
      rw [fc_4, h60]
      dsimp only [Option.toList, List.cons_append, List.nil_append]
      refine zr_if_ne hC dL_law_88 (tgt := 95) (by decide) (fun c => absurd c (by decide +kernel)) (fun c_88 => ?_)
      refine zk_iconst hC dL_law_91 (v := nI 0) (by decide +kernel) ?_
      refine zr_goto hC dL_law_92 (tgt := 102) (by decide) ?_
      refine zr_istore_n hC dL_law_102 (by decide) ?_
      refine zn_iinc hC dL_law_103 rfl (by decide) (zk_inc _ 1) ?_
      refine zr_goto hC dL_law_106 (tgt := 34) (by decide) ?_
      rw [if_pos h60] at hev
      exact zR_sub [(0, .ref 245), (1, .ref 0), (2, .int (nI 1)), (3, .int (nI 0)), (4, .int (nI (i + 1)))] ⟨rfl, rfl, rfl, rfl, rfl, trivial⟩ (ih (i + 1) 0 S B (by omega) (by decide) hc hg hw hs3 h63 hev)
    · refine zr_aload_n hC dL_law_83 rfl ?_
      refine zk_iconst hC dL_law_84 (v := nI 4) (by decide +kernel) ?_
      refine zl_callV hC (b := 0) [_] [] dL_law_85 ml_L_37 mtX8_count tX8_count (by decide) hkc hks rfl rfl (by decide) (by decide +kernel) (Nat.le_of_ble_eq_true rfl) rfl ?_
      refine ⟨B, _, rfl, hc, hg, fun S hc _ => ?_⟩
      rw [fc_4]
      dsimp only [Option.toList, List.cons_append, List.nil_append]
      refine zr_if_ne hC dL_law_88 (tgt := 95) (by decide) (fun c_88 => ?_) (fun c => absurd c (nI_ne0 (by omega) (by omega)))
      refine zr_iload_n hC dL_law_95 rfl ?_
      refine zr_aload_n hC dL_law_96 rfl ?_
      refine zk_iconst hC dL_law_97 (v := nI 0) (by decide +kernel) ?_
      refine zl_callV hC (b := 0) [_] [_] dL_law_98 ml_L_37 mtX8_count tX8_count (by decide) hkc hks rfl rfl (by decide) (by decide +kernel) (Nat.le_of_ble_eq_true rfl) rfl ?_
      refine ⟨B, _, rfl, hc, hg, fun S hc _ => ?_⟩
      rw [fc_0]
      dsimp only [Option.toList, List.cons_append, List.nil_append]
      refine zn_ior hC dL_law_101 (fa_or _ _) ?_
      refine zr_istore_n hC dL_law_102 (by decide) ?_
      refine zn_iinc hC dL_law_103 rfl (by decide) (zk_inc _ 1) ?_
      refine zr_goto hC dL_law_106 (tgt := 34) (by decide) ?_
      rw [if_neg h60] at hev
      exact zR_sub [(0, .ref 245), (1, .ref 0), (2, .int (nI 1)), (3, .int (nI (e ||| sm (B.1 0) 1))), (4, .int (nI (i + 1)))] ⟨rfl, rfl, rfl, rfl, rfl, trivial⟩ (ih (i + 1) (e ||| sm (B.1 0) 1) S B (by omega) (or_lt16 he (sm_lt _ _)) hc hg hw hs3 h63 hev)
set_option maxHeartbeats 400000 in
set_option maxRecDepth 100000 in
theorem law_body {C : zCx} {τ : Nat → ClassId} {ι : Nat → Nat} {kc ks L : Nat} {xs : Nat → Int32} (hC : zOK C τ room_1 RL cL_law 6) (hE : zLw C) (hX : zSc C ι L xs) (hkc : kc ≤ 600000) (hks : ks ≤ 7302250) (hL : L ≤ 260) {S : zS} {G : zG} (hc : CG S G) (hg : GI G) (hv : ∀ c, lvI c 0 G.1) : zR C τ ι 6 kc ks 8 [(0, .ref 245), (1, .ref 0)] [] (zcells S) := by
  refine zr_aload_n hC dL_law_8 rfl ?_
  refine zr_aload_n hC dL_law_9 rfl ?_
  refine zl_callSS hC hX [_, _] [] dL_law_10 ml_L_12 mtL_level tL_level (by decide) hkc hks rfl (Nat.le_of_ble_eq_true rfl) rfl ?_
  refine ⟨G, rfl, hL, hc, hg, hv, fun S H hc hg h60 h63 => ?_⟩
  dsimp only [Option.toList, List.cons_append, List.nil_append]
  refine zr_if_eq hC dL_law_13 (tgt := 27) (by decide) (fun c => absurd c (by decide +kernel)) (fun c_13 => ?_)
  refine zr_aload_n hC dL_law_16 rfl ?_
  refine zl_callV hC (b := 0) [] [] dL_law_17 ml_L_18 mtX8_begin tX8_begin (by decide) hkc hks rfl rfl (by decide) (by decide +kernel) (Nat.le_of_ble_eq_true rfl) rfl ?_
  refine ⟨H, rfl, hc, hg, fun S hc _ => ?_⟩
  rw [fbeg (by omega)] at hc ⊢
  have hb1 := hg.1.made
  have hI := hg.1
  have hg := hg.kp.set (D := bgn H.1) hI.begun
  obtain ⟨B, dfB⟩ : ∃ B, B = gset (gkp H) (bgn H.1) := ⟨_, rfl⟩
  rw [← dfB] at hc hg
  have hB1 : B.1 = bgn H.1 := by rw [dfB, gset_1]
  dsimp only [Option.toList, List.cons_append, List.nil_append]
  refine zr_if_le hC dL_law_20 (tgt := 27) (by decide) (fun c => absurd c (nI_ge (a := 0) (by omega) (by omega))) (fun c_20 => ?_)
  refine zk_iconst hC dL_law_23 (v := nI 1) (by decide +kernel) ?_
  refine zr_goto hC dL_law_24 (tgt := 28) (by decide) ?_
  refine zr_istore_n hC dL_law_28 (by decide) ?_
  refine zk_iconst hC dL_law_29 (v := nI 0) (by decide +kernel) ?_
  refine zr_istore_n hC dL_law_30 (by decide) ?_
  refine zk_iconst hC dL_law_31 (v := nI 0) (by decide +kernel) ?_
  refine zr_istore hC dL_law_32 (by decide) ?_
  refine zR_sub [(0, .ref 245), (1, .ref 0), (2, .int (nI 1)), (3, .int (nI 0)), (4, .int (nI 0))] ⟨rfl, rfl, rfl, rfl, rfl, trivial⟩ ?_
  exact law_loop hC hE hX hkc hks hL 12 0 0 S B (by decide) (by decide) hc hg (by rw [hB1]; exact WS_bgn hI) (by rw [hB1]; exact S3_bgn _) (by rw [hB1]; show (if 6 = 6 ∧ 3 = 3 then H.1 6 3 else 0) = 1; rw [if_pos ⟨rfl, rfl⟩, h63]) (by rw [hB1]; exact EVN_bgn _)
