/-! THE LAW'S level -/
set_option maxHeartbeats 1000000 in
set_option maxRecDepth 100000 in
theorem lL_lv1 {C : zCx} {τ : Nat → ClassId} {ι : Nat → Nat} (hC : zOK C τ (zrm 7 0 0) yL_level.cls cL_level 8) {G : zG} {n k : Nat} (hg : GI G) (hl : LV (G.1 0)) (kk : ∀ S lv, CG S G → zsub lv [(0, .ref 0), (1, .ref 245), (2, .int (nI 1)), (3, .int (nI n)), (4, .int (nI k))] → zR C τ ι 8 0 0 214 lv [] (zcells S)) : ∀ (d i : Nat) (S : zS), i + d = 16 → 1 ≤ i → CG S G → zR C τ ι 8 0 0 96 [(0, .ref 0), (1, .ref 245), (2, .int (nI 1)), (3, .int (nI n)), (4, .int (nI k)), (6, .int (nI i))] [] (zcells S) := by
  intro d
  induction d with
  | zero =>
    intro i S hi h1 hc
    refine zr_iload hC dL_level_96 rfl ?_
    refine zk_bipush hC dL_level_98 (v := nI 16) (by decide +kernel) ?_
    refine zr_icmp_ge hC dL_level_100 (tgt := 214) (by decide) (fun c_100 => ?_) (fun c => absurd c (not_not_intro (nI_le (by omega) (by omega))))
    exact kk S _ hc ⟨rfl, rfl, rfl, rfl, rfl, trivial⟩
  | succ d ih =>
    intro i S hi h1 hc
    obtain ⟨e1, e2⟩ := sm_kids hg.1.ok h1 (show i < 16 by omega)
    rcases hl i h1 (by omega) with q | q
    · refine zr_iload hC dL_level_96 rfl ?_
      refine zk_bipush hC dL_level_98 (v := nI 16) (by decide +kernel) ?_
      refine zr_icmp_ge hC dL_level_100 (tgt := 214) (by decide) (fun c => absurd c (nI_ge (by omega) (by omega))) (fun c_100 => ?_)
      refine zr_iload_n hC dL_level_103 rfl ?_
      refine zr_if_eq hC dL_level_104 (tgt := 214) (by decide) (fun c => absurd c (by decide +kernel)) (fun c_104 => ?_)
      refine zr_aload_n hC dL_level_107 rfl ?_
      refine zk_iconst hC dL_level_108 (v := nI 2) (by decide +kernel) ?_
      refine zr_iload hC dL_level_109 rfl ?_
      refine zn_imul hC dL_level_111 (pk_mul _ _) ?_
      refine zk_iconst hC dL_level_112 (v := nI 1) (by decide +kernel) ?_
      refine zs_callV hC (b := 0) [_, _] [] dL_level_113 ml_L_78 mtX8_node tX8_node (by decide) (by decide) (by decide) rfl rfl (by decide) (by decide +kernel) (Nat.le_of_ble_eq_true rfl) rfl ?_
      refine ⟨G, _, _, rfl, hc, hg, fun S hc _ => ?_⟩
      rw [fnod1 (by omega) (by omega)]
      dsimp only [Option.toList, List.cons_append, List.nil_append]
      refine zs_callS hC [_] [] dL_level_116 ml_L_81 mtL_bits tL_bits (by decide) (by decide) (by decide) rfl (Nat.le_of_ble_eq_true rfl) rfl ?_
      refine ⟨_, rfl, sm_lt _ _, ?_⟩
      dsimp only [Option.toList, List.cons_append, List.nil_append]
      refine zr_aload_n hC dL_level_119 rfl ?_
      refine zk_iconst hC dL_level_120 (v := nI 2) (by decide +kernel) ?_
      refine zr_iload hC dL_level_121 rfl ?_
      refine zn_imul hC dL_level_123 (pk_mul _ _) ?_
      refine zk_iconst hC dL_level_124 (v := nI 1) (by decide +kernel) ?_
      refine zn_iadd hC dL_level_125 (nI_add _ _) ?_
      refine zk_iconst hC dL_level_126 (v := nI 1) (by decide +kernel) ?_
      refine zs_callV hC (b := 0) [_, _] [_] dL_level_127 ml_L_78 mtX8_node tX8_node (by decide) (by decide) (by decide) rfl rfl (by decide) (by decide +kernel) (Nat.le_of_ble_eq_true rfl) rfl ?_
      refine ⟨G, _, _, rfl, hc, hg, fun S hc _ => ?_⟩
      rw [fnod1 (by omega) (by omega)]
      dsimp only [Option.toList, List.cons_append, List.nil_append]
      refine zs_callS hC [_] [_] dL_level_130 ml_L_81 mtL_bits tL_bits (by decide) (by decide) (by decide) rfl (Nat.le_of_ble_eq_true rfl) rfl ?_
      refine ⟨_, rfl, sm_lt _ _, ?_⟩
      dsimp only [Option.toList, List.cons_append, List.nil_append]
      refine zn_isub hC dL_level_133 ((pk_sub (by omega)).trans (by rw [show pcn 16 (sm (G.1 0) (2 * i)) - pcn 16 (sm (G.1 0) (2 * i + 1)) = 0 by omega])) ?_
      refine zr_istore hC dL_level_134 (by decide) ?_
      refine zr_iload hC dL_level_136 rfl ?_
      refine zr_if_eq hC dL_level_138 (tgt := 147) (by decide) (fun c_138 => ?_) (fun c => absurd c (by decide +kernel))
      refine zr_aload_n hC dL_level_147 rfl ?_
      refine zk_iconst hC dL_level_148 (v := nI 2) (by decide +kernel) ?_
      refine zr_iload hC dL_level_149 rfl ?_
      refine zn_imul hC dL_level_151 (pk_mul _ _) ?_
      refine zk_iconst hC dL_level_152 (v := nI 1) (by decide +kernel) ?_
      refine zs_callV hC (b := 0) [_, _] [] dL_level_153 ml_L_78 mtX8_node tX8_node (by decide) (by decide) (by decide) rfl rfl (by decide) (by decide +kernel) (Nat.le_of_ble_eq_true rfl) rfl ?_
      refine ⟨G, _, _, rfl, hc, hg, fun S hc _ => ?_⟩
      rw [fnod1 (by omega) (by omega)]
      dsimp only [Option.toList, List.cons_append, List.nil_append]
      refine zr_aload_n hC dL_level_156 rfl ?_
      refine zk_iconst hC dL_level_157 (v := nI 2) (by decide +kernel) ?_
      refine zr_iload hC dL_level_158 rfl ?_
      refine zn_imul hC dL_level_160 (pk_mul _ _) ?_
      refine zk_iconst hC dL_level_161 (v := nI 1) (by decide +kernel) ?_
      refine zn_iadd hC dL_level_162 (nI_add _ _) ?_
      refine zk_iconst hC dL_level_163 (v := nI 1) (by decide +kernel) ?_
      refine zs_callV hC (b := 0) [_, _] [_] dL_level_164 ml_L_78 mtX8_node tX8_node (by decide) (by decide) (by decide) rfl rfl (by decide) (by decide +kernel) (Nat.le_of_ble_eq_true rfl) rfl ?_
      refine ⟨G, _, _, rfl, hc, hg, fun S hc _ => ?_⟩
      rw [fnod1 (by omega) (by omega)]
      dsimp only [Option.toList, List.cons_append, List.nil_append]
      refine zn_iand hC dL_level_167 ((fa_and _ _).trans (by rw [e1])) ?_
      refine zr_if_ne hC dL_level_168 (tgt := 206) (by decide) (fun c => absurd c (by decide +kernel)) (fun c_168 => ?_)
      refine zr_aload_n hC dL_level_171 rfl ?_
      refine zr_iload hC dL_level_172 rfl ?_
      refine zk_iconst hC dL_level_174 (v := nI 1) (by decide +kernel) ?_
      refine zs_callV hC (b := 0) [_, _] [] dL_level_175 ml_L_78 mtX8_node tX8_node (by decide) (by decide) (by decide) rfl rfl (by decide) (by decide +kernel) (Nat.le_of_ble_eq_true rfl) rfl ?_
      refine ⟨G, _, _, rfl, hc, hg, fun S hc _ => ?_⟩
      rw [fnod1 (by omega) (by omega), e2]
      dsimp only [Option.toList, List.cons_append, List.nil_append]
      refine zr_aload_n hC dL_level_178 rfl ?_
      refine zk_iconst hC dL_level_179 (v := nI 2) (by decide +kernel) ?_
      refine zr_iload hC dL_level_180 rfl ?_
      refine zn_imul hC dL_level_182 (pk_mul _ _) ?_
      refine zk_iconst hC dL_level_183 (v := nI 1) (by decide +kernel) ?_
      refine zs_callV hC (b := 0) [_, _] [_] dL_level_184 ml_L_78 mtX8_node tX8_node (by decide) (by decide) (by decide) rfl rfl (by decide) (by decide +kernel) (Nat.le_of_ble_eq_true rfl) rfl ?_
      refine ⟨G, _, _, rfl, hc, hg, fun S hc _ => ?_⟩
      rw [fnod1 (by omega) (by omega)]
      dsimp only [Option.toList, List.cons_append, List.nil_append]
      refine zr_aload_n hC dL_level_187 rfl ?_
      refine zk_iconst hC dL_level_188 (v := nI 2) (by decide +kernel) ?_
      refine zr_iload hC dL_level_189 rfl ?_
      refine zn_imul hC dL_level_191 (pk_mul _ _) ?_
      refine zk_iconst hC dL_level_192 (v := nI 1) (by decide +kernel) ?_
      refine zn_iadd hC dL_level_193 (nI_add _ _) ?_
      refine zk_iconst hC dL_level_194 (v := nI 1) (by decide +kernel) ?_
      refine zs_callV hC (b := 0) [_, _] [_, _] dL_level_195 ml_L_78 mtX8_node tX8_node (by decide) (by decide) (by decide) rfl rfl (by decide) (by decide +kernel) (Nat.le_of_ble_eq_true rfl) rfl ?_
      refine ⟨G, _, _, rfl, hc, hg, fun S hc _ => ?_⟩
      rw [fnod1 (by omega) (by omega)]
      dsimp only [Option.toList, List.cons_append, List.nil_append]
      refine zn_ior hC dL_level_198 (fa_or _ _) ?_
      refine zr_icmp_ne hC dL_level_199 (tgt := 206) (by decide) (fun c => absurd c (not_not_intro rfl)) (fun c_199 => ?_)
      refine zk_iconst hC dL_level_202 (v := nI 1) (by decide +kernel) ?_
      refine zr_goto hC dL_level_203 (tgt := 207) (by decide) ?_
      refine zr_istore_n hC dL_level_207 (by decide) ?_
      refine zn_iinc hC dL_level_208 rfl (by decide) (zk_inc _ 1) ?_
      refine zr_goto hC dL_level_211 (tgt := 96) (by decide) ?_
      exact zR_sub [(0, .ref 0), (1, .ref 245), (2, .int (nI 1)), (3, .int (nI n)), (4, .int (nI k)), (6, .int (nI (i + 1)))] ⟨rfl, rfl, rfl, rfl, rfl, rfl, trivial⟩ (ih (i + 1) S (by omega) (by omega) hc)
    · refine zr_iload hC dL_level_96 rfl ?_
      refine zk_bipush hC dL_level_98 (v := nI 16) (by decide +kernel) ?_
      refine zr_icmp_ge hC dL_level_100 (tgt := 214) (by decide) (fun c => absurd c (nI_ge (by omega) (by omega))) (fun c_100 => ?_)
      refine zr_iload_n hC dL_level_103 rfl ?_
      refine zr_if_eq hC dL_level_104 (tgt := 214) (by decide) (fun c => absurd c (by decide +kernel)) (fun c_104 => ?_)
      refine zr_aload_n hC dL_level_107 rfl ?_
      refine zk_iconst hC dL_level_108 (v := nI 2) (by decide +kernel) ?_
      refine zr_iload hC dL_level_109 rfl ?_
      refine zn_imul hC dL_level_111 (pk_mul _ _) ?_
      refine zk_iconst hC dL_level_112 (v := nI 1) (by decide +kernel) ?_
      refine zs_callV hC (b := 0) [_, _] [] dL_level_113 ml_L_78 mtX8_node tX8_node (by decide) (by decide) (by decide) rfl rfl (by decide) (by decide +kernel) (Nat.le_of_ble_eq_true rfl) rfl ?_
      refine ⟨G, _, _, rfl, hc, hg, fun S hc _ => ?_⟩
      rw [fnod1 (by omega) (by omega)]
      dsimp only [Option.toList, List.cons_append, List.nil_append]
      refine zs_callS hC [_] [] dL_level_116 ml_L_81 mtL_bits tL_bits (by decide) (by decide) (by decide) rfl (Nat.le_of_ble_eq_true rfl) rfl ?_
      refine ⟨_, rfl, sm_lt _ _, ?_⟩
      dsimp only [Option.toList, List.cons_append, List.nil_append]
      refine zr_aload_n hC dL_level_119 rfl ?_
      refine zk_iconst hC dL_level_120 (v := nI 2) (by decide +kernel) ?_
      refine zr_iload hC dL_level_121 rfl ?_
      refine zn_imul hC dL_level_123 (pk_mul _ _) ?_
      refine zk_iconst hC dL_level_124 (v := nI 1) (by decide +kernel) ?_
      refine zn_iadd hC dL_level_125 (nI_add _ _) ?_
      refine zk_iconst hC dL_level_126 (v := nI 1) (by decide +kernel) ?_
      refine zs_callV hC (b := 0) [_, _] [_] dL_level_127 ml_L_78 mtX8_node tX8_node (by decide) (by decide) (by decide) rfl rfl (by decide) (by decide +kernel) (Nat.le_of_ble_eq_true rfl) rfl ?_
      refine ⟨G, _, _, rfl, hc, hg, fun S hc _ => ?_⟩
      rw [fnod1 (by omega) (by omega)]
      dsimp only [Option.toList, List.cons_append, List.nil_append]
      refine zs_callS hC [_] [_] dL_level_130 ml_L_81 mtL_bits tL_bits (by decide) (by decide) (by decide) rfl (Nat.le_of_ble_eq_true rfl) rfl ?_
      refine ⟨_, rfl, sm_lt _ _, ?_⟩
      dsimp only [Option.toList, List.cons_append, List.nil_append]
      refine zn_isub hC dL_level_133 ((pk_sub (by omega)).trans (by rw [show pcn 16 (sm (G.1 0) (2 * i)) - pcn 16 (sm (G.1 0) (2 * i + 1)) = 1 by omega])) ?_
      refine zr_istore hC dL_level_134 (by decide) ?_
      refine zr_iload hC dL_level_136 rfl ?_
      refine zr_if_eq hC dL_level_138 (tgt := 147) (by decide) (fun c => absurd c (by decide +kernel)) (fun c_138 => ?_)
      refine zr_iload hC dL_level_141 rfl ?_
      refine zk_iconst hC dL_level_143 (v := nI 1) (by decide +kernel) ?_
      refine zr_icmp_ne hC dL_level_144 (tgt := 206) (by decide) (fun c => absurd c (by decide +kernel)) (fun c_144 => ?_)
      refine zr_aload_n hC dL_level_147 rfl ?_
      refine zk_iconst hC dL_level_148 (v := nI 2) (by decide +kernel) ?_
      refine zr_iload hC dL_level_149 rfl ?_
      refine zn_imul hC dL_level_151 (pk_mul _ _) ?_
      refine zk_iconst hC dL_level_152 (v := nI 1) (by decide +kernel) ?_
      refine zs_callV hC (b := 0) [_, _] [] dL_level_153 ml_L_78 mtX8_node tX8_node (by decide) (by decide) (by decide) rfl rfl (by decide) (by decide +kernel) (Nat.le_of_ble_eq_true rfl) rfl ?_
      refine ⟨G, _, _, rfl, hc, hg, fun S hc _ => ?_⟩
      rw [fnod1 (by omega) (by omega)]
      dsimp only [Option.toList, List.cons_append, List.nil_append]
      refine zr_aload_n hC dL_level_156 rfl ?_
      refine zk_iconst hC dL_level_157 (v := nI 2) (by decide +kernel) ?_
      refine zr_iload hC dL_level_158 rfl ?_
      refine zn_imul hC dL_level_160 (pk_mul _ _) ?_
      refine zk_iconst hC dL_level_161 (v := nI 1) (by decide +kernel) ?_
      refine zn_iadd hC dL_level_162 (nI_add _ _) ?_
      refine zk_iconst hC dL_level_163 (v := nI 1) (by decide +kernel) ?_
      refine zs_callV hC (b := 0) [_, _] [_] dL_level_164 ml_L_78 mtX8_node tX8_node (by decide) (by decide) (by decide) rfl rfl (by decide) (by decide +kernel) (Nat.le_of_ble_eq_true rfl) rfl ?_
      refine ⟨G, _, _, rfl, hc, hg, fun S hc _ => ?_⟩
      rw [fnod1 (by omega) (by omega)]
      dsimp only [Option.toList, List.cons_append, List.nil_append]
      refine zn_iand hC dL_level_167 ((fa_and _ _).trans (by rw [e1])) ?_
      refine zr_if_ne hC dL_level_168 (tgt := 206) (by decide) (fun c => absurd c (by decide +kernel)) (fun c_168 => ?_)
      refine zr_aload_n hC dL_level_171 rfl ?_
      refine zr_iload hC dL_level_172 rfl ?_
      refine zk_iconst hC dL_level_174 (v := nI 1) (by decide +kernel) ?_
      refine zs_callV hC (b := 0) [_, _] [] dL_level_175 ml_L_78 mtX8_node tX8_node (by decide) (by decide) (by decide) rfl rfl (by decide) (by decide +kernel) (Nat.le_of_ble_eq_true rfl) rfl ?_
      refine ⟨G, _, _, rfl, hc, hg, fun S hc _ => ?_⟩
      rw [fnod1 (by omega) (by omega), e2]
      dsimp only [Option.toList, List.cons_append, List.nil_append]
      refine zr_aload_n hC dL_level_178 rfl ?_
      refine zk_iconst hC dL_level_179 (v := nI 2) (by decide +kernel) ?_
      refine zr_iload hC dL_level_180 rfl ?_
      refine zn_imul hC dL_level_182 (pk_mul _ _) ?_
      refine zk_iconst hC dL_level_183 (v := nI 1) (by decide +kernel) ?_
      refine zs_callV hC (b := 0) [_, _] [_] dL_level_184 ml_L_78 mtX8_node tX8_node (by decide) (by decide) (by decide) rfl rfl (by decide) (by decide +kernel) (Nat.le_of_ble_eq_true rfl) rfl ?_
      refine ⟨G, _, _, rfl, hc, hg, fun S hc _ => ?_⟩
      rw [fnod1 (by omega) (by omega)]
      dsimp only [Option.toList, List.cons_append, List.nil_append]
      refine zr_aload_n hC dL_level_187 rfl ?_
      refine zk_iconst hC dL_level_188 (v := nI 2) (by decide +kernel) ?_
      refine zr_iload hC dL_level_189 rfl ?_
      refine zn_imul hC dL_level_191 (pk_mul _ _) ?_
      refine zk_iconst hC dL_level_192 (v := nI 1) (by decide +kernel) ?_
      refine zn_iadd hC dL_level_193 (nI_add _ _) ?_
      refine zk_iconst hC dL_level_194 (v := nI 1) (by decide +kernel) ?_
      refine zs_callV hC (b := 0) [_, _] [_, _] dL_level_195 ml_L_78 mtX8_node tX8_node (by decide) (by decide) (by decide) rfl rfl (by decide) (by decide +kernel) (Nat.le_of_ble_eq_true rfl) rfl ?_
      refine ⟨G, _, _, rfl, hc, hg, fun S hc _ => ?_⟩
      rw [fnod1 (by omega) (by omega)]
      dsimp only [Option.toList, List.cons_append, List.nil_append]
      refine zn_ior hC dL_level_198 (fa_or _ _) ?_
      refine zr_icmp_ne hC dL_level_199 (tgt := 206) (by decide) (fun c => absurd c (not_not_intro rfl)) (fun c_199 => ?_)
      refine zk_iconst hC dL_level_202 (v := nI 1) (by decide +kernel) ?_
      refine zr_goto hC dL_level_203 (tgt := 207) (by decide) ?_
      refine zr_istore_n hC dL_level_207 (by decide) ?_
      refine zn_iinc hC dL_level_208 rfl (by decide) (zk_inc _ 1) ?_
      refine zr_goto hC dL_level_211 (tgt := 96) (by decide) ?_
      exact zR_sub [(0, .ref 0), (1, .ref 245), (2, .int (nI 1)), (3, .int (nI n)), (4, .int (nI k)), (6, .int (nI (i + 1)))] ⟨rfl, rfl, rfl, rfl, rfl, rfl, trivial⟩ (ih (i + 1) S (by omega) (by omega) hc)
set_option maxHeartbeats 1000000 in
set_option maxRecDepth 100000 in
theorem lL_lv2 {C : zCx} {τ : Nat → ClassId} {ι : Nat → Nat} (hC : zOK C τ (zrm 7 0 0) yL_level.cls cL_level 8) {L : Nat} {xs : Nat → Int32} (hX : zSc C ι L xs) (hL : L ≤ 260) {n : Nat} (hn9 : n ≤ 9) (kk : ∀ S G, CG S G → GI G → lvI (pcell L xs 14) n G.1 → ∀ {lv : List (Nat × Value)}, zsub lv [(0, .ref 0), (2, .int (nI 1)), (3, .int (nI n))] → zR C τ ι 8 0 0 220 lv [] (zcells S)) : ∀ (d i : Nat) (S : zS) (G : zG), i + d = n → CG S G → GI G → lvI (pcell L xs 14) i G.1 → zR C τ ι 8 0 0 17 [(0, .ref 0), (1, .ref 245), (2, .int (nI 1)), (3, .int (nI n)), (4, .int (nI i))] [] (zcells S) := by
  intro d
  induction d with
  | zero =>
    intro i S G hi hc hg hv
    have e : i = n := by omega
    refine zr_iload hC dL_level_17 rfl ?_
    refine zr_iload_n hC dL_level_19 rfl ?_
    refine zr_icmp_ge hC dL_level_20 (tgt := 220) (by decide) (fun c_20 => ?_) (fun c => absurd c (not_not_intro (nI_le (by omega) (by omega))))
    exact kk S G hc hg (by rw [e] at hv; exact hv) ⟨rfl, rfl, rfl, trivial⟩
  | succ d ih =>
    intro i S G hi hc hg hv
    have hm := mlv_lt (pcell L xs 14) i
    have hfr := hv.free (show i < 9 by omega)
    obtain ⟨p1, p2, p3, p4, p5⟩ := hv.step (show i < 9 by omega)
    obtain ⟨m, em⟩ : ∃ m, mlv (pcell L xs 14) i = m := ⟨_, rfl⟩
    rw [em] at hm hfr p1 p2 p3 p4 p5
    have hcx := pcell_lt L xs 14
    have em2 : (pcell L xs 14 / 2 ^ 4 * 3 + 5 * i) % 16 = m := em
    have hlt := ltr_le (lfD (dset G.1 1 m 1)) (chD (dset G.1 1 m 1)) 15
    have h11 : G.1 1 m ≠ 1 := by rw [hv.1.2.2.1 m hm]; decide
    refine zr_iload hC dL_level_17 rfl ?_
    refine zr_iload_n hC dL_level_19 rfl ?_
    refine zr_icmp_ge hC dL_level_20 (tgt := 220) (by decide) (fun c => absurd c (nI_ge (by omega) (by omega))) (fun c_20 => ?_)
    refine zr_iload_n hC dL_level_23 rfl ?_
    refine zr_if_eq hC dL_level_24 (tgt := 220) (by decide) (fun c => absurd c (by decide +kernel)) (fun c_24 => ?_)
    refine zr_aload_n hC dL_level_27 rfl ?_
    refine zk_bipush hC dL_level_28 (v := nI 14) (by decide +kernel) ?_
    refine zs_callSS hC hX [_, _] [] dL_level_30 ml_L_22 mtL_cell tL_cell (by decide) (by decide) (by decide) rfl (Nat.le_of_ble_eq_true rfl) rfl ?_
    refine ⟨14, rfl, by decide, hL, ?_⟩
    dsimp only [Option.toList, List.cons_append, List.nil_append]
    refine zk_iconst hC dL_level_33 (v := nI 4) (by decide +kernel) ?_
    refine zn_ishr hC dL_level_34 (z_shrk hcx (show 4 < 32 by decide)) ?_
    refine zk_iconst hC dL_level_35 (v := nI 3) (by decide +kernel) ?_
    refine zn_imul hC dL_level_36 (pk_mul _ _) ?_
    refine zk_iconst hC dL_level_37 (v := nI 5) (by decide +kernel) ?_
    refine zr_iload hC dL_level_38 rfl ?_
    refine zn_imul hC dL_level_40 (pk_mul _ _) ?_
    refine zn_iadd hC dL_level_41 (nI_add _ _) ?_
    refine zk_bipush hC dL_level_42 (v := nI 15) (by decide +kernel) ?_
    refine zn_iand hC dL_level_44 (z_15m em2) ?_
    refine zr_istore hC dL_level_45 (by decide) ?_
    refine zr_aload_n hC dL_level_47 rfl ?_
    refine zr_iload hC dL_level_48 rfl ?_
    refine zs_callV hC (b := 0) [_] [] dL_level_50 ml_L_70 mtX8_come tX8_come (by decide) (by decide) (by decide) rfl rfl (by decide) (by decide +kernel) (Nat.le_of_ble_eq_true rfl) rfl ?_
    refine ⟨G, _, rfl, hc, hg, fun S hc _ => ?_⟩
    rw [fcom hm ⟨hfr, h11⟩] at hc ⊢
    rw [one_cms hm p2]
    have hg := hg.kp.set (D := dset G.1 1 m 1) p3
    obtain ⟨A, dfA⟩ : ∃ A, A = gset (gkp G) (dset G.1 1 m 1) := ⟨_, rfl⟩
    rw [← dfA] at hc hg
    have hA1 : dset G.1 1 m 1 = A.1 := by rw [dfA, gset_1]
    rw [hA1] at p1 p2 p3 p4 p5 hlt
    dsimp only [Option.toList, List.cons_append, List.nil_append]
    refine zk_iconst hC dL_level_53 (v := nI 1) (by decide +kernel) ?_
    refine zr_icmp_ne hC dL_level_54 (tgt := 91) (by decide) (fun c => absurd c (by decide +kernel)) (fun c_54 => ?_)
    refine zr_aload_n hC dL_level_57 rfl ?_
    refine zk_iconst hC dL_level_58 (v := nI 0) (by decide +kernel) ?_
    refine zs_callV hC (b := 0) [_] [] dL_level_59 ml_L_73 mtX8_due tX8_due (by decide) (by decide) (by decide) rfl rfl (by decide) (by decide +kernel) (Nat.le_of_ble_eq_true rfl) rfl ?_
    refine ⟨A, _, rfl, hc, hg, fun S hc _ => ?_⟩
    rw [fdue0]
    dsimp only [Option.toList, List.cons_append, List.nil_append]
    refine zr_aload_n hC dL_level_62 rfl ?_
    refine zk_iconst hC dL_level_63 (v := nI 1) (by decide +kernel) ?_
    refine zs_callV hC (b := 0) [_] [_] dL_level_64 ml_L_73 mtX8_due tX8_due (by decide) (by decide) (by decide) rfl rfl (by decide) (by decide +kernel) (Nat.le_of_ble_eq_true rfl) rfl ?_
    refine ⟨A, _, rfl, hc, hg, fun S hc _ => ?_⟩
    rw [fdue1, one_due p2 hm]
    dsimp only [Option.toList, List.cons_append, List.nil_append]
    refine zr_icmp_ne hC dL_level_67 (tgt := 91) (by decide) (fun c => absurd c (not_not_intro rfl)) (fun c_67 => ?_)
    refine zr_aload_n hC dL_level_70 rfl ?_
    refine zs_callV hC (b := 0) [] [] dL_level_71 ml_L_76 mtX8_batch tX8_batch (by decide) (by decide) (by decide) rfl rfl (by decide) (by decide +kernel) (Nat.le_of_ble_eq_true rfl) rfl ?_
    refine ⟨A, rfl, hc, hg, fun S hc _ => ?_⟩
    rw [fbat p1] at hc ⊢
    have hbw := (p3.btc p1).written
    have hg := hg.kp.set (D := btc A.1) (p3.btc p1)
    obtain ⟨B, dfB⟩ : ∃ B, B = gset (gkp A) (btc A.1) := ⟨_, rfl⟩
    rw [← dfB] at hc hg
    have hB1 : btc A.1 = B.1 := by rw [dfB, gset_1]
    rw [hB1] at p4 p5 hbw ⊢
    dsimp only [Option.toList, List.cons_append, List.nil_append]
    refine zk_iconst hC dL_level_74 (v := nI 4) (by decide +kernel) ?_
    refine zr_icmp_lt hC dL_level_75 (tgt := 91) (by decide) (fun c => absurd c (nI_nlt (by omega) (by omega))) (fun c_75 => ?_)
    refine zr_aload_n hC dL_level_78 rfl ?_
    refine zk_bipush hC dL_level_79 (v := nI 7) (by decide +kernel) ?_
    refine zs_callV hC (b := 0) [_] [] dL_level_81 ml_L_37 mtX8_count tX8_count (by decide) (by decide) (by decide) rfl rfl (by decide) (by decide +kernel) (Nat.le_of_ble_eq_true rfl) rfl ?_
    refine ⟨B, _, rfl, hc, hg, fun S hc _ => ?_⟩
    rw [fc_7w p5.1]
    dsimp only [Option.toList, List.cons_append, List.nil_append]
    refine zr_if_ne hC dL_level_84 (tgt := 91) (by decide) (fun c => absurd c (by decide +kernel)) (fun c_84 => ?_)
    refine zk_iconst hC dL_level_87 (v := nI 1) (by decide +kernel) ?_
    refine zr_goto hC dL_level_88 (tgt := 92) (by decide) ?_
    refine zr_istore_n hC dL_level_92 (by decide) ?_
    refine zk_iconst hC dL_level_93 (v := nI 1) (by decide +kernel) ?_
    refine zr_istore hC dL_level_94 (by decide) ?_
    refine zR_sub [(0, .ref 0), (1, .ref 245), (2, .int (nI 1)), (3, .int (nI n)), (4, .int (nI i)), (6, .int (nI 1))] ⟨rfl, rfl, rfl, rfl, rfl, rfl, trivial⟩ ?_
    refine lL_lv1 hC hg p5.2.1 (fun S lv hc h => ?_) 15 1 S (by omega) (Nat.le_refl _) hc
    obtain ⟨v0, v1, v2, v3, v4, -⟩ := h
    refine zR_sub [(0, .ref 0), (1, .ref 245), (2, .int (nI 1)), (3, .int (nI n)), (4, .int (nI i))] ⟨v0, v1, v2, v3, v4, trivial⟩ ?_
    refine zn_iinc hC dL_level_214 rfl (by decide) (zk_inc _ 1) ?_
    refine zr_goto hC dL_level_217 (tgt := 17) (by decide) ?_
    exact zR_sub [(0, .ref 0), (1, .ref 245), (2, .int (nI 1)), (3, .int (nI n)), (4, .int (nI (i + 1)))] ⟨rfl, rfl, rfl, rfl, rfl, trivial⟩ (ih (i + 1) S B (by omega) hc hg p5)
def spL_level : zSpS := fun L xs av S Q => ∃ G : zG, av = [.ref 0, .ref 245] ∧ L ≤ 260 ∧ CG S G ∧ GI G ∧ (∀ c, lvI c 0 G.1) ∧ ∀ S' G', CG S' G' → GI G' → 0 < G'.1 6 0 → G'.1 6 3 = 1 → Q (some (.int (nI 1))) S'
set_option maxHeartbeats 1000000 in
set_option maxRecDepth 100000 in
theorem tL_level : zMS yL_level cL_level 8 (some .boolean) 7 spL_level := by
  refine zMS.of (by decide) (by decide) (fun L xs av S Q h => by obtain ⟨G, rfl, hL, hc, hg, hv, hQ⟩ := h; exact Nat.le_of_ble_eq_true rfl) (fun C τ ι av S Q Qr L xs h hr hC hX hE => ?_)
  obtain ⟨G, rfl, hL, hc, hg, hv, hQ⟩ := h
  show zR C τ ι _ 0 0 0 [(0, .ref 0), (1, .ref 245)] [] _
  refine zk_iconst hC dL_level_0 (v := nI 1) (by decide +kernel) ?_
  refine zr_istore_n hC dL_level_1 (by decide) ?_
  refine zk_iconst hC dL_level_2 (v := nI 1) (by decide +kernel) ?_
  refine zr_aload_n hC dL_level_3 rfl ?_
  refine zk_bipush hC dL_level_4 (v := nI 14) (by decide +kernel) ?_
  refine zs_callSS hC hX [_, _] [_] dL_level_6 ml_L_22 mtL_cell tL_cell (by decide) (by decide) (by decide) rfl (Nat.le_of_ble_eq_true rfl) rfl ?_
  refine ⟨14, rfl, by decide, hL, ?_⟩
  have hcx := pcell_lt L xs 14
  dsimp only [Option.toList, List.cons_append, List.nil_append]
  refine zk_bipush hC dL_level_9 (v := nI 9) (by decide +kernel) ?_
  refine zn_irem hC dL_level_11 (by decide +kernel) (pk_rem hcx (by decide) (by decide)) ?_
  refine zn_iadd hC dL_level_12 (nI_add _ _) ?_
  refine zr_istore_n hC dL_level_13 (by decide) ?_
  refine zk_iconst hC dL_level_14 (v := nI 0) (by decide +kernel) ?_
  refine zr_istore hC dL_level_15 (by decide) ?_
  obtain ⟨n, en⟩ : ∃ n, 1 + pcell L xs 14 % 9 = n := ⟨_, rfl⟩
  rw [en]
  refine zR_sub [(0, .ref 0), (1, .ref 245), (2, .int (nI 1)), (3, .int (nI n)), (4, .int (nI 0))] ⟨rfl, rfl, rfl, rfl, rfl, trivial⟩ ?_
  refine lL_lv2 hC hX hL (by omega) (fun S H hc hg hv lv h => ?_) n 0 S G (Nat.zero_add _) hc hg (hv _)
  obtain ⟨v0, v2, v3, -⟩ := h
  refine zR_sub [(0, .ref 0), (2, .int (nI 1)), (3, .int (nI n))] ⟨v0, v2, v3, trivial⟩ ?_
  refine zr_iload_n hC dL_level_220 rfl ?_
  refine zr_if_eq hC dL_level_221 (tgt := 240) (by decide) (fun c => absurd c (by decide +kernel)) (fun c_221 => ?_)
  refine zr_aload_n hC dL_level_224 rfl ?_
  refine zk_iconst hC dL_level_225 (v := nI 0) (by decide +kernel) ?_
  refine zs_callV hC (b := 0) [_] [] dL_level_226 ml_L_37 mtX8_count tX8_count (by decide) (by decide) (by decide) rfl rfl (by decide) (by decide +kernel) (Nat.le_of_ble_eq_true rfl) rfl ?_
  refine ⟨H, _, rfl, hc, hg, fun S hc _ => ?_⟩
  rw [fc_0]
  dsimp only [Option.toList, List.cons_append, List.nil_append]
  refine zs_callS hC [_] [] dL_level_229 ml_L_81 mtL_bits tL_bits (by decide) (by decide) (by decide) rfl (Nat.le_of_ble_eq_true rfl) rfl ?_
  refine ⟨_, rfl, sm_lt _ _, ?_⟩
  rw [hv.2.2.2.2.2.2.1]
  dsimp only [Option.toList, List.cons_append, List.nil_append]
  refine zr_iload_n hC dL_level_232 rfl ?_
  refine zr_icmp_ne hC dL_level_233 (tgt := 240) (by decide) (fun c => absurd c (not_not_intro rfl)) (fun c_233 => ?_)
  refine zk_iconst hC dL_level_236 (v := nI 1) (by decide +kernel) ?_
  refine zr_goto hC dL_level_237 (tgt := 241) (by decide) ?_
  exact zr_zreturn hC hE dL_level_241 (by first | exact Or.inl rfl | exact Or.inr rfl) (hr _ _ (hQ _ _ hc hg (hv.2.2.2.2.2.1 (by omega)) hv.2.2.1))
