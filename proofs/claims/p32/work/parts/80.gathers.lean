/-! THE LAW'S gathers: three are told to come, to leave, if they may -/
theorem z_15m {n m : Nat} (h : n % 16 = m) : nI n &&& nI 15 = nI m := by rw [← h]; exact fa_mask n 4
theorem gs1 {D : zD} (hI : INV D) {m : Nat} (hm : m < 16) (h0 : D 0 m ≠ 0) : zb ((sm (D 0) 1).testBit m) = nI 1 := by rw [sm_bit hm, bn_root _ (hI.ok.lt hm) h0]; rfl
theorem gs0 {D : zD} {m : Nat} (hm : m < 16) (h0 : D 0 m = 0) : zb ((sm (D 0) 1).testBit m) = nI 0 := by rw [sm_bit hm, h0, show bn 0 1 = false from bnf_0 5 1]; rfl
theorem gt1 {D : zD} {m : Nat} (hm : m < 16) (h : D 1 m = 1 ∨ D 1 m = 2) : zb ((cms D ||| lvs D).testBit m) = nI 1 := by
  rw [Nat.testBit_or, dm_b hm, dm_b hm]
  rcases h with h | h <;> rw [h] <;> rfl
theorem gt0 {D : zD} {m : Nat} (hm : m < 16) (h : D 1 m = 0) : zb ((cms D ||| lvs D).testBit m) = nI 0 := by
  rw [Nat.testBit_or, dm_b hm, dm_b hm, h]; rfl
theorem gd1 {f : Nat → Nat} {c m : Nat} (hm : m < 16) (h : f m = c) : zb ((dm (fun j => f j == c)).testBit m) = nI 1 := by
  rw [dm_b hm, beq_iff_eq.mpr h]; rfl
theorem gd0 {f : Nat → Nat} {c m : Nat} (hm : m < 16) (h : f m ≠ c) : zb ((dm (fun j => f j == c)).testBit m) = nI 0 := by
  rw [dm_b hm, beq_eq_false_iff_ne.mpr h]; rfl
theorem or_lt16 {a b : Nat} (ha : a < 65536) (hb : b < 65536) : a ||| b < 65536 := Nat.or_lt_two_pow (n := 16) ha hb
/-- what is so when some have been told -/
def gI (D0 D : zD) : Prop := INV D ∧ SEC D ∧ (∀ m, m < 16 → D 2 m = 0) ∧ ∀ f, f ≠ 1 → D f = D0 f
theorem gI.of {D : zD} (w : WS D) : gI D D := ⟨w.1, w.2.1, w.2.2.2, fun _ _ => rfl⟩
theorem gI.come {D0 D : zD} (h : gI D0 D) {m : Nat} (h0 : D 0 m = 0) : gI D0 (dset D 1 m 1) := ⟨h.1.come h0, h.2.1.told, fun j hj => by rw [dset_ff _ _ _ (by decide)]; exact h.2.2.1 j hj, fun f hf => (dset_ff _ _ _ hf).trans (h.2.2.2 f hf)⟩
theorem gI.leave {D0 D : zD} (h : gI D0 D) {m : Nat} (h0 : D 0 m ≠ 0) : gI D0 (dset D 1 m 2) := ⟨h.1.leave h0, h.2.1.told, fun j hj => by rw [dset_ff _ _ _ (by decide)]; exact h.2.2.1 j hj, fun f hf => (dset_ff _ _ _ hf).trans (h.2.2.2 f hf)⟩
theorem gcase {D : zD} (hI : INV D) {m : Nat} (hm : m < 16) : (D 0 m ≠ 0 ∧ D 1 m = 2) ∨ (D 0 m ≠ 0 ∧ D 1 m = 0) ∨ (D 0 m = 0 ∧ D 1 m = 1) ∨ (D 0 m = 0 ∧ D 1 m = 0) := by
  have := hI.told hm
  omega
set_option maxHeartbeats 4000000 in
set_option maxRecDepth 100000 in
theorem lL_gathers {C : zCx} {τ : Nat → ClassId} {ι : Nat → Nat} (hC : zOK C τ (zrm 5 0 0) yL_gathers.cls cL_gathers 7) {D0 : zD} {c : Nat} (hcx : c < 2147483648) (k : ∀ S G, CG S G → GI G → gI D0 G.1 → (∃ m, m < 16 ∧ G.1 1 m ≠ 0) → ∀ {lv : List (Nat × Value)}, zsub lv [(2, .int (nI 1))] → zR C τ ι 7 0 0 212 lv [] (zcells S)) : ∀ (n i : Nat) (S : zS) (G : zG), i + n = 3 → CG S G → GI G → gI D0 G.1 → (0 < i → ∃ m, m < 16 ∧ G.1 1 m ≠ 0) → zR C τ ι 7 0 0 4 [(0, .ref 0), (1, .int (nI c)), (2, .int (nI 1)), (3, .int (nI i))] [] (zcells S) := by
  intro n
  induction n with
  | zero =>
    intro i S G hi hc hg hI ht
    refine zr_iload_n hC dL_gathers_4 rfl ?_
    refine zk_iconst hC dL_gathers_5 (v := nI 3) (by decide +kernel) ?_
    refine zr_icmp_ge hC dL_gathers_6 (tgt := 212) (by decide) (fun c_6 => ?_) (fun c => absurd c (not_not_intro (nI_le (by omega) (by omega))))
    exact k S G hc hg hI (ht (by omega)) ⟨rfl, trivial⟩
  | succ n ih =>
    intro i S G hi hc hg hI ht
    refine zr_iload_n hC dL_gathers_4 rfl ?_
    refine zk_iconst hC dL_gathers_5 (v := nI 3) (by decide +kernel) ?_
    refine zr_icmp_ge hC dL_gathers_6 (tgt := 212) (by decide) (fun c => absurd c (nI_ge (by omega) (by omega))) (fun c_6 => ?_)
    refine zr_iload_n hC dL_gathers_9 rfl ?_
    refine zr_if_eq hC dL_gathers_10 (tgt := 212) (by decide) (fun c => absurd c (by decide +kernel)) (fun c_10 => ?_)
    refine zr_iload_n hC dL_gathers_13 rfl ?_
    refine zk_iconst hC dL_gathers_14 (v := nI 5) (by decide +kernel) ?_
    refine zr_iload_n hC dL_gathers_15 rfl ?_
    refine zn_imul hC dL_gathers_16 (pk_mul _ _) ?_
    refine zn_ishr hC dL_gathers_17 (z_shrk hcx (by omega)) ?_
    refine zk_bipush hC dL_gathers_18 (v := nI 15) (by decide +kernel) ?_
    obtain ⟨m, em⟩ : ∃ m, c / 2 ^ (5 * i) % 16 = m := ⟨_, rfl⟩
    have hm : m < 16 := by omega
    refine zn_iand hC dL_gathers_20 (z_15m em) ?_
    refine zr_istore hC dL_gathers_21 (by decide) ?_
    rcases gcase hg.1 hm with ⟨h0, h1⟩ | ⟨h0, h1⟩ | ⟨h0, h1⟩ | ⟨h0, h1⟩
    · refine zr_aload_n hC dL_gathers_23 rfl ?_
      refine zk_iconst hC dL_gathers_24 (v := nI 0) (by decide +kernel) ?_
      refine zs_callV hC (b := 0) [_] [] dL_gathers_25 ml_L_37 mtX8_count tX8_count (by decide) (by decide) (by decide) rfl rfl (by decide) (by decide +kernel) (Nat.le_of_ble_eq_true rfl) rfl ?_
      refine ⟨G, _, rfl, hc, hg, fun S hc _ => ?_⟩
      rw [fc_0]
      dsimp only [Option.toList, List.cons_append, List.nil_append]
      refine zr_iload hC dL_gathers_28 rfl ?_
      refine zs_callS hC [_, _] [] dL_gathers_30 ml_L_84 mtL_has tL_has (by decide) (by decide) (by decide) rfl (Nat.le_of_ble_eq_true rfl) rfl ?_
      refine ⟨_, m, rfl, sm_lt _ _, hm, ?_⟩
      rw [gs1 hg.1 hm h0]
      dsimp only [Option.toList, List.cons_append, List.nil_append]
      refine zr_istore hC dL_gathers_33 (by decide) ?_
      refine zr_aload_n hC dL_gathers_35 rfl ?_
      refine zk_iconst hC dL_gathers_36 (v := nI 1) (by decide +kernel) ?_
      refine zs_callV hC (b := 0) [_] [] dL_gathers_37 ml_L_37 mtX8_count tX8_count (by decide) (by decide) (by decide) rfl rfl (by decide) (by decide +kernel) (Nat.le_of_ble_eq_true rfl) rfl ?_
      refine ⟨G, _, rfl, hc, hg, fun S hc _ => ?_⟩
      rw [fc_1]
      dsimp only [Option.toList, List.cons_append, List.nil_append]
      refine zr_aload_n hC dL_gathers_40 rfl ?_
      refine zk_iconst hC dL_gathers_41 (v := nI 2) (by decide +kernel) ?_
      refine zs_callV hC (b := 0) [_] [_] dL_gathers_42 ml_L_37 mtX8_count tX8_count (by decide) (by decide) (by decide) rfl rfl (by decide) (by decide +kernel) (Nat.le_of_ble_eq_true rfl) rfl ?_
      refine ⟨G, _, rfl, hc, hg, fun S hc _ => ?_⟩
      rw [fc_2]
      dsimp only [Option.toList, List.cons_append, List.nil_append]
      refine zn_ior hC dL_gathers_45 (fa_or _ _) ?_
      refine zr_iload hC dL_gathers_46 rfl ?_
      refine zs_callS hC [_, _] [] dL_gathers_48 ml_L_84 mtL_has tL_has (by decide) (by decide) (by decide) rfl (Nat.le_of_ble_eq_true rfl) rfl ?_
      refine ⟨_, m, rfl, or_lt16 (dm_lt _) (dm_lt _), hm, ?_⟩
      rw [gt1 hm (Or.inr h1)]
      dsimp only [Option.toList, List.cons_append, List.nil_append]
      refine zr_istore hC dL_gathers_51 (by decide) ?_
      refine zr_iload hC dL_gathers_53 rfl ?_
      refine zr_if_eq hC dL_gathers_55 (tgt := 104) (by decide) (fun c => absurd c (by decide +kernel)) (fun c_55 => ?_)
      refine zr_aload_n hC dL_gathers_58 rfl ?_
      refine zr_iload hC dL_gathers_59 rfl ?_
      refine zs_callV hC (b := 0) [_] [] dL_gathers_61 ml_L_70 mtX8_come tX8_come (by decide) (by decide) (by decide) rfl rfl (by decide) (by decide +kernel) (Nat.le_of_ble_eq_true rfl) rfl ?_
      refine ⟨G, _, rfl, hc, hg, fun S hc _ => ?_⟩
      rw [fcomN hm (fun z => by omega)] at hc ⊢
      dsimp only [Option.toList, List.cons_append, List.nil_append]
      refine zk_bipush hC dL_gathers_64 (v := (-2)) (by decide +kernel) ?_
      refine zr_icmp_ne hC dL_gathers_66 (tgt := 100) (by decide) (fun c => absurd c (not_not_intro rfl)) (fun c_66 => ?_)
      refine zr_aload_n hC dL_gathers_69 rfl ?_
      refine zr_iload hC dL_gathers_70 rfl ?_
      refine zs_callV hC (b := 0) [_] [] dL_gathers_72 ml_L_88 mtX8_leave tX8_leave (by decide) (by decide) (by decide) rfl rfl (by decide) (by decide +kernel) (Nat.le_of_ble_eq_true rfl) rfl ?_
      refine ⟨G, _, rfl, hc, hg, fun S hc _ => ?_⟩
      rw [fleaN hm (fun z => by omega)] at hc ⊢
      have hl1 : G.1 1 m = 2 := h1
      have hI1 := hI
      dsimp only [Option.toList, List.cons_append, List.nil_append]
      refine zr_iload hC dL_gathers_75 rfl ?_
      refine zr_if_eq hC dL_gathers_77 (tgt := 85) (by decide) (fun c => absurd c (by decide +kernel)) (fun c_77 => ?_)
      refine zk_bipush hC dL_gathers_80 (v := (-2)) (by decide +kernel) ?_
      refine zr_goto hC dL_gathers_82 (tgt := 93) (by decide) ?_
      refine zr_icmp_ne hC dL_gathers_93 (tgt := 100) (by decide) (fun c => absurd c (not_not_intro rfl)) (fun c_93 => ?_)
      refine zk_iconst hC dL_gathers_96 (v := nI 1) (by decide +kernel) ?_
      refine zr_goto hC dL_gathers_97 (tgt := 147) (by decide) ?_
      refine zr_istore_n hC dL_gathers_147 (by decide) ?_
      refine zr_iload_n hC dL_gathers_148 rfl ?_
      refine zr_if_eq hC dL_gathers_149 (tgt := 204) (by decide) (fun c => absurd c (by decide +kernel)) (fun c_149 => ?_)
      refine zr_aload_n hC dL_gathers_152 rfl ?_
      refine zk_iconst hC dL_gathers_153 (v := nI 1) (by decide +kernel) ?_
      refine zs_callV hC (b := 0) [_] [] dL_gathers_154 ml_L_37 mtX8_count tX8_count (by decide) (by decide) (by decide) rfl rfl (by decide) (by decide +kernel) (Nat.le_of_ble_eq_true rfl) rfl ?_
      refine ⟨G, _, rfl, hc, hg, fun S hc _ => ?_⟩
      rw [fc_1]
      dsimp only [Option.toList, List.cons_append, List.nil_append]
      refine zr_iload hC dL_gathers_157 rfl ?_
      refine zs_callS hC [_, _] [] dL_gathers_159 ml_L_84 mtL_has tL_has (by decide) (by decide) (by decide) rfl (Nat.le_of_ble_eq_true rfl) rfl ?_
      refine ⟨_, m, rfl, dm_lt _, hm, ?_⟩
      rw [gd0 hm (by omega)]
      dsimp only [Option.toList, List.cons_append, List.nil_append]
      refine zr_if_eq hC dL_gathers_162 (tgt := 176) (by decide) (fun c_162 => ?_) (fun c => absurd c (by decide +kernel))
      refine zr_aload_n hC dL_gathers_176 rfl ?_
      refine zk_iconst hC dL_gathers_177 (v := nI 2) (by decide +kernel) ?_
      refine zs_callV hC (b := 0) [_] [] dL_gathers_178 ml_L_37 mtX8_count tX8_count (by decide) (by decide) (by decide) rfl rfl (by decide) (by decide +kernel) (Nat.le_of_ble_eq_true rfl) rfl ?_
      refine ⟨G, _, rfl, hc, hg, fun S hc _ => ?_⟩
      rw [fc_2]
      dsimp only [Option.toList, List.cons_append, List.nil_append]
      refine zr_iload hC dL_gathers_181 rfl ?_
      refine zs_callS hC [_, _] [] dL_gathers_183 ml_L_84 mtL_has tL_has (by decide) (by decide) (by decide) rfl (Nat.le_of_ble_eq_true rfl) rfl ?_
      refine ⟨_, m, rfl, dm_lt _, hm, ?_⟩
      rw [gd1 hm hl1]
      dsimp only [Option.toList, List.cons_append, List.nil_append]
      refine zr_if_eq hC dL_gathers_186 (tgt := 200) (by decide) (fun c => absurd c (by decide +kernel)) (fun c_186 => ?_)
      refine zr_aload_n hC dL_gathers_189 rfl ?_
      refine zr_iload hC dL_gathers_190 rfl ?_
      refine zk_iconst hC dL_gathers_192 (v := nI 5) (by decide +kernel) ?_
      refine zs_callV hC (b := 0) [_, _] [] dL_gathers_193 ml_L_91 mtX8_member tX8_member (by decide) (by decide) (by decide) rfl rfl (by decide) (by decide +kernel) (Nat.le_of_ble_eq_true rfl) rfl ?_
      refine ⟨G, _, _, rfl, hc, hg, fun S hc _ => ?_⟩
      rw [fmem hm (by decide), show aMember G.1 m 5 = nI (G.1 1 m) from rfl, hl1]
      dsimp only [Option.toList, List.cons_append, List.nil_append]
      refine zk_iconst hC dL_gathers_196 (v := nI 2) (by decide +kernel) ?_
      refine zr_icmp_ne hC dL_gathers_197 (tgt := 204) (by decide) (fun c => absurd c (by decide +kernel)) (fun c_197 => ?_)
      refine zk_iconst hC dL_gathers_200 (v := nI 1) (by decide +kernel) ?_
      refine zr_goto hC dL_gathers_201 (tgt := 205) (by decide) ?_
      refine zr_istore_n hC dL_gathers_205 (by decide) ?_
      refine zn_iinc hC dL_gathers_206 rfl (by decide) (zk_inc _ 1) ?_
      refine zr_goto hC dL_gathers_209 (tgt := 4) (by decide) ?_
      exact zR_sub [(0, .ref 0), (1, .int (nI c)), (2, .int (nI 1)), (3, .int (nI (i + 1)))] ⟨rfl, rfl, rfl, rfl, trivial⟩ (ih (i + 1) S G (by omega) hc hg hI1 (fun _ => ⟨m, hm, by omega⟩))
    · refine zr_aload_n hC dL_gathers_23 rfl ?_
      refine zk_iconst hC dL_gathers_24 (v := nI 0) (by decide +kernel) ?_
      refine zs_callV hC (b := 0) [_] [] dL_gathers_25 ml_L_37 mtX8_count tX8_count (by decide) (by decide) (by decide) rfl rfl (by decide) (by decide +kernel) (Nat.le_of_ble_eq_true rfl) rfl ?_
      refine ⟨G, _, rfl, hc, hg, fun S hc _ => ?_⟩
      rw [fc_0]
      dsimp only [Option.toList, List.cons_append, List.nil_append]
      refine zr_iload hC dL_gathers_28 rfl ?_
      refine zs_callS hC [_, _] [] dL_gathers_30 ml_L_84 mtL_has tL_has (by decide) (by decide) (by decide) rfl (Nat.le_of_ble_eq_true rfl) rfl ?_
      refine ⟨_, m, rfl, sm_lt _ _, hm, ?_⟩
      rw [gs1 hg.1 hm h0]
      dsimp only [Option.toList, List.cons_append, List.nil_append]
      refine zr_istore hC dL_gathers_33 (by decide) ?_
      refine zr_aload_n hC dL_gathers_35 rfl ?_
      refine zk_iconst hC dL_gathers_36 (v := nI 1) (by decide +kernel) ?_
      refine zs_callV hC (b := 0) [_] [] dL_gathers_37 ml_L_37 mtX8_count tX8_count (by decide) (by decide) (by decide) rfl rfl (by decide) (by decide +kernel) (Nat.le_of_ble_eq_true rfl) rfl ?_
      refine ⟨G, _, rfl, hc, hg, fun S hc _ => ?_⟩
      rw [fc_1]
      dsimp only [Option.toList, List.cons_append, List.nil_append]
      refine zr_aload_n hC dL_gathers_40 rfl ?_
      refine zk_iconst hC dL_gathers_41 (v := nI 2) (by decide +kernel) ?_
      refine zs_callV hC (b := 0) [_] [_] dL_gathers_42 ml_L_37 mtX8_count tX8_count (by decide) (by decide) (by decide) rfl rfl (by decide) (by decide +kernel) (Nat.le_of_ble_eq_true rfl) rfl ?_
      refine ⟨G, _, rfl, hc, hg, fun S hc _ => ?_⟩
      rw [fc_2]
      dsimp only [Option.toList, List.cons_append, List.nil_append]
      refine zn_ior hC dL_gathers_45 (fa_or _ _) ?_
      refine zr_iload hC dL_gathers_46 rfl ?_
      refine zs_callS hC [_, _] [] dL_gathers_48 ml_L_84 mtL_has tL_has (by decide) (by decide) (by decide) rfl (Nat.le_of_ble_eq_true rfl) rfl ?_
      refine ⟨_, m, rfl, or_lt16 (dm_lt _) (dm_lt _), hm, ?_⟩
      rw [gt0 hm h1]
      dsimp only [Option.toList, List.cons_append, List.nil_append]
      refine zr_istore hC dL_gathers_51 (by decide) ?_
      refine zr_iload hC dL_gathers_53 rfl ?_
      refine zr_if_eq hC dL_gathers_55 (tgt := 104) (by decide) (fun c => absurd c (by decide +kernel)) (fun c_55 => ?_)
      refine zr_aload_n hC dL_gathers_58 rfl ?_
      refine zr_iload hC dL_gathers_59 rfl ?_
      refine zs_callV hC (b := 0) [_] [] dL_gathers_61 ml_L_70 mtX8_come tX8_come (by decide) (by decide) (by decide) rfl rfl (by decide) (by decide +kernel) (Nat.le_of_ble_eq_true rfl) rfl ?_
      refine ⟨G, _, rfl, hc, hg, fun S hc _ => ?_⟩
      rw [fcomN hm (fun z => by omega)] at hc ⊢
      dsimp only [Option.toList, List.cons_append, List.nil_append]
      refine zk_bipush hC dL_gathers_64 (v := (-2)) (by decide +kernel) ?_
      refine zr_icmp_ne hC dL_gathers_66 (tgt := 100) (by decide) (fun c => absurd c (not_not_intro rfl)) (fun c_66 => ?_)
      refine zr_aload_n hC dL_gathers_69 rfl ?_
      refine zr_iload hC dL_gathers_70 rfl ?_
      refine zs_callV hC (b := 0) [_] [] dL_gathers_72 ml_L_88 mtX8_leave tX8_leave (by decide) (by decide) (by decide) rfl rfl (by decide) (by decide +kernel) (Nat.le_of_ble_eq_true rfl) rfl ?_
      refine ⟨G, _, rfl, hc, hg, fun S hc _ => ?_⟩
      rw [flea hm ⟨h0, by omega⟩] at hc ⊢
      obtain ⟨H, hH⟩ : ∃ H, H = gset (gkp G) (dset G.1 1 m 2) := ⟨_, rfl⟩
      rw [← hH] at hc ⊢
      have hg : GI H := by rw [hH]; exact hg.kp.set (hg.1.leave h0)
      have hI1 : gI D0 H.1 := by rw [hH]; exact hI.leave h0
      have hl1 : H.1 1 m = 2 := by rw [hH]; exact dset_at _ _ _ _
      have he : dset G.1 1 m 2 = H.1 := by rw [hH]; rfl
      rw [he]
      dsimp only [Option.toList, List.cons_append, List.nil_append]
      refine zr_iload hC dL_gathers_75 rfl ?_
      refine zr_if_eq hC dL_gathers_77 (tgt := 85) (by decide) (fun c_77 => ?_) (fun c => absurd c (by decide +kernel))
      refine zr_aload_n hC dL_gathers_85 rfl ?_
      refine zk_iconst hC dL_gathers_86 (v := nI 2) (by decide +kernel) ?_
      refine zs_callV hC (b := 0) [_] [_] dL_gathers_87 ml_L_37 mtX8_count tX8_count (by decide) (by decide) (by decide) rfl rfl (by decide) (by decide +kernel) (Nat.le_of_ble_eq_true rfl) rfl ?_
      refine ⟨H, _, rfl, hc, hg, fun S hc _ => ?_⟩
      rw [fc_2]
      dsimp only [Option.toList, List.cons_append, List.nil_append]
      refine zs_callS hC [_] [_] dL_gathers_90 ml_L_81 mtL_bits tL_bits (by decide) (by decide) (by decide) rfl (Nat.le_of_ble_eq_true rfl) rfl ?_
      refine ⟨_, rfl, dm_lt _, ?_⟩
      dsimp only [Option.toList, List.cons_append, List.nil_append]
      refine zr_icmp_ne hC dL_gathers_93 (tgt := 100) (by decide) (fun c => absurd c (not_not_intro rfl)) (fun c_93 => ?_)
      refine zk_iconst hC dL_gathers_96 (v := nI 1) (by decide +kernel) ?_
      refine zr_goto hC dL_gathers_97 (tgt := 147) (by decide) ?_
      refine zr_istore_n hC dL_gathers_147 (by decide) ?_
      refine zr_iload_n hC dL_gathers_148 rfl ?_
      refine zr_if_eq hC dL_gathers_149 (tgt := 204) (by decide) (fun c => absurd c (by decide +kernel)) (fun c_149 => ?_)
      refine zr_aload_n hC dL_gathers_152 rfl ?_
      refine zk_iconst hC dL_gathers_153 (v := nI 1) (by decide +kernel) ?_
      refine zs_callV hC (b := 0) [_] [] dL_gathers_154 ml_L_37 mtX8_count tX8_count (by decide) (by decide) (by decide) rfl rfl (by decide) (by decide +kernel) (Nat.le_of_ble_eq_true rfl) rfl ?_
      refine ⟨H, _, rfl, hc, hg, fun S hc _ => ?_⟩
      rw [fc_1]
      dsimp only [Option.toList, List.cons_append, List.nil_append]
      refine zr_iload hC dL_gathers_157 rfl ?_
      refine zs_callS hC [_, _] [] dL_gathers_159 ml_L_84 mtL_has tL_has (by decide) (by decide) (by decide) rfl (Nat.le_of_ble_eq_true rfl) rfl ?_
      refine ⟨_, m, rfl, dm_lt _, hm, ?_⟩
      rw [gd0 hm (by omega)]
      dsimp only [Option.toList, List.cons_append, List.nil_append]
      refine zr_if_eq hC dL_gathers_162 (tgt := 176) (by decide) (fun c_162 => ?_) (fun c => absurd c (by decide +kernel))
      refine zr_aload_n hC dL_gathers_176 rfl ?_
      refine zk_iconst hC dL_gathers_177 (v := nI 2) (by decide +kernel) ?_
      refine zs_callV hC (b := 0) [_] [] dL_gathers_178 ml_L_37 mtX8_count tX8_count (by decide) (by decide) (by decide) rfl rfl (by decide) (by decide +kernel) (Nat.le_of_ble_eq_true rfl) rfl ?_
      refine ⟨H, _, rfl, hc, hg, fun S hc _ => ?_⟩
      rw [fc_2]
      dsimp only [Option.toList, List.cons_append, List.nil_append]
      refine zr_iload hC dL_gathers_181 rfl ?_
      refine zs_callS hC [_, _] [] dL_gathers_183 ml_L_84 mtL_has tL_has (by decide) (by decide) (by decide) rfl (Nat.le_of_ble_eq_true rfl) rfl ?_
      refine ⟨_, m, rfl, dm_lt _, hm, ?_⟩
      rw [gd1 hm hl1]
      dsimp only [Option.toList, List.cons_append, List.nil_append]
      refine zr_if_eq hC dL_gathers_186 (tgt := 200) (by decide) (fun c => absurd c (by decide +kernel)) (fun c_186 => ?_)
      refine zr_aload_n hC dL_gathers_189 rfl ?_
      refine zr_iload hC dL_gathers_190 rfl ?_
      refine zk_iconst hC dL_gathers_192 (v := nI 5) (by decide +kernel) ?_
      refine zs_callV hC (b := 0) [_, _] [] dL_gathers_193 ml_L_91 mtX8_member tX8_member (by decide) (by decide) (by decide) rfl rfl (by decide) (by decide +kernel) (Nat.le_of_ble_eq_true rfl) rfl ?_
      refine ⟨H, _, _, rfl, hc, hg, fun S hc _ => ?_⟩
      rw [fmem hm (by decide), show aMember H.1 m 5 = nI (H.1 1 m) from rfl, hl1]
      dsimp only [Option.toList, List.cons_append, List.nil_append]
      refine zk_iconst hC dL_gathers_196 (v := nI 2) (by decide +kernel) ?_
      refine zr_icmp_ne hC dL_gathers_197 (tgt := 204) (by decide) (fun c => absurd c (by decide +kernel)) (fun c_197 => ?_)
      refine zk_iconst hC dL_gathers_200 (v := nI 1) (by decide +kernel) ?_
      refine zr_goto hC dL_gathers_201 (tgt := 205) (by decide) ?_
      refine zr_istore_n hC dL_gathers_205 (by decide) ?_
      refine zn_iinc hC dL_gathers_206 rfl (by decide) (zk_inc _ 1) ?_
      refine zr_goto hC dL_gathers_209 (tgt := 4) (by decide) ?_
      exact zR_sub [(0, .ref 0), (1, .int (nI c)), (2, .int (nI 1)), (3, .int (nI (i + 1)))] ⟨rfl, rfl, rfl, rfl, trivial⟩ (ih (i + 1) S H (by omega) hc hg hI1 (fun _ => ⟨m, hm, by omega⟩))
    · refine zr_aload_n hC dL_gathers_23 rfl ?_
      refine zk_iconst hC dL_gathers_24 (v := nI 0) (by decide +kernel) ?_
      refine zs_callV hC (b := 0) [_] [] dL_gathers_25 ml_L_37 mtX8_count tX8_count (by decide) (by decide) (by decide) rfl rfl (by decide) (by decide +kernel) (Nat.le_of_ble_eq_true rfl) rfl ?_
      refine ⟨G, _, rfl, hc, hg, fun S hc _ => ?_⟩
      rw [fc_0]
      dsimp only [Option.toList, List.cons_append, List.nil_append]
      refine zr_iload hC dL_gathers_28 rfl ?_
      refine zs_callS hC [_, _] [] dL_gathers_30 ml_L_84 mtL_has tL_has (by decide) (by decide) (by decide) rfl (Nat.le_of_ble_eq_true rfl) rfl ?_
      refine ⟨_, m, rfl, sm_lt _ _, hm, ?_⟩
      rw [gs0 hm h0]
      dsimp only [Option.toList, List.cons_append, List.nil_append]
      refine zr_istore hC dL_gathers_33 (by decide) ?_
      refine zr_aload_n hC dL_gathers_35 rfl ?_
      refine zk_iconst hC dL_gathers_36 (v := nI 1) (by decide +kernel) ?_
      refine zs_callV hC (b := 0) [_] [] dL_gathers_37 ml_L_37 mtX8_count tX8_count (by decide) (by decide) (by decide) rfl rfl (by decide) (by decide +kernel) (Nat.le_of_ble_eq_true rfl) rfl ?_
      refine ⟨G, _, rfl, hc, hg, fun S hc _ => ?_⟩
      rw [fc_1]
      dsimp only [Option.toList, List.cons_append, List.nil_append]
      refine zr_aload_n hC dL_gathers_40 rfl ?_
      refine zk_iconst hC dL_gathers_41 (v := nI 2) (by decide +kernel) ?_
      refine zs_callV hC (b := 0) [_] [_] dL_gathers_42 ml_L_37 mtX8_count tX8_count (by decide) (by decide) (by decide) rfl rfl (by decide) (by decide +kernel) (Nat.le_of_ble_eq_true rfl) rfl ?_
      refine ⟨G, _, rfl, hc, hg, fun S hc _ => ?_⟩
      rw [fc_2]
      dsimp only [Option.toList, List.cons_append, List.nil_append]
      refine zn_ior hC dL_gathers_45 (fa_or _ _) ?_
      refine zr_iload hC dL_gathers_46 rfl ?_
      refine zs_callS hC [_, _] [] dL_gathers_48 ml_L_84 mtL_has tL_has (by decide) (by decide) (by decide) rfl (Nat.le_of_ble_eq_true rfl) rfl ?_
      refine ⟨_, m, rfl, or_lt16 (dm_lt _) (dm_lt _), hm, ?_⟩
      rw [gt1 hm (Or.inl h1)]
      dsimp only [Option.toList, List.cons_append, List.nil_append]
      refine zr_istore hC dL_gathers_51 (by decide) ?_
      refine zr_iload hC dL_gathers_53 rfl ?_
      refine zr_if_eq hC dL_gathers_55 (tgt := 104) (by decide) (fun c_55 => ?_) (fun c => absurd c (by decide +kernel))
      refine zr_aload_n hC dL_gathers_104 rfl ?_
      refine zr_iload hC dL_gathers_105 rfl ?_
      refine zs_callV hC (b := 0) [_] [] dL_gathers_107 ml_L_88 mtX8_leave tX8_leave (by decide) (by decide) (by decide) rfl rfl (by decide) (by decide +kernel) (Nat.le_of_ble_eq_true rfl) rfl ?_
      refine ⟨G, _, rfl, hc, hg, fun S hc _ => ?_⟩
      rw [fleaN hm (fun z => by omega)] at hc ⊢
      dsimp only [Option.toList, List.cons_append, List.nil_append]
      refine zk_bipush hC dL_gathers_110 (v := (-2)) (by decide +kernel) ?_
      refine zr_icmp_ne hC dL_gathers_112 (tgt := 146) (by decide) (fun c => absurd c (not_not_intro rfl)) (fun c_112 => ?_)
      refine zr_aload_n hC dL_gathers_115 rfl ?_
      refine zr_iload hC dL_gathers_116 rfl ?_
      refine zs_callV hC (b := 0) [_] [] dL_gathers_118 ml_L_70 mtX8_come tX8_come (by decide) (by decide) (by decide) rfl rfl (by decide) (by decide +kernel) (Nat.le_of_ble_eq_true rfl) rfl ?_
      refine ⟨G, _, rfl, hc, hg, fun S hc _ => ?_⟩
      rw [fcomN hm (fun z => by omega)] at hc ⊢
      have hl1 : G.1 1 m = 1 := h1
      have hI1 := hI
      dsimp only [Option.toList, List.cons_append, List.nil_append]
      refine zr_iload hC dL_gathers_121 rfl ?_
      refine zr_if_eq hC dL_gathers_123 (tgt := 131) (by decide) (fun c => absurd c (by decide +kernel)) (fun c_123 => ?_)
      refine zk_bipush hC dL_gathers_126 (v := (-2)) (by decide +kernel) ?_
      refine zr_goto hC dL_gathers_128 (tgt := 139) (by decide) ?_
      refine zr_icmp_ne hC dL_gathers_139 (tgt := 146) (by decide) (fun c => absurd c (not_not_intro rfl)) (fun c_139 => ?_)
      refine zk_iconst hC dL_gathers_142 (v := nI 1) (by decide +kernel) ?_
      refine zr_goto hC dL_gathers_143 (tgt := 147) (by decide) ?_
      refine zr_istore_n hC dL_gathers_147 (by decide) ?_
      refine zr_iload_n hC dL_gathers_148 rfl ?_
      refine zr_if_eq hC dL_gathers_149 (tgt := 204) (by decide) (fun c => absurd c (by decide +kernel)) (fun c_149 => ?_)
      refine zr_aload_n hC dL_gathers_152 rfl ?_
      refine zk_iconst hC dL_gathers_153 (v := nI 1) (by decide +kernel) ?_
      refine zs_callV hC (b := 0) [_] [] dL_gathers_154 ml_L_37 mtX8_count tX8_count (by decide) (by decide) (by decide) rfl rfl (by decide) (by decide +kernel) (Nat.le_of_ble_eq_true rfl) rfl ?_
      refine ⟨G, _, rfl, hc, hg, fun S hc _ => ?_⟩
      rw [fc_1]
      dsimp only [Option.toList, List.cons_append, List.nil_append]
      refine zr_iload hC dL_gathers_157 rfl ?_
      refine zs_callS hC [_, _] [] dL_gathers_159 ml_L_84 mtL_has tL_has (by decide) (by decide) (by decide) rfl (Nat.le_of_ble_eq_true rfl) rfl ?_
      refine ⟨_, m, rfl, dm_lt _, hm, ?_⟩
      rw [gd1 hm hl1]
      dsimp only [Option.toList, List.cons_append, List.nil_append]
      refine zr_if_eq hC dL_gathers_162 (tgt := 176) (by decide) (fun c => absurd c (by decide +kernel)) (fun c_162 => ?_)
      refine zr_aload_n hC dL_gathers_165 rfl ?_
      refine zr_iload hC dL_gathers_166 rfl ?_
      refine zk_iconst hC dL_gathers_168 (v := nI 5) (by decide +kernel) ?_
      refine zs_callV hC (b := 0) [_, _] [] dL_gathers_169 ml_L_91 mtX8_member tX8_member (by decide) (by decide) (by decide) rfl rfl (by decide) (by decide +kernel) (Nat.le_of_ble_eq_true rfl) rfl ?_
      refine ⟨G, _, _, rfl, hc, hg, fun S hc _ => ?_⟩
      rw [fmem hm (by decide), show aMember G.1 m 5 = nI (G.1 1 m) from rfl, hl1]
      dsimp only [Option.toList, List.cons_append, List.nil_append]
      refine zk_iconst hC dL_gathers_172 (v := nI 1) (by decide +kernel) ?_
      refine zr_icmp_ne hC dL_gathers_173 (tgt := 204) (by decide) (fun c => absurd c (by decide +kernel)) (fun c_173 => ?_)
      refine zr_aload_n hC dL_gathers_176 rfl ?_
      refine zk_iconst hC dL_gathers_177 (v := nI 2) (by decide +kernel) ?_
      refine zs_callV hC (b := 0) [_] [] dL_gathers_178 ml_L_37 mtX8_count tX8_count (by decide) (by decide) (by decide) rfl rfl (by decide) (by decide +kernel) (Nat.le_of_ble_eq_true rfl) rfl ?_
      refine ⟨G, _, rfl, hc, hg, fun S hc _ => ?_⟩
      rw [fc_2]
      dsimp only [Option.toList, List.cons_append, List.nil_append]
      refine zr_iload hC dL_gathers_181 rfl ?_
      refine zs_callS hC [_, _] [] dL_gathers_183 ml_L_84 mtL_has tL_has (by decide) (by decide) (by decide) rfl (Nat.le_of_ble_eq_true rfl) rfl ?_
      refine ⟨_, m, rfl, dm_lt _, hm, ?_⟩
      rw [gd0 hm (by omega)]
      dsimp only [Option.toList, List.cons_append, List.nil_append]
      refine zr_if_eq hC dL_gathers_186 (tgt := 200) (by decide) (fun c_186 => ?_) (fun c => absurd c (by decide +kernel))
      refine zk_iconst hC dL_gathers_200 (v := nI 1) (by decide +kernel) ?_
      refine zr_goto hC dL_gathers_201 (tgt := 205) (by decide) ?_
      refine zr_istore_n hC dL_gathers_205 (by decide) ?_
      refine zn_iinc hC dL_gathers_206 rfl (by decide) (zk_inc _ 1) ?_
      refine zr_goto hC dL_gathers_209 (tgt := 4) (by decide) ?_
      exact zR_sub [(0, .ref 0), (1, .int (nI c)), (2, .int (nI 1)), (3, .int (nI (i + 1)))] ⟨rfl, rfl, rfl, rfl, trivial⟩ (ih (i + 1) S G (by omega) hc hg hI1 (fun _ => ⟨m, hm, by omega⟩))
    · refine zr_aload_n hC dL_gathers_23 rfl ?_
      refine zk_iconst hC dL_gathers_24 (v := nI 0) (by decide +kernel) ?_
      refine zs_callV hC (b := 0) [_] [] dL_gathers_25 ml_L_37 mtX8_count tX8_count (by decide) (by decide) (by decide) rfl rfl (by decide) (by decide +kernel) (Nat.le_of_ble_eq_true rfl) rfl ?_
      refine ⟨G, _, rfl, hc, hg, fun S hc _ => ?_⟩
      rw [fc_0]
      dsimp only [Option.toList, List.cons_append, List.nil_append]
      refine zr_iload hC dL_gathers_28 rfl ?_
      refine zs_callS hC [_, _] [] dL_gathers_30 ml_L_84 mtL_has tL_has (by decide) (by decide) (by decide) rfl (Nat.le_of_ble_eq_true rfl) rfl ?_
      refine ⟨_, m, rfl, sm_lt _ _, hm, ?_⟩
      rw [gs0 hm h0]
      dsimp only [Option.toList, List.cons_append, List.nil_append]
      refine zr_istore hC dL_gathers_33 (by decide) ?_
      refine zr_aload_n hC dL_gathers_35 rfl ?_
      refine zk_iconst hC dL_gathers_36 (v := nI 1) (by decide +kernel) ?_
      refine zs_callV hC (b := 0) [_] [] dL_gathers_37 ml_L_37 mtX8_count tX8_count (by decide) (by decide) (by decide) rfl rfl (by decide) (by decide +kernel) (Nat.le_of_ble_eq_true rfl) rfl ?_
      refine ⟨G, _, rfl, hc, hg, fun S hc _ => ?_⟩
      rw [fc_1]
      dsimp only [Option.toList, List.cons_append, List.nil_append]
      refine zr_aload_n hC dL_gathers_40 rfl ?_
      refine zk_iconst hC dL_gathers_41 (v := nI 2) (by decide +kernel) ?_
      refine zs_callV hC (b := 0) [_] [_] dL_gathers_42 ml_L_37 mtX8_count tX8_count (by decide) (by decide) (by decide) rfl rfl (by decide) (by decide +kernel) (Nat.le_of_ble_eq_true rfl) rfl ?_
      refine ⟨G, _, rfl, hc, hg, fun S hc _ => ?_⟩
      rw [fc_2]
      dsimp only [Option.toList, List.cons_append, List.nil_append]
      refine zn_ior hC dL_gathers_45 (fa_or _ _) ?_
      refine zr_iload hC dL_gathers_46 rfl ?_
      refine zs_callS hC [_, _] [] dL_gathers_48 ml_L_84 mtL_has tL_has (by decide) (by decide) (by decide) rfl (Nat.le_of_ble_eq_true rfl) rfl ?_
      refine ⟨_, m, rfl, or_lt16 (dm_lt _) (dm_lt _), hm, ?_⟩
      rw [gt0 hm h1]
      dsimp only [Option.toList, List.cons_append, List.nil_append]
      refine zr_istore hC dL_gathers_51 (by decide) ?_
      refine zr_iload hC dL_gathers_53 rfl ?_
      refine zr_if_eq hC dL_gathers_55 (tgt := 104) (by decide) (fun c_55 => ?_) (fun c => absurd c (by decide +kernel))
      refine zr_aload_n hC dL_gathers_104 rfl ?_
      refine zr_iload hC dL_gathers_105 rfl ?_
      refine zs_callV hC (b := 0) [_] [] dL_gathers_107 ml_L_88 mtX8_leave tX8_leave (by decide) (by decide) (by decide) rfl rfl (by decide) (by decide +kernel) (Nat.le_of_ble_eq_true rfl) rfl ?_
      refine ⟨G, _, rfl, hc, hg, fun S hc _ => ?_⟩
      rw [fleaN hm (fun z => by omega)] at hc ⊢
      dsimp only [Option.toList, List.cons_append, List.nil_append]
      refine zk_bipush hC dL_gathers_110 (v := (-2)) (by decide +kernel) ?_
      refine zr_icmp_ne hC dL_gathers_112 (tgt := 146) (by decide) (fun c => absurd c (not_not_intro rfl)) (fun c_112 => ?_)
      refine zr_aload_n hC dL_gathers_115 rfl ?_
      refine zr_iload hC dL_gathers_116 rfl ?_
      refine zs_callV hC (b := 0) [_] [] dL_gathers_118 ml_L_70 mtX8_come tX8_come (by decide) (by decide) (by decide) rfl rfl (by decide) (by decide +kernel) (Nat.le_of_ble_eq_true rfl) rfl ?_
      refine ⟨G, _, rfl, hc, hg, fun S hc _ => ?_⟩
      rw [fcom hm ⟨h0, by omega⟩] at hc ⊢
      obtain ⟨H, hH⟩ : ∃ H, H = gset (gkp G) (dset G.1 1 m 1) := ⟨_, rfl⟩
      rw [← hH] at hc ⊢
      have hg : GI H := by rw [hH]; exact hg.kp.set (hg.1.come h0)
      have hI1 : gI D0 H.1 := by rw [hH]; exact hI.come h0
      have hl1 : H.1 1 m = 1 := by rw [hH]; exact dset_at _ _ _ _
      have he : dset G.1 1 m 1 = H.1 := by rw [hH]; rfl
      rw [he]
      dsimp only [Option.toList, List.cons_append, List.nil_append]
      refine zr_iload hC dL_gathers_121 rfl ?_
      refine zr_if_eq hC dL_gathers_123 (tgt := 131) (by decide) (fun c_123 => ?_) (fun c => absurd c (by decide +kernel))
      refine zr_aload_n hC dL_gathers_131 rfl ?_
      refine zk_iconst hC dL_gathers_132 (v := nI 1) (by decide +kernel) ?_
      refine zs_callV hC (b := 0) [_] [_] dL_gathers_133 ml_L_37 mtX8_count tX8_count (by decide) (by decide) (by decide) rfl rfl (by decide) (by decide +kernel) (Nat.le_of_ble_eq_true rfl) rfl ?_
      refine ⟨H, _, rfl, hc, hg, fun S hc _ => ?_⟩
      rw [fc_1]
      dsimp only [Option.toList, List.cons_append, List.nil_append]
      refine zs_callS hC [_] [_] dL_gathers_136 ml_L_81 mtL_bits tL_bits (by decide) (by decide) (by decide) rfl (Nat.le_of_ble_eq_true rfl) rfl ?_
      refine ⟨_, rfl, dm_lt _, ?_⟩
      dsimp only [Option.toList, List.cons_append, List.nil_append]
      refine zr_icmp_ne hC dL_gathers_139 (tgt := 146) (by decide) (fun c => absurd c (not_not_intro rfl)) (fun c_139 => ?_)
      refine zk_iconst hC dL_gathers_142 (v := nI 1) (by decide +kernel) ?_
      refine zr_goto hC dL_gathers_143 (tgt := 147) (by decide) ?_
      refine zr_istore_n hC dL_gathers_147 (by decide) ?_
      refine zr_iload_n hC dL_gathers_148 rfl ?_
      refine zr_if_eq hC dL_gathers_149 (tgt := 204) (by decide) (fun c => absurd c (by decide +kernel)) (fun c_149 => ?_)
      refine zr_aload_n hC dL_gathers_152 rfl ?_
      refine zk_iconst hC dL_gathers_153 (v := nI 1) (by decide +kernel) ?_
      refine zs_callV hC (b := 0) [_] [] dL_gathers_154 ml_L_37 mtX8_count tX8_count (by decide) (by decide) (by decide) rfl rfl (by decide) (by decide +kernel) (Nat.le_of_ble_eq_true rfl) rfl ?_
      refine ⟨H, _, rfl, hc, hg, fun S hc _ => ?_⟩
      rw [fc_1]
      dsimp only [Option.toList, List.cons_append, List.nil_append]
      refine zr_iload hC dL_gathers_157 rfl ?_
      refine zs_callS hC [_, _] [] dL_gathers_159 ml_L_84 mtL_has tL_has (by decide) (by decide) (by decide) rfl (Nat.le_of_ble_eq_true rfl) rfl ?_
      refine ⟨_, m, rfl, dm_lt _, hm, ?_⟩
      rw [gd1 hm hl1]
      dsimp only [Option.toList, List.cons_append, List.nil_append]
      refine zr_if_eq hC dL_gathers_162 (tgt := 176) (by decide) (fun c => absurd c (by decide +kernel)) (fun c_162 => ?_)
      refine zr_aload_n hC dL_gathers_165 rfl ?_
      refine zr_iload hC dL_gathers_166 rfl ?_
      refine zk_iconst hC dL_gathers_168 (v := nI 5) (by decide +kernel) ?_
      refine zs_callV hC (b := 0) [_, _] [] dL_gathers_169 ml_L_91 mtX8_member tX8_member (by decide) (by decide) (by decide) rfl rfl (by decide) (by decide +kernel) (Nat.le_of_ble_eq_true rfl) rfl ?_
      refine ⟨H, _, _, rfl, hc, hg, fun S hc _ => ?_⟩
      rw [fmem hm (by decide), show aMember H.1 m 5 = nI (H.1 1 m) from rfl, hl1]
      dsimp only [Option.toList, List.cons_append, List.nil_append]
      refine zk_iconst hC dL_gathers_172 (v := nI 1) (by decide +kernel) ?_
      refine zr_icmp_ne hC dL_gathers_173 (tgt := 204) (by decide) (fun c => absurd c (by decide +kernel)) (fun c_173 => ?_)
      refine zr_aload_n hC dL_gathers_176 rfl ?_
      refine zk_iconst hC dL_gathers_177 (v := nI 2) (by decide +kernel) ?_
      refine zs_callV hC (b := 0) [_] [] dL_gathers_178 ml_L_37 mtX8_count tX8_count (by decide) (by decide) (by decide) rfl rfl (by decide) (by decide +kernel) (Nat.le_of_ble_eq_true rfl) rfl ?_
      refine ⟨H, _, rfl, hc, hg, fun S hc _ => ?_⟩
      rw [fc_2]
      dsimp only [Option.toList, List.cons_append, List.nil_append]
      refine zr_iload hC dL_gathers_181 rfl ?_
      refine zs_callS hC [_, _] [] dL_gathers_183 ml_L_84 mtL_has tL_has (by decide) (by decide) (by decide) rfl (Nat.le_of_ble_eq_true rfl) rfl ?_
      refine ⟨_, m, rfl, dm_lt _, hm, ?_⟩
      rw [gd0 hm (by omega)]
      dsimp only [Option.toList, List.cons_append, List.nil_append]
      refine zr_if_eq hC dL_gathers_186 (tgt := 200) (by decide) (fun c_186 => ?_) (fun c => absurd c (by decide +kernel))
      refine zk_iconst hC dL_gathers_200 (v := nI 1) (by decide +kernel) ?_
      refine zr_goto hC dL_gathers_201 (tgt := 205) (by decide) ?_
      refine zr_istore_n hC dL_gathers_205 (by decide) ?_
      refine zn_iinc hC dL_gathers_206 rfl (by decide) (zk_inc _ 1) ?_
      refine zr_goto hC dL_gathers_209 (tgt := 4) (by decide) ?_
      exact zR_sub [(0, .ref 0), (1, .int (nI c)), (2, .int (nI 1)), (3, .int (nI (i + 1)))] ⟨rfl, rfl, rfl, rfl, trivial⟩ (ih (i + 1) S H (by omega) hc hg hI1 (fun _ => ⟨m, hm, by omega⟩))
def spL_gathers : zSp := fun av S Q => ∃ (G : zG) (c : Nat), av = [.ref 0, .int (nI c)] ∧ c < 2147483648 ∧ CG S G ∧ GI G ∧ WS G.1 ∧ ∀ S' G', CG S' G' → GI G' → gI G.1 G'.1 → (∃ m, m < 16 ∧ G'.1 1 m ≠ 0) → Q (some (.int (nI 1))) S'
set_option maxHeartbeats 4000000 in
set_option maxRecDepth 100000 in
theorem tL_gathers : zM yL_gathers cL_gathers 7 (some .boolean) 5 spL_gathers := by
  refine zM.of (by decide) (by decide) (fun av S Q h => by obtain ⟨G, c, rfl, hcx, hc, hg, hw, hQ⟩ := h; exact Nat.le_of_ble_eq_true rfl) (fun C τ ι av S Q Qr h hr hC hE => ?_)
  obtain ⟨G, c, rfl, hcx, hc, hg, hw, hQ⟩ := h
  show zR C τ ι _ 0 0 0 [(0, .ref 0), (1, .int (nI c))] [] _
  refine zk_iconst hC dL_gathers_0 (v := nI 1) (by decide +kernel) ?_
  refine zr_istore_n hC dL_gathers_1 (by decide) ?_
  refine zk_iconst hC dL_gathers_2 (v := nI 0) (by decide +kernel) ?_
  refine zr_istore_n hC dL_gathers_3 (by decide) ?_
  refine zR_sub [(0, .ref 0), (1, .int (nI c)), (2, .int (nI 1)), (3, .int (nI 0))] ⟨rfl, rfl, rfl, rfl, trivial⟩ ?_
  refine lL_gathers hC hcx (fun S H hc hg hI ht lv h => ?_) 3 0 S G (by omega) hc hg (gI.of hw) (fun z => by omega)
  obtain ⟨v2, -⟩ := h
  refine zr_iload_n hC dL_gathers_212 v2 ?_
  exact zr_zreturn hC hE dL_gathers_213 (Or.inr rfl) (hr _ _ (hQ _ _ hc hg hI ht))
