/-! THE CALLS OF THE CLASS: what is asked of members, nodes, keys, letters -/
theorem z_sw2 (w : Int32) : (w < 0 ∨ nI 2 ≤ w) ∨ w = nI 0 ∨ w = nI 1 := by
  rcases pk_ix w (n := 2) (by decide) with h | h | ⟨j, hj, rfl⟩
  · exact Or.inl (Or.inl h)
  · exact Or.inl (Or.inr h)
  · refine Or.inr ?_
    rcases (by omega : j = 0 ∨ j = 1) with rfl | rfl <;> simp
theorem z_sw3 (w : Int32) : (w < 0 ∨ nI 3 ≤ w) ∨ w = nI 0 ∨ w = nI 1 ∨ w = nI 2 := by
  rcases pk_ix w (n := 3) (by decide) with h | h | ⟨j, hj, rfl⟩
  · exact Or.inl (Or.inl h)
  · exact Or.inl (Or.inr h)
  · refine Or.inr ?_
    rcases (by omega : j = 0 ∨ j = 1 ∨ j = 2) with rfl | rfl | rfl <;> simp
theorem z_sw4 (w : Int32) : (w < 0 ∨ nI 4 ≤ w) ∨ w = nI 0 ∨ w = nI 1 ∨ w = nI 2 ∨ w = nI 3 := by
  rcases pk_ix w (n := 4) (by decide) with h | h | ⟨j, hj, rfl⟩
  · exact Or.inl (Or.inl h)
  · exact Or.inl (Or.inr h)
  · refine Or.inr ?_
    rcases (by omega : j = 0 ∨ j = 1 ∨ j = 2 ∨ j = 3) with rfl | rfl | rfl | rfl <;> simp
theorem z_sw6 (w : Int32) : (w < 0 ∨ nI 6 ≤ w) ∨ w = nI 0 ∨ w = nI 1 ∨ w = nI 2 ∨ w = nI 3 ∨ w = nI 4 ∨ w = nI 5 := by
  rcases pk_ix w (n := 6) (by decide) with h | h | ⟨j, hj, rfl⟩
  · exact Or.inl (Or.inl h)
  · exact Or.inl (Or.inr h)
  · refine Or.inr ?_
    rcases (by omega : j = 0 ∨ j = 1 ∨ j = 2 ∨ j = 3 ∨ j = 4 ∨ j = 5) with rfl | rfl | rfl | rfl | rfl | rfl <;> simp
theorem z_sw9 (w : Int32) : (w < 0 ∨ nI 9 ≤ w) ∨ w = nI 0 ∨ w = nI 1 ∨ w = nI 2 ∨ w = nI 3 ∨ w = nI 4 ∨ w = nI 5 ∨ w = nI 6 ∨ w = nI 7 ∨ w = nI 8 := by
  rcases pk_ix w (n := 9) (by decide) with h | h | ⟨j, hj, rfl⟩
  · exact Or.inl (Or.inl h)
  · exact Or.inl (Or.inr h)
  · refine Or.inr ?_
    rcases (by omega : j = 0 ∨ j = 1 ∨ j = 2 ∨ j = 3 ∨ j = 4 ∨ j = 5 ∨ j = 6 ∨ j = 7 ∨ j = 8) with rfl | rfl | rfl | rfl | rfl | rfl | rfl | rfl | rfl <;> simp
theorem z_out {n : Nat} {x : Int32} (h : x < 0 ∨ nI n ≤ x) (hn : n < 2147483648) : x.toInt < 0 ∨ (n : Int) - 1 < x.toInt := by
  rcases h with h | h
  · rw [Int32.lt_iff_toInt_lt, show (0 : Int32).toInt = 0 by decide] at h
    exact Or.inl h
  · rw [Int32.le_iff_toInt_le, nI_toInt hn] at h
    omega
theorem zb_bt {n m : Nat} {r : Int32} (hm : m < 32) (e : (r = nI 1 ∧ bt (nI n) m = true) ∨ (r = nI 0 ∧ bt (nI n) m = false)) : r = zb (n.testBit m) := by
  rw [bt_nI _ _ hm] at e
  rcases e with ⟨rfl, h⟩ | ⟨rfl, h⟩
  · rw [h]; rfl
  · rw [h]; rfl
theorem nI_ne4 {k : Nat} (h : k < 2147483648) : ¬ nI k = -4 := fun e => by
  have h2 : ¬ nI k < 0 := nI_pos h
  rw [e] at h2
  exact absurd (by decide) h2
theorem dm_b {f : Nat → Nat} {c m : Nat} (hm : m < 16) : (dm fun m => f m == c).testBit m = (f m == c) := by rw [dmn_bit]; simp [hm]
theorem a_late {D : zD} {m : Nat} (hI : INV D) (hm : m < 16) : zb ((sls D).testBit m) = nI (D 2 m) := by
  rw [dm_b hm]
  rcases hI.late hm with h | h
  · rw [h]; rfl
  · rw [h.1]; rfl
theorem a_told {D : zD} {m : Nat} (hI : INV D) (hm : m < 16) : zb ((cms D).testBit m) + nI 2 * zb ((lvs D).testBit m) = nI (D 1 m) := by
  rw [dm_b hm, dm_b hm]
  rcases hI.told hm with h | h | h
  · rw [h]; decide
  · rw [h.1]; decide
  · rw [h.1]; decide
theorem INV.root {D : zD} (h : INV D) (hs : sm (D 0) 1 ≠ 0) : lastk D 1 (D 6 0) < D 6 0 := (h.live (by decide) (by decide) hs).1
def spX8_member : zSp := fun av S Q => ∃ (G : zG) (x : Int32) (w : Int32), av = [.ref 0, .int x, .int w] ∧ CG S G ∧ GI G ∧ ∀ S', CG S' G → zfc S S' → Q (some (.int (fMember x w G))) S'
set_option maxHeartbeats 4000000 in
set_option maxRecDepth 100000 in
theorem tX8_member : zM yX8_member cX8_member 3 (some .int) 2 spX8_member := by
  refine zM.of (by decide) (by decide) (fun av S Q h => by obtain ⟨G, x, w, rfl, hCG, hGI, hQ⟩ := h; exact Nat.le_of_ble_eq_true rfl) (fun C τ ι av S Q Qr h hr hC hE => ?_)
  obtain ⟨G, x, w, rfl, hCG, hGI, hQ⟩ := h
  show zR C τ ι _ 0 0 0 [(0, .ref 0), (1, .int x), (2, .int w)] [] _
  refine zr_iload_n hC dX8_member_0 rfl ?_
  refine zs_callS hC [_] [] dX8_member_1 ml_X8_57 mtX8_noMember tX8_noMember (by decide) (by decide) (by decide) rfl (Nat.le_of_ble_eq_true rfl) rfl ?_
  refine ⟨x, rfl, fun r e => ?_⟩
  rcases e with ⟨rfl, hx⟩ | ⟨rfl, m, hm, rfl⟩
  · simp only [fMember, mm_no hx] at hQ
    dsimp only [Option.toList, List.cons_append, List.nil_append]
    refine zr_if_eq hC dX8_member_4 (tgt := 9) (by decide) (fun c => absurd c (by decide +kernel)) (fun c_4 => ?_)
    refine zk_iconst hC dX8_member_7 (v := (-1)) (by decide +kernel) ?_
    exact zr_ireturn hC hE dX8_member_8 (hr _ _ (hQ _ hCG zfc.rf))
  · dsimp only [Option.toList, List.cons_append, List.nil_append]
    refine zr_if_eq hC dX8_member_4 (tgt := 9) (by decide) (fun c_4 => ?_) (fun c => absurd c (by decide +kernel))
    rcases z_sw6 w with hw | rfl | rfl | rfl | rfl | rfl | rfl
    · simp only [fMember, mm_yes hm (show 16 < 2147483648 by decide), mm_no hw] at hQ
      refine zr_iload_n hC dX8_member_9 rfl ?_
      refine zr_tableOut hC dX8_member_10 (tgt := 197) (z_out hw (by decide)) (by decide) ?_
      refine zk_iconst hC dX8_member_197 (v := (-1)) (by decide +kernel) ?_
      exact zr_ireturn hC hE dX8_member_198 (hr _ _ (hQ _ hCG zfc.rf))
    · simp only [fMember, mm_yes hm (show 16 < 2147483648 by decide), mm_yes (show 0 < 6 by decide) (show 6 < 2147483648 by decide), aMember] at hQ
      refine zr_iload_n hC dX8_member_9 rfl ?_
      refine zr_tableIn hC dX8_member_10 (off := 38) (tgt := 48) (by decide +kernel) (by decide +kernel) (by decide +kernel) (by decide) ?_
      refine zr_aload_n hC dX8_member_48 rfl ?_
      refine zs_getr hC dX8_member_49 fl_X8_12 (a := 0) (r := 1) rfl (by decide) ?_
      refine zs_getr hC dX8_member_52 fl_X8_132 (a := 1) (r := 2) rfl (by decide) ?_
      refine zr_iload_n hC dX8_member_55 rfl ?_
      refine zs_callV hC (b := 2) [_] [] dX8_member_56 ml_X8_135 mtX5_sits tX5_sits (by decide) (by decide) (by decide) rfl rfl (by decide) (by decide +kernel) (Nat.le_of_ble_eq_true rfl) rfl ?_
      refine ⟨2, m, rfl, Or.inl rfl, hm, fun r e => ?_⟩
      rcases e with ⟨rfl, hx⟩ | ⟨rfl, hx⟩
      · have hx : G.1 0 m ≠ 0 := fun q => hx ((hCG.1.sr.at0 hm).mpr q)
        rw [if_pos hx] at hQ
        dsimp only [Option.toList, List.cons_append, List.nil_append]
        refine zr_if_eq hC dX8_member_59 (tgt := 77) (by decide) (fun c => absurd c (by decide +kernel)) (fun c_59 => ?_)
        refine zr_aload_n hC dX8_member_62 rfl ?_
        refine zs_getr hC dX8_member_63 fl_X8_12 (a := 0) (r := 1) rfl (by decide) ?_
        refine zs_getr hC dX8_member_66 fl_X8_132 (a := 1) (r := 2) rfl (by decide) ?_
        refine zs_getr hC dX8_member_69 fl_X8_138 (a := 2) (r := 3) rfl (by decide) ?_
        refine zr_iload_n hC dX8_member_72 rfl ?_
        refine zv_iald hC dX8_member_73 (a := 3) (n := 16) rfl (by decide) (by decide) (j := m) rfl hm (hCG.1.sr.1 m hm) ?_
        refine zr_goto hC dX8_member_74 (tgt := 79) (by decide) ?_
        exact zr_ireturn hC hE dX8_member_79 (hr _ _ (hQ _ hCG zfc.rf))
      · have hx : G.1 0 m = 0 := (hCG.1.sr.at0 hm).mp hx
        rw [if_neg (not_not_intro hx)] at hQ
        dsimp only [Option.toList, List.cons_append, List.nil_append]
        refine zr_if_eq hC dX8_member_59 (tgt := 77) (by decide) (fun c_59 => ?_) (fun c => absurd c (by decide +kernel))
        refine zk_bipush hC dX8_member_77 (v := (-4)) (by decide +kernel) ?_
        exact zr_ireturn hC hE dX8_member_79 (hr _ _ (hQ _ hCG zfc.rf))
    · simp only [fMember, mm_yes hm (show 16 < 2147483648 by decide), mm_yes (show 1 < 6 by decide) (show 6 < 2147483648 by decide), aMember] at hQ
      refine zr_iload_n hC dX8_member_9 rfl ?_
      refine zr_tableIn hC dX8_member_10 (off := 70) (tgt := 80) (by decide +kernel) (by decide +kernel) (by decide +kernel) (by decide) ?_
      refine zr_aload_n hC dX8_member_80 rfl ?_
      refine zs_getr hC dX8_member_81 fl_X8_12 (a := 0) (r := 1) rfl (by decide) ?_
      refine zs_getr hC dX8_member_84 fl_X8_120 (a := 1) (r := 5) rfl (by decide) ?_
      refine zr_iload_n hC dX8_member_87 rfl ?_
      refine zs_callV hC (b := 5) [_] [] dX8_member_88 ml_X8_142 mtX1_heldBy tX1_heldBy (by decide) (by decide) (by decide) rfl rfl (by decide) (by decide +kernel) (Nat.le_of_ble_eq_true rfl) rfl ?_
      refine ⟨m, G.1, rfl, hCG.1.kr, by omega, by have := hGI.1.made; omega, ?_⟩
      dsimp only [Option.toList, List.cons_append, List.nil_append]
      exact zr_ireturn hC hE dX8_member_91 (hr _ _ (hQ _ hCG zfc.rf))
    · simp only [fMember, mm_yes hm (show 16 < 2147483648 by decide), mm_yes (show 2 < 6 by decide) (show 6 < 2147483648 by decide), aMember] at hQ
      refine zr_iload_n hC dX8_member_9 rfl ?_
      refine zr_tableIn hC dX8_member_10 (off := 82) (tgt := 92) (by decide +kernel) (by decide +kernel) (by decide +kernel) (by decide) ?_
      by_cases hs : sm (G.1 0) 1 = 0
      · have hg : S.1 9 1 = -4 := (hCG.1.orr 1 (by decide) (by decide)).trans (if_pos hs)
        rw [if_pos hs] at hQ
        refine zr_aload_n hC dX8_member_92 rfl ?_
        refine zs_getr hC dX8_member_93 fl_X8_12 (a := 0) (r := 1) rfl (by decide) ?_
        refine zs_callV hC (b := 1) [] [] dX8_member_96 ml_X8_145 mtX0_groupKey tX0_groupKey (by decide) (by decide) (by decide) rfl rfl (by decide) (by decide +kernel) (Nat.le_of_ble_eq_true rfl) rfl ?_
        refine ⟨rfl, ?_⟩
        rw [hg]
        dsimp only [Option.toList, List.cons_append, List.nil_append]
        refine zk_bipush hC dX8_member_99 (v := (-4)) (by decide +kernel) ?_
        refine zr_icmp_ne hC dX8_member_101 (tgt := 109) (by decide) (fun c => absurd c (not_not_intro rfl)) (fun c_101 => ?_)
        refine zk_bipush hC dX8_member_104 (v := (-4)) (by decide +kernel) ?_
        refine zr_goto hC dX8_member_106 (tgt := 130) (by decide) ?_
        exact zr_ireturn hC hE dX8_member_130 (hr _ _ (hQ _ hCG zfc.rf))
      · have hg : S.1 9 1 = nI (key G.1 1) := hCG.1.node (by decide) (by decide) hs
        rw [if_neg hs] at hQ
        have hk : key G.1 1 < G.1 6 0 := hGI.1.root hs
        have h60 : G.1 6 0 ≤ 232 := by have := hGI.1.made; omega
        refine zr_aload_n hC dX8_member_92 rfl ?_
        refine zs_getr hC dX8_member_93 fl_X8_12 (a := 0) (r := 1) rfl (by decide) ?_
        refine zs_callV hC (b := 1) [] [] dX8_member_96 ml_X8_145 mtX0_groupKey tX0_groupKey (by decide) (by decide) (by decide) rfl rfl (by decide) (by decide +kernel) (Nat.le_of_ble_eq_true rfl) rfl ?_
        refine ⟨rfl, ?_⟩
        rw [hg]
        dsimp only [Option.toList, List.cons_append, List.nil_append]
        refine zk_bipush hC dX8_member_99 (v := (-4)) (by decide +kernel) ?_
        refine zr_icmp_ne hC dX8_member_101 (tgt := 109) (by decide) (fun c_101 => ?_) (fun c => absurd c (nI_ne4 (by omega)))
        refine zr_aload_n hC dX8_member_109 rfl ?_
        refine zs_getr hC dX8_member_110 fl_X8_12 (a := 0) (r := 1) rfl (by decide) ?_
        refine zs_getr hC dX8_member_113 fl_X8_120 (a := 1) (r := 5) rfl (by decide) ?_
        refine zr_aload_n hC dX8_member_116 rfl ?_
        refine zs_getr hC dX8_member_117 fl_X8_12 (a := 0) (r := 1) rfl (by decide) ?_
        refine zs_callV hC (b := 1) [] [_] dX8_member_120 ml_X8_145 mtX0_groupKey tX0_groupKey (by decide) (by decide) (by decide) rfl rfl (by decide) (by decide +kernel) (Nat.le_of_ble_eq_true rfl) rfl ?_
        refine ⟨rfl, ?_⟩
        rw [hg]
        dsimp only [Option.toList, List.cons_append, List.nil_append]
        refine zs_callV hC (b := 5) [_] [] dX8_member_123 ml_X8_148 mtX1_holdersOf tX1_holdersOf (by decide) (by decide) (by decide) rfl rfl (by decide) (by decide +kernel) (Nat.le_of_ble_eq_true rfl) rfl ?_
        refine ⟨_, G.1 6 0, rfl, hCG.1.kr.1, h60, fun r e => ?_⟩
        have e := hCG.1.kr.node' hk h60 (fun j hj => (hCG.1.kr.2 j hj).2.2) e
        subst e
        dsimp only [Option.toList, List.cons_append, List.nil_append]
        refine zr_iload_n hC dX8_member_126 rfl ?_
        refine zs_callS hC [_, _] [] dX8_member_127 ml_X8_151 mtX8_bit tX8_bit (by decide) (by decide) (by decide) rfl (Nat.le_of_ble_eq_true rfl) rfl ?_
        refine ⟨_, m, rfl, by omega, fun r e => ?_⟩
        have e := zb_bt (by omega) e
        subst e
        dsimp only [Option.toList, List.cons_append, List.nil_append]
        exact zr_ireturn hC hE dX8_member_130 (hr _ _ (hQ _ hCG zfc.rf))
    · simp only [fMember, mm_yes hm (show 16 < 2147483648 by decide), mm_yes (show 3 < 6 by decide) (show 6 < 2147483648 by decide), aMember] at hQ
      refine zr_iload_n hC dX8_member_9 rfl ?_
      refine zr_tableIn hC dX8_member_10 (off := 121) (tgt := 131) (by decide +kernel) (by decide +kernel) (by decide +kernel) (by decide) ?_
      refine zr_aload_n hC dX8_member_131 rfl ?_
      refine zs_getr hC dX8_member_132 fl_X8_12 (a := 0) (r := 1) rfl (by decide) ?_
      refine zv_geti hC dX8_member_135 fl_X8_154 (a := 1) rfl (by decide) (hCG.1.ms.2.2) ?_
      refine zr_iload_n hC dX8_member_138 rfl ?_
      refine zs_callS hC [_, _] [] dX8_member_139 ml_X8_151 mtX8_bit tX8_bit (by decide) (by decide) (by decide) rfl (Nat.le_of_ble_eq_true rfl) rfl ?_
      refine ⟨_, m, rfl, by omega, fun r e => ?_⟩
      have e := zb_bt (by omega) e
      subst e
      rw [← a_late hGI.1 hm] at hQ
      dsimp only [Option.toList, List.cons_append, List.nil_append]
      exact zr_ireturn hC hE dX8_member_142 (hr _ _ (hQ _ hCG zfc.rf))
    · simp only [fMember, mm_yes hm (show 16 < 2147483648 by decide), mm_yes (show 4 < 6 by decide) (show 6 < 2147483648 by decide), aMember] at hQ
      refine zr_iload_n hC dX8_member_9 rfl ?_
      refine zr_tableIn hC dX8_member_10 (off := 133) (tgt := 143) (by decide +kernel) (by decide +kernel) (by decide +kernel) (by decide) ?_
      refine zr_aload_n hC dX8_member_143 rfl ?_
      refine zs_getr hC dX8_member_144 fl_X8_12 (a := 0) (r := 1) rfl (by decide) ?_
      refine zs_getr hC dX8_member_147 fl_X8_132 (a := 1) (r := 2) rfl (by decide) ?_
      refine zr_iload_n hC dX8_member_150 rfl ?_
      refine zs_callV hC (b := 2) [_] [] dX8_member_151 ml_X8_135 mtX5_sits tX5_sits (by decide) (by decide) (by decide) rfl rfl (by decide) (by decide +kernel) (Nat.le_of_ble_eq_true rfl) rfl ?_
      refine ⟨2, m, rfl, Or.inl rfl, hm, fun r e => ?_⟩
      rcases e with ⟨rfl, hx⟩ | ⟨rfl, hx⟩
      · have hx : G.1 0 m ≠ 0 := fun q => hx ((hCG.1.sr.at0 hm).mpr q)
        rw [if_pos hx] at hQ
        dsimp only [Option.toList, List.cons_append, List.nil_append]
        refine zr_if_eq hC dX8_member_154 (tgt := 168) (by decide) (fun c => absurd c (by decide +kernel)) (fun c_154 => ?_)
        refine zr_aload_n hC dX8_member_157 rfl ?_
        refine zs_getr hC dX8_member_158 fl_X8_12 (a := 0) (r := 1) rfl (by decide) ?_
        refine zr_iload_n hC dX8_member_161 rfl ?_
        refine zs_callV hC (b := 1) [_] [] dX8_member_162 ml_X8_157 mtX0_unread tX0_unread (by decide) (by decide) (by decide) rfl rfl (by decide) (by decide +kernel) (Nat.le_of_ble_eq_true rfl) rfl ?_
        refine ⟨m, _, _, rfl, hm, hCG.1.lr.1, hCG.1.ar.2.2 m hm hx, hGI.1.read hm hx, ?_⟩
        dsimp only [Option.toList, List.cons_append, List.nil_append]
        refine zr_goto hC dX8_member_165 (tgt := 170) (by decide) ?_
        exact zr_ireturn hC hE dX8_member_170 (hr _ _ (hQ _ hCG zfc.rf))
      · have hx : G.1 0 m = 0 := (hCG.1.sr.at0 hm).mp hx
        rw [if_neg (not_not_intro hx)] at hQ
        dsimp only [Option.toList, List.cons_append, List.nil_append]
        refine zr_if_eq hC dX8_member_154 (tgt := 168) (by decide) (fun c_154 => ?_) (fun c => absurd c (by decide +kernel))
        refine zk_bipush hC dX8_member_168 (v := (-4)) (by decide +kernel) ?_
        exact zr_ireturn hC hE dX8_member_170 (hr _ _ (hQ _ hCG zfc.rf))
    · simp only [fMember, mm_yes hm (show 16 < 2147483648 by decide), mm_yes (show 5 < 6 by decide) (show 6 < 2147483648 by decide), aMember] at hQ
      refine zr_iload_n hC dX8_member_9 rfl ?_
      refine zr_tableIn hC dX8_member_10 (off := 161) (tgt := 171) (by decide +kernel) (by decide +kernel) (by decide +kernel) (by decide) ?_
      refine zr_aload_n hC dX8_member_171 rfl ?_
      refine zs_getr hC dX8_member_172 fl_X8_12 (a := 0) (r := 1) rfl (by decide) ?_
      refine zv_geti hC dX8_member_175 fl_X8_72 (a := 1) rfl (by decide) (hCG.1.ms.1) ?_
      refine zr_iload_n hC dX8_member_178 rfl ?_
      refine zs_callS hC [_, _] [] dX8_member_179 ml_X8_151 mtX8_bit tX8_bit (by decide) (by decide) (by decide) rfl (Nat.le_of_ble_eq_true rfl) rfl ?_
      refine ⟨_, m, rfl, by omega, fun r e => ?_⟩
      have e := zb_bt (by omega) e
      subst e
      dsimp only [Option.toList, List.cons_append, List.nil_append]
      refine zk_iconst hC dX8_member_182 (v := nI 2) (by decide +kernel) ?_
      refine zr_aload_n hC dX8_member_183 rfl ?_
      refine zs_getr hC dX8_member_184 fl_X8_12 (a := 0) (r := 1) rfl (by decide) ?_
      refine zv_geti hC dX8_member_187 fl_X8_88 (a := 1) rfl (by decide) (hCG.1.ms.2.1) ?_
      refine zr_iload_n hC dX8_member_190 rfl ?_
      refine zs_callS hC [_, _] [_, _] dX8_member_191 ml_X8_151 mtX8_bit tX8_bit (by decide) (by decide) (by decide) rfl (Nat.le_of_ble_eq_true rfl) rfl ?_
      refine ⟨_, m, rfl, by omega, fun r e => ?_⟩
      have e := zb_bt (by omega) e
      subst e
      rw [← a_told hGI.1 hm] at hQ
      dsimp only [Option.toList, List.cons_append, List.nil_append]
      refine zr_imul hC dX8_member_194 ?_
      refine zr_iadd hC dX8_member_195 ?_
      exact zr_ireturn hC hE dX8_member_196 (hr _ _ (hQ _ hCG zfc.rf))
theorem z_31 {x : Int32} (h : ¬ x < nI 32) : nI 31 < x := by
  rw [Int32.lt_iff_toInt_lt, nI_toInt (by decide)] at *
  omega
theorem z_32 {x : Int32} (h : x < nI 32) : ¬ nI 31 < x := by
  rw [Int32.lt_iff_toInt_lt, nI_toInt (by decide)] at *
  omega
def spX8_node : zSp := fun av S Q => ∃ (G : zG) (x : Int32) (w : Int32), av = [.ref 0, .int x, .int w] ∧ CG S G ∧ GI G ∧ ∀ S', CG S' G → zfc S S' → Q (some (.int (fNode x w G))) S'
set_option maxHeartbeats 4000000 in
set_option maxRecDepth 100000 in
theorem tX8_node : zM yX8_node cX8_node 4 (some .int) 2 spX8_node := by
  refine zM.of (by decide) (by decide) (fun av S Q h => by obtain ⟨G, x, w, rfl, hCG, hGI, hQ⟩ := h; exact Nat.le_of_ble_eq_true rfl) (fun C τ ι av S Q Qr h hr hC hE => ?_)
  obtain ⟨G, x, w, rfl, hCG, hGI, hQ⟩ := h
  show zR C τ ι _ 0 0 0 [(0, .ref 0), (1, .int x), (2, .int w)] [] _
  refine zr_iload_n hC dX8_node_0 rfl ?_
  refine zk_iconst hC dX8_node_1 (v := nI 1) (by decide +kernel) ?_
  refine zr_icmp_lt hC dX8_node_2 (tgt := 11) (by decide) (fun c_2 => ?_) (fun c_2 => ?_)
  · simp only [fNode, rg_no (b := 31) (Or.inl c_2)] at hQ
    refine zk_iconst hC dX8_node_11 (v := (-1)) (by decide +kernel) ?_
    exact zr_ireturn hC hE dX8_node_12 (hr _ _ (hQ _ hCG zfc.rf))
  · refine zr_iload_n hC dX8_node_5 rfl ?_
    refine zk_bipush hC dX8_node_6 (v := nI 32) (by decide +kernel) ?_
    refine zr_icmp_lt hC dX8_node_8 (tgt := 13) (by decide) (fun c_8 => ?_) (fun c_8 => ?_)
    · obtain ⟨v, h1, h2, rfl⟩ := rg_in c_2 (z_32 c_8) (by decide) (by decide)
      by_cases hs : sm (G.1 0) v = 0
      · have hg : S.1 9 v = -4 := (hCG.1.orr v h1 (by omega)).trans (if_pos hs)
        refine zr_aload_n hC dX8_node_13 rfl ?_
        refine zs_getr hC dX8_node_14 fl_X8_12 (a := 0) (r := 1) rfl (by decide) ?_
        refine zs_getr hC dX8_node_17 fl_X8_120 (a := 1) (r := 5) rfl (by decide) ?_
        refine zs_getr hC dX8_node_20 fl_X8_160 (a := 5) (r := 9) rfl (by decide) ?_
        refine zr_iload_n hC dX8_node_23 rfl ?_
        refine zv_iald hC dX8_node_24 (a := 9) (n := 32) rfl (by decide) (by decide) (j := v) rfl (by omega) (hg) ?_
        refine zr_istore_n hC dX8_node_25 (by decide) ?_
        rcases z_sw3 w with hw | rfl | rfl | rfl
        · simp only [fNode, rg_yes h1 h2 (show 31 < 2147483648 by decide), mm_no hw] at hQ
          refine zr_iload_n hC dX8_node_26 rfl ?_
          refine zr_tableOut hC dX8_node_27 (tgt := 90) (z_out hw (by decide)) (by decide) ?_
          refine zk_iconst hC dX8_node_90 (v := (-1)) (by decide +kernel) ?_
          exact zr_ireturn hC hE dX8_node_91 (hr _ _ (hQ _ hCG zfc.rf))
        · simp only [fNode, rg_yes h1 h2 (show 31 < 2147483648 by decide), mm_yes (show 0 < 3 by decide) (show 3 < 2147483648 by decide), aNode, kof, if_pos hs] at hQ
          refine zr_iload_n hC dX8_node_26 rfl ?_
          refine zr_tableIn hC dX8_node_27 (off := 25) (tgt := 52) (by decide +kernel) (by decide +kernel) (by decide +kernel) (by decide) ?_
          refine zr_iload_n hC dX8_node_52 rfl ?_
          exact zr_ireturn hC hE dX8_node_53 (hr _ _ (hQ _ hCG zfc.rf))
        · simp only [fNode, rg_yes h1 h2 (show 31 < 2147483648 by decide), mm_yes (show 1 < 3 by decide) (show 3 < 2147483648 by decide), aNode, kof, if_pos hs] at hQ
          refine zr_iload_n hC dX8_node_26 rfl ?_
          refine zr_tableIn hC dX8_node_27 (off := 27) (tgt := 54) (by decide +kernel) (by decide +kernel) (by decide +kernel) (by decide) ?_
          refine zr_aload_n hC dX8_node_54 rfl ?_
          refine zs_getr hC dX8_node_55 fl_X8_12 (a := 0) (r := 1) rfl (by decide) ?_
          refine zs_getr hC dX8_node_58 fl_X8_132 (a := 1) (r := 2) rfl (by decide) ?_
          refine zs_getr hC dX8_node_61 fl_X8_163 (a := 2) (r := 4) rfl (by decide) ?_
          refine zr_iload_n hC dX8_node_64 rfl ?_
          refine zv_iald hC dX8_node_65 (a := 4) (n := 32) rfl (by decide) (by decide) (j := v) rfl (by omega) (hCG.1.sr.2.1 v h1 (by omega)) ?_
          exact zr_ireturn hC hE dX8_node_66 (hr _ _ (hQ _ hCG zfc.rf))
        · simp only [fNode, rg_yes h1 h2 (show 31 < 2147483648 by decide), mm_yes (show 2 < 3 by decide) (show 3 < 2147483648 by decide), aNode, kof, if_pos hs] at hQ
          refine zr_iload_n hC dX8_node_26 rfl ?_
          refine zr_tableIn hC dX8_node_27 (off := 40) (tgt := 67) (by decide +kernel) (by decide +kernel) (by decide +kernel) (by decide) ?_
          refine zr_iload_n hC dX8_node_67 rfl ?_
          refine zk_bipush hC dX8_node_68 (v := (-4)) (by decide +kernel) ?_
          refine zr_icmp_ne hC dX8_node_70 (tgt := 78) (by decide) (fun c => absurd c (not_not_intro rfl)) (fun c_70 => ?_)
          refine zk_bipush hC dX8_node_73 (v := (-4)) (by decide +kernel) ?_
          refine zr_goto hC dX8_node_75 (tgt := 89) (by decide) ?_
          exact zr_ireturn hC hE dX8_node_89 (hr _ _ (hQ _ hCG zfc.rf))
      · have hg : S.1 9 v = nI (key G.1 v) := hCG.1.node h1 (by omega) hs
        have hk : key G.1 v < G.1 6 0 := (hGI.1.live h1 (by omega) hs).1
        have h60 : G.1 6 0 ≤ 232 := by have := hGI.1.made; omega
        refine zr_aload_n hC dX8_node_13 rfl ?_
        refine zs_getr hC dX8_node_14 fl_X8_12 (a := 0) (r := 1) rfl (by decide) ?_
        refine zs_getr hC dX8_node_17 fl_X8_120 (a := 1) (r := 5) rfl (by decide) ?_
        refine zs_getr hC dX8_node_20 fl_X8_160 (a := 5) (r := 9) rfl (by decide) ?_
        refine zr_iload_n hC dX8_node_23 rfl ?_
        refine zv_iald hC dX8_node_24 (a := 9) (n := 32) rfl (by decide) (by decide) (j := v) rfl (by omega) (hg) ?_
        refine zr_istore_n hC dX8_node_25 (by decide) ?_
        rcases z_sw3 w with hw | rfl | rfl | rfl
        · simp only [fNode, rg_yes h1 h2 (show 31 < 2147483648 by decide), mm_no hw] at hQ
          refine zr_iload_n hC dX8_node_26 rfl ?_
          refine zr_tableOut hC dX8_node_27 (tgt := 90) (z_out hw (by decide)) (by decide) ?_
          refine zk_iconst hC dX8_node_90 (v := (-1)) (by decide +kernel) ?_
          exact zr_ireturn hC hE dX8_node_91 (hr _ _ (hQ _ hCG zfc.rf))
        · simp only [fNode, rg_yes h1 h2 (show 31 < 2147483648 by decide), mm_yes (show 0 < 3 by decide) (show 3 < 2147483648 by decide), aNode, kof, if_neg hs] at hQ
          refine zr_iload_n hC dX8_node_26 rfl ?_
          refine zr_tableIn hC dX8_node_27 (off := 25) (tgt := 52) (by decide +kernel) (by decide +kernel) (by decide +kernel) (by decide) ?_
          refine zr_iload_n hC dX8_node_52 rfl ?_
          exact zr_ireturn hC hE dX8_node_53 (hr _ _ (hQ _ hCG zfc.rf))
        · simp only [fNode, rg_yes h1 h2 (show 31 < 2147483648 by decide), mm_yes (show 1 < 3 by decide) (show 3 < 2147483648 by decide), aNode, kof, if_neg hs] at hQ
          refine zr_iload_n hC dX8_node_26 rfl ?_
          refine zr_tableIn hC dX8_node_27 (off := 27) (tgt := 54) (by decide +kernel) (by decide +kernel) (by decide +kernel) (by decide) ?_
          refine zr_aload_n hC dX8_node_54 rfl ?_
          refine zs_getr hC dX8_node_55 fl_X8_12 (a := 0) (r := 1) rfl (by decide) ?_
          refine zs_getr hC dX8_node_58 fl_X8_132 (a := 1) (r := 2) rfl (by decide) ?_
          refine zs_getr hC dX8_node_61 fl_X8_163 (a := 2) (r := 4) rfl (by decide) ?_
          refine zr_iload_n hC dX8_node_64 rfl ?_
          refine zv_iald hC dX8_node_65 (a := 4) (n := 32) rfl (by decide) (by decide) (j := v) rfl (by omega) (hCG.1.sr.2.1 v h1 (by omega)) ?_
          exact zr_ireturn hC hE dX8_node_66 (hr _ _ (hQ _ hCG zfc.rf))
        · simp only [fNode, rg_yes h1 h2 (show 31 < 2147483648 by decide), mm_yes (show 2 < 3 by decide) (show 3 < 2147483648 by decide), aNode, kof, if_neg hs] at hQ
          refine zr_iload_n hC dX8_node_26 rfl ?_
          refine zr_tableIn hC dX8_node_27 (off := 40) (tgt := 67) (by decide +kernel) (by decide +kernel) (by decide +kernel) (by decide) ?_
          refine zr_iload_n hC dX8_node_67 rfl ?_
          refine zk_bipush hC dX8_node_68 (v := (-4)) (by decide +kernel) ?_
          refine zr_icmp_ne hC dX8_node_70 (tgt := 78) (by decide) (fun c_70 => ?_) (fun c => absurd c (nI_ne4 (by omega)))
          refine zr_aload_n hC dX8_node_78 rfl ?_
          refine zs_getr hC dX8_node_79 fl_X8_12 (a := 0) (r := 1) rfl (by decide) ?_
          refine zs_getr hC dX8_node_82 fl_X8_120 (a := 1) (r := 5) rfl (by decide) ?_
          refine zr_iload_n hC dX8_node_85 rfl ?_
          refine zs_callV hC (b := 5) [_] [] dX8_node_86 ml_X8_148 mtX1_holdersOf tX1_holdersOf (by decide) (by decide) (by decide) rfl rfl (by decide) (by decide +kernel) (Nat.le_of_ble_eq_true rfl) rfl ?_
          refine ⟨_, G.1 6 0, rfl, hCG.1.kr.1, h60, fun r e => ?_⟩
          have e := hCG.1.kr.node' hk h60 (fun j hj => (hCG.1.kr.2 j hj).2.2) e
          subst e
          dsimp only [Option.toList, List.cons_append, List.nil_append]
          exact zr_ireturn hC hE dX8_node_89 (hr _ _ (hQ _ hCG zfc.rf))
    · simp only [fNode, rg_no (a := 1) (Or.inr (z_31 c_8))] at hQ
      refine zk_iconst hC dX8_node_11 (v := (-1)) (by decide +kernel) ?_
      exact zr_ireturn hC hE dX8_node_12 (hr _ _ (hQ _ hCG zfc.rf))
def spX8_key : zSp := fun av S Q => ∃ (G : zG) (x : Int32) (w : Int32), av = [.ref 0, .int x, .int w] ∧ CG S G ∧ GI G ∧ ∀ S', CG S' G → zfc S S' → Q (some (.int (fKey x w G))) S'
set_option maxHeartbeats 4000000 in
set_option maxRecDepth 100000 in
theorem tX8_key : zM yX8_key cX8_key 4 (some .int) 1 spX8_key := by
  refine zM.of (by decide) (by decide) (fun av S Q h => by obtain ⟨G, x, w, rfl, hCG, hGI, hQ⟩ := h; exact Nat.le_of_ble_eq_true rfl) (fun C τ ι av S Q Qr h hr hC hE => ?_)
  obtain ⟨G, x, w, rfl, hCG, hGI, hQ⟩ := h
  show zR C τ ι _ 0 0 0 [(0, .ref 0), (1, .int x), (2, .int w)] [] _
  refine zr_aload_n hC dX8_key_0 rfl ?_
  refine zs_getr hC dX8_key_1 fl_X8_12 (a := 0) (r := 1) rfl (by decide) ?_
  refine zs_getr hC dX8_key_4 fl_X8_120 (a := 1) (r := 5) rfl (by decide) ?_
  refine zr_iload_n hC dX8_key_7 rfl ?_
  refine zs_callV hC (b := 5) [_] [] dX8_key_8 ml_X8_166 mtX1_known tX1_known (by decide) (by decide) (by decide) rfl rfl (by decide) (by decide +kernel) (Nat.le_of_ble_eq_true rfl) rfl ?_
  have hcap : G.1 6 0 ≤ 232 := by have := hGI.1.made; omega
  refine ⟨x, G.1 6 0, rfl, hCG.1.kr.1, hcap, fun r e => ?_⟩
  rcases e with ⟨rfl, k, hk, rfl⟩ | ⟨rfl, hx⟩
  · dsimp only [Option.toList, List.cons_append, List.nil_append]
    refine zr_if_ne hC dX8_key_11 (tgt := 16) (by decide) (fun c_11 => ?_) (fun c => absurd c (by decide +kernel))
    refine zr_aload_n hC dX8_key_16 rfl ?_
    refine zs_getr hC dX8_key_17 fl_X8_12 (a := 0) (r := 1) rfl (by decide) ?_
    refine zs_getr hC dX8_key_20 fl_X8_120 (a := 1) (r := 5) rfl (by decide) ?_
    refine zs_getr hC dX8_key_23 fl_X8_169 (a := 5) (r := 6) rfl (by decide) ?_
    refine zr_iload_n hC dX8_key_26 rfl ?_
    refine zv_iald hC dX8_key_27 (a := 6) (n := 232) rfl (by decide) (by decide) (j := k) rfl (by omega) ((hCG.1.kr.2 k hk).1) ?_
    refine zr_istore_n hC dX8_key_28 (by decide) ?_
    rcases z_sw4 w with hw | rfl | rfl | rfl | rfl
    · simp only [fKey, mm_yes hk (show G.1 6 0 < 2147483648 by omega), mm_no hw] at hQ
      refine zr_iload_n hC dX8_key_29 rfl ?_
      refine zr_tableOut hC dX8_key_30 (tgt := 110) (z_out hw (by decide)) (by decide) ?_
      refine zk_iconst hC dX8_key_110 (v := (-1)) (by decide +kernel) ?_
      exact zr_ireturn hC hE dX8_key_111 (hr _ _ (hQ _ hCG zfc.rf))
    · simp only [fKey, mm_yes hk (show G.1 6 0 < 2147483648 by omega), mm_yes (show 0 < 4 by decide) (show 4 < 2147483648 by decide), aKey] at hQ
      refine zr_iload_n hC dX8_key_29 rfl ?_
      refine zr_tableIn hC dX8_key_30 (off := 30) (tgt := 60) (by decide +kernel) (by decide +kernel) (by decide +kernel) (by decide) ?_
      refine zr_iload_n hC dX8_key_60 rfl ?_
      exact zr_ireturn hC hE dX8_key_61 (hr _ _ (hQ _ hCG zfc.rf))
    · simp only [fKey, mm_yes hk (show G.1 6 0 < 2147483648 by omega), mm_yes (show 1 < 4 by decide) (show 4 < 2147483648 by decide), aKey] at hQ
      refine zr_iload_n hC dX8_key_29 rfl ?_
      refine zr_tableIn hC dX8_key_30 (off := 32) (tgt := 62) (by decide +kernel) (by decide +kernel) (by decide +kernel) (by decide) ?_
      refine zr_aload_n hC dX8_key_62 rfl ?_
      refine zs_getr hC dX8_key_63 fl_X8_12 (a := 0) (r := 1) rfl (by decide) ?_
      refine zs_getr hC dX8_key_66 fl_X8_120 (a := 1) (r := 5) rfl (by decide) ?_
      refine zs_getr hC dX8_key_69 fl_X8_172 (a := 5) (r := 7) rfl (by decide) ?_
      refine zr_iload_n hC dX8_key_72 rfl ?_
      refine zv_iald hC dX8_key_73 (a := 7) (n := 232) rfl (by decide) (by decide) (j := k) rfl (by omega) ((hCG.1.kr.2 k hk).2.1) ?_
      exact zr_ireturn hC hE dX8_key_74 (hr _ _ (hQ _ hCG zfc.rf))
    · simp only [fKey, mm_yes hk (show G.1 6 0 < 2147483648 by omega), mm_yes (show 2 < 4 by decide) (show 4 < 2147483648 by decide), aKey] at hQ
      refine zr_iload_n hC dX8_key_29 rfl ?_
      refine zr_tableIn hC dX8_key_30 (off := 45) (tgt := 75) (by decide +kernel) (by decide +kernel) (by decide +kernel) (by decide) ?_
      refine zr_aload_n hC dX8_key_75 rfl ?_
      refine zs_getr hC dX8_key_76 fl_X8_12 (a := 0) (r := 1) rfl (by decide) ?_
      refine zs_getr hC dX8_key_79 fl_X8_120 (a := 1) (r := 5) rfl (by decide) ?_
      refine zs_getr hC dX8_key_82 fl_X8_160 (a := 5) (r := 9) rfl (by decide) ?_
      refine zr_iload_n hC dX8_key_85 rfl ?_
      refine zv_iald hC dX8_key_86 (a := 9) (n := 32) rfl (by decide) (by decide) (j := G.1 7 k) rfl (hGI.1.keys hk).2.1 (hCG.1.orr _ (hGI.1.keys hk).1 (hGI.1.keys hk).2.1) ?_
      refine zr_iload_n hC dX8_key_87 rfl ?_
      refine zr_icmp_ne hC dX8_key_88 (tgt := 95) (by decide) (fun c_88 => ?_) (fun c_88 => ?_)
      · rw [if_neg c_88] at hQ
        refine zk_iconst hC dX8_key_95 (v := nI 0) (by decide +kernel) ?_
        exact zr_ireturn hC hE dX8_key_96 (hr _ _ (hQ _ hCG zfc.rf))
      · rw [if_pos c_88] at hQ
        refine zk_iconst hC dX8_key_91 (v := nI 1) (by decide +kernel) ?_
        refine zr_goto hC dX8_key_92 (tgt := 96) (by decide) ?_
        exact zr_ireturn hC hE dX8_key_96 (hr _ _ (hQ _ hCG zfc.rf))
    · simp only [fKey, mm_yes hk (show G.1 6 0 < 2147483648 by omega), mm_yes (show 3 < 4 by decide) (show 4 < 2147483648 by decide), aKey] at hQ
      refine zr_iload_n hC dX8_key_29 rfl ?_
      refine zr_tableIn hC dX8_key_30 (off := 67) (tgt := 97) (by decide +kernel) (by decide +kernel) (by decide +kernel) (by decide) ?_
      refine zr_aload_n hC dX8_key_97 rfl ?_
      refine zs_getr hC dX8_key_98 fl_X8_12 (a := 0) (r := 1) rfl (by decide) ?_
      refine zs_getr hC dX8_key_101 fl_X8_120 (a := 1) (r := 5) rfl (by decide) ?_
      refine zs_getr hC dX8_key_104 fl_X8_175 (a := 5) (r := 8) rfl (by decide) ?_
      refine zr_iload_n hC dX8_key_107 rfl ?_
      refine zv_iald hC dX8_key_108 (a := 8) (n := 232) rfl (by decide) (by decide) (j := k) rfl (by omega) ((hCG.1.kr.2 k hk).2.2) ?_
      exact zr_ireturn hC hE dX8_key_109 (hr _ _ (hQ _ hCG zfc.rf))
  · simp only [fKey, mm_no hx] at hQ
    dsimp only [Option.toList, List.cons_append, List.nil_append]
    refine zr_if_ne hC dX8_key_11 (tgt := 16) (by decide) (fun c => absurd c (by decide +kernel)) (fun c_11 => ?_)
    refine zk_iconst hC dX8_key_14 (v := (-1)) (by decide +kernel) ?_
    exact zr_ireturn hC hE dX8_key_15 (hr _ _ (hQ _ hCG zfc.rf))
def spX8_letter : zSp := fun av S Q => ∃ (G : zG) (x : Int32) (w : Int32), av = [.ref 0, .int x, .int w] ∧ CG S G ∧ GI G ∧ ∀ S', CG S' G → zfc S S' → Q (some (.int (fLetter x w G))) S'
set_option maxHeartbeats 4000000 in
set_option maxRecDepth 100000 in
theorem tX8_letter : zM yX8_letter cX8_letter 3 (some .int) 1 spX8_letter := by
  refine zM.of (by decide) (by decide) (fun av S Q h => by obtain ⟨G, x, w, rfl, hCG, hGI, hQ⟩ := h; exact Nat.le_of_ble_eq_true rfl) (fun C τ ι av S Q Qr h hr hC hE => ?_)
  obtain ⟨G, x, w, rfl, hCG, hGI, hQ⟩ := h
  show zR C τ ι _ 0 0 0 [(0, .ref 0), (1, .int x), (2, .int w)] [] _
  refine zr_aload_n hC dX8_letter_0 rfl ?_
  refine zs_getr hC dX8_letter_1 fl_X8_12 (a := 0) (r := 1) rfl (by decide) ?_
  refine zs_getr hC dX8_letter_4 fl_X8_178 (a := 1) (r := 10) rfl (by decide) ?_
  refine zr_iload_n hC dX8_letter_7 rfl ?_
  refine zs_callV hC (b := 10) [_] [] dX8_letter_8 ml_X8_182 mtX2_known tX2_known (by decide) (by decide) (by decide) rfl rfl (by decide) (by decide +kernel) (Nat.le_of_ble_eq_true rfl) rfl ?_
  have hcap : G.1 6 1 ≤ 232 := by have := hGI.1.written; omega
  refine ⟨x, G.1 6 1, rfl, hCG.1.lr.1, hcap, fun r e => ?_⟩
  rcases e with ⟨rfl, k, hk, rfl⟩ | ⟨rfl, hx⟩
  · dsimp only [Option.toList, List.cons_append, List.nil_append]
    refine zr_if_ne hC dX8_letter_11 (tgt := 16) (by decide) (fun c_11 => ?_) (fun c => absurd c (by decide +kernel))
    rcases z_sw3 w with hw | rfl | rfl | rfl
    · simp only [fLetter, mm_yes hk (show G.1 6 1 < 2147483648 by omega), mm_no hw] at hQ
      refine zr_iload_n hC dX8_letter_16 rfl ?_
      refine zr_tableOut hC dX8_letter_17 (tgt := 83) (z_out hw (by decide)) (by decide) ?_
      refine zk_iconst hC dX8_letter_83 (v := (-1)) (by decide +kernel) ?_
      exact zr_ireturn hC hE dX8_letter_84 (hr _ _ (hQ _ hCG zfc.rf))
    · simp only [fLetter, mm_yes hk (show G.1 6 1 < 2147483648 by omega), mm_yes (show 0 < 3 by decide) (show 3 < 2147483648 by decide), aLetter] at hQ
      refine zr_iload_n hC dX8_letter_16 rfl ?_
      refine zr_tableIn hC dX8_letter_17 (off := 27) (tgt := 44) (by decide +kernel) (by decide +kernel) (by decide +kernel) (by decide) ?_
      refine zr_aload_n hC dX8_letter_44 rfl ?_
      refine zs_getr hC dX8_letter_45 fl_X8_12 (a := 0) (r := 1) rfl (by decide) ?_
      refine zs_getr hC dX8_letter_48 fl_X8_178 (a := 1) (r := 10) rfl (by decide) ?_
      refine zs_getr hC dX8_letter_51 fl_X8_185 (a := 10) (r := 11) rfl (by decide) ?_
      refine zr_iload_n hC dX8_letter_54 rfl ?_
      refine zv_iald hC dX8_letter_55 (a := 11) (n := 192) rfl (by decide) (by decide) (j := k) rfl (by have := hGI.1.written; omega) ((hCG.1.lr.2 k hk).1) ?_
      exact zr_ireturn hC hE dX8_letter_56 (hr _ _ (hQ _ hCG zfc.rf))
    · simp only [fLetter, mm_yes hk (show G.1 6 1 < 2147483648 by omega), mm_yes (show 1 < 3 by decide) (show 3 < 2147483648 by decide), aLetter] at hQ
      refine zr_iload_n hC dX8_letter_16 rfl ?_
      refine zr_tableIn hC dX8_letter_17 (off := 40) (tgt := 57) (by decide +kernel) (by decide +kernel) (by decide +kernel) (by decide) ?_
      refine zr_aload_n hC dX8_letter_57 rfl ?_
      refine zs_getr hC dX8_letter_58 fl_X8_12 (a := 0) (r := 1) rfl (by decide) ?_
      refine zs_getr hC dX8_letter_61 fl_X8_178 (a := 1) (r := 10) rfl (by decide) ?_
      refine zs_getr hC dX8_letter_64 fl_X8_188 (a := 10) (r := 12) rfl (by decide) ?_
      refine zr_iload_n hC dX8_letter_67 rfl ?_
      refine zv_iald hC dX8_letter_68 (a := 12) (n := 192) rfl (by decide) (by decide) (j := k) rfl (by have := hGI.1.written; omega) ((hCG.1.lr.2 k hk).2.1) ?_
      exact zr_ireturn hC hE dX8_letter_69 (hr _ _ (hQ _ hCG zfc.rf))
    · simp only [fLetter, mm_yes hk (show G.1 6 1 < 2147483648 by omega), mm_yes (show 2 < 3 by decide) (show 3 < 2147483648 by decide), aLetter] at hQ
      refine zr_iload_n hC dX8_letter_16 rfl ?_
      refine zr_tableIn hC dX8_letter_17 (off := 53) (tgt := 70) (by decide +kernel) (by decide +kernel) (by decide +kernel) (by decide) ?_
      refine zr_aload_n hC dX8_letter_70 rfl ?_
      refine zs_getr hC dX8_letter_71 fl_X8_12 (a := 0) (r := 1) rfl (by decide) ?_
      refine zs_getr hC dX8_letter_74 fl_X8_178 (a := 1) (r := 10) rfl (by decide) ?_
      refine zs_getr hC dX8_letter_77 fl_X8_191 (a := 10) (r := 13) rfl (by decide) ?_
      refine zr_iload_n hC dX8_letter_80 rfl ?_
      refine zv_iald hC dX8_letter_81 (a := 13) (n := 192) rfl (by decide) (by decide) (j := k) rfl (by have := hGI.1.written; omega) ((hCG.1.lr.2 k hk).2.2) ?_
      exact zr_ireturn hC hE dX8_letter_82 (hr _ _ (hQ _ hCG zfc.rf))
  · simp only [fLetter, mm_no hx] at hQ
    dsimp only [Option.toList, List.cons_append, List.nil_append]
    refine zr_if_ne hC dX8_letter_11 (tgt := 16) (by decide) (fun c => absurd c (by decide +kernel)) (fun c_11 => ?_)
    refine zk_iconst hC dX8_letter_14 (v := (-1)) (by decide +kernel) ?_
    exact zr_ireturn hC hE dX8_letter_15 (hr _ _ (hQ _ hCG zfc.rf))
theorem z_0and (x : Int32) : nI 0 &&& x = nI 0 := Int32.toBitVec_inj.mp (by show 0#32 &&& x.toBitVec = 0#32; simp)
def spX8_count : zSp := fun av S Q => ∃ (G : zG) (w : Int32), av = [.ref 0, .int w] ∧ CG S G ∧ GI G ∧ ∀ S', CG S' G → zfc S S' → Q (some (.int (fCount w G))) S'
set_option maxHeartbeats 4000000 in
set_option maxRecDepth 100000 in
theorem tX8_count : zM yX8_count cX8_count 2 (some .int) 2 spX8_count := by
  refine zM.of (by decide) (by decide) (fun av S Q h => by obtain ⟨G, w, rfl, hCG, hGI, hQ⟩ := h; exact Nat.le_of_ble_eq_true rfl) (fun C τ ι av S Q Qr h hr hC hE => ?_)
  obtain ⟨G, w, rfl, hCG, hGI, hQ⟩ := h
  show zR C τ ι _ 0 0 0 [(0, .ref 0), (1, .int w)] [] _
  rcases z_sw9 w with hw | rfl | rfl | rfl | rfl | rfl | rfl | rfl | rfl | rfl
  · simp only [fCount, mm_no hw] at hQ
    refine zr_iload_n hC dX8_count_0 rfl ?_
    refine zr_tableOut hC dX8_count_1 (tgt := 156) (z_out hw (by decide)) (by decide) ?_
    refine zk_iconst hC dX8_count_156 (v := (-1)) (by decide +kernel) ?_
    exact zr_ireturn hC hE dX8_count_157 (hr _ _ (hQ _ hCG zfc.rf))
  · simp only [fCount, mm_yes (show 0 < 9 by decide) (show 9 < 2147483648 by decide), aCount] at hQ
    refine zr_iload_n hC dX8_count_0 rfl ?_
    refine zr_tableIn hC dX8_count_1 (off := 51) (tgt := 52) (by decide +kernel) (by decide +kernel) (by decide +kernel) (by decide) ?_
    refine zr_aload_n hC dX8_count_52 rfl ?_
    refine zs_getr hC dX8_count_53 fl_X8_12 (a := 0) (r := 1) rfl (by decide) ?_
    refine zs_getr hC dX8_count_56 fl_X8_132 (a := 1) (r := 2) rfl (by decide) ?_
    refine zs_callV hC (b := 2) [] [] dX8_count_59 ml_X8_192 mtX5_all tX5_all (by decide) (by decide) (by decide) rfl rfl (by decide) (by decide +kernel) (Nat.le_of_ble_eq_true rfl) rfl ?_
    refine ⟨rfl, ?_⟩
    rw [hCG.1.sr.2.1 1 (by decide) (by decide)]
    dsimp only [Option.toList, List.cons_append, List.nil_append]
    exact zr_ireturn hC hE dX8_count_62 (hr _ _ (hQ _ hCG zfc.rf))
  · simp only [fCount, mm_yes (show 1 < 9 by decide) (show 9 < 2147483648 by decide), aCount] at hQ
    refine zr_iload_n hC dX8_count_0 rfl ?_
    refine zr_tableIn hC dX8_count_1 (off := 62) (tgt := 63) (by decide +kernel) (by decide +kernel) (by decide +kernel) (by decide) ?_
    refine zr_aload_n hC dX8_count_63 rfl ?_
    refine zs_getr hC dX8_count_64 fl_X8_12 (a := 0) (r := 1) rfl (by decide) ?_
    refine zv_geti hC dX8_count_67 fl_X8_72 (a := 1) rfl (by decide) (hCG.1.ms.1) ?_
    exact zr_ireturn hC hE dX8_count_70 (hr _ _ (hQ _ hCG zfc.rf))
  · simp only [fCount, mm_yes (show 2 < 9 by decide) (show 9 < 2147483648 by decide), aCount] at hQ
    refine zr_iload_n hC dX8_count_0 rfl ?_
    refine zr_tableIn hC dX8_count_1 (off := 70) (tgt := 71) (by decide +kernel) (by decide +kernel) (by decide +kernel) (by decide) ?_
    refine zr_aload_n hC dX8_count_71 rfl ?_
    refine zs_getr hC dX8_count_72 fl_X8_12 (a := 0) (r := 1) rfl (by decide) ?_
    refine zv_geti hC dX8_count_75 fl_X8_88 (a := 1) rfl (by decide) (hCG.1.ms.2.1) ?_
    exact zr_ireturn hC hE dX8_count_78 (hr _ _ (hQ _ hCG zfc.rf))
  · simp only [fCount, mm_yes (show 3 < 9 by decide) (show 9 < 2147483648 by decide), aCount] at hQ
    refine zr_iload_n hC dX8_count_0 rfl ?_
    refine zr_tableIn hC dX8_count_1 (off := 78) (tgt := 79) (by decide +kernel) (by decide +kernel) (by decide +kernel) (by decide) ?_
    refine zr_aload_n hC dX8_count_79 rfl ?_
    refine zs_getr hC dX8_count_80 fl_X8_12 (a := 0) (r := 1) rfl (by decide) ?_
    refine zv_geti hC dX8_count_83 fl_X8_154 (a := 1) rfl (by decide) (hCG.1.ms.2.2) ?_
    exact zr_ireturn hC hE dX8_count_86 (hr _ _ (hQ _ hCG zfc.rf))
  · simp only [fCount, mm_yes (show 4 < 9 by decide) (show 9 < 2147483648 by decide), aCount] at hQ
    refine zr_iload_n hC dX8_count_0 rfl ?_
    refine zr_tableIn hC dX8_count_1 (off := 86) (tgt := 87) (by decide +kernel) (by decide +kernel) (by decide +kernel) (by decide) ?_
    refine zr_aload_n hC dX8_count_87 rfl ?_
    refine zs_getr hC dX8_count_88 fl_X8_12 (a := 0) (r := 1) rfl (by decide) ?_
    refine zs_getr hC dX8_count_91 fl_X8_120 (a := 1) (r := 5) rfl (by decide) ?_
    refine zv_geti hC dX8_count_94 fl_X8_124 (a := 5) rfl (by decide) (hCG.1.kr.1) ?_
    exact zr_ireturn hC hE dX8_count_97 (hr _ _ (hQ _ hCG zfc.rf))
  · simp only [fCount, mm_yes (show 5 < 9 by decide) (show 9 < 2147483648 by decide), aCount] at hQ
    refine zr_iload_n hC dX8_count_0 rfl ?_
    refine zr_tableIn hC dX8_count_1 (off := 97) (tgt := 98) (by decide +kernel) (by decide +kernel) (by decide +kernel) (by decide) ?_
    refine zr_aload_n hC dX8_count_98 rfl ?_
    refine zs_getr hC dX8_count_99 fl_X8_12 (a := 0) (r := 1) rfl (by decide) ?_
    refine zs_getr hC dX8_count_102 fl_X8_178 (a := 1) (r := 10) rfl (by decide) ?_
    refine zv_geti hC dX8_count_105 fl_X8_195 (a := 10) rfl (by decide) (hCG.1.lr.1) ?_
    exact zr_ireturn hC hE dX8_count_108 (hr _ _ (hQ _ hCG zfc.rf))
  · simp only [fCount, mm_yes (show 6 < 9 by decide) (show 9 < 2147483648 by decide), aCount] at hQ
    refine zr_iload_n hC dX8_count_0 rfl ?_
    refine zr_tableIn hC dX8_count_1 (off := 108) (tgt := 109) (by decide +kernel) (by decide +kernel) (by decide +kernel) (by decide) ?_
    refine zr_aload_n hC dX8_count_109 rfl ?_
    refine zs_getr hC dX8_count_110 fl_X8_12 (a := 0) (r := 1) rfl (by decide) ?_
    refine zv_geti hC dX8_count_113 fl_X8_198 (a := 1) rfl (by decide) (hCG.1.qr.1) ?_
    exact zr_ireturn hC hE dX8_count_116 (hr _ _ (hQ _ hCG zfc.rf))
  · simp only [fCount, mm_yes (show 7 < 9 by decide) (show 9 < 2147483648 by decide), aCount] at hQ
    refine zr_iload_n hC dX8_count_0 rfl ?_
    refine zr_tableIn hC dX8_count_1 (off := 116) (tgt := 117) (by decide +kernel) (by decide +kernel) (by decide +kernel) (by decide) ?_
    by_cases hs : sm (G.1 0) 1 = 0
    · have hg : S.1 9 1 = -4 := (hCG.1.orr 1 (by decide) (by decide)).trans (if_pos hs)
      have h41 : S.1 4 1 = nI 0 := by rw [hCG.1.sr.2.1 1 (by decide) (by decide), hs]
      rw [if_pos hs] at hQ
      refine zr_aload_n hC dX8_count_117 rfl ?_
      refine zs_getr hC dX8_count_118 fl_X8_12 (a := 0) (r := 1) rfl (by decide) ?_
      refine zs_getr hC dX8_count_121 fl_X8_132 (a := 1) (r := 2) rfl (by decide) ?_
      refine zs_callV hC (b := 2) [] [] dX8_count_124 ml_X8_192 mtX5_all tX5_all (by decide) (by decide) (by decide) rfl rfl (by decide) (by decide +kernel) (Nat.le_of_ble_eq_true rfl) rfl ?_
      refine ⟨rfl, ?_⟩
      rw [h41]
      dsimp only [Option.toList, List.cons_append, List.nil_append]
      refine zr_aload_n hC dX8_count_127 rfl ?_
      refine zs_getr hC dX8_count_128 fl_X8_12 (a := 0) (r := 1) rfl (by decide) ?_
      refine zs_getr hC dX8_count_131 fl_X8_120 (a := 1) (r := 5) rfl (by decide) ?_
      refine zr_aload_n hC dX8_count_134 rfl ?_
      refine zs_getr hC dX8_count_135 fl_X8_12 (a := 0) (r := 1) rfl (by decide) ?_
      refine zs_callV hC (b := 1) [] [_, _] dX8_count_138 ml_X8_145 mtX0_groupKey tX0_groupKey (by decide) (by decide) (by decide) rfl rfl (by decide) (by decide +kernel) (Nat.le_of_ble_eq_true rfl) rfl ?_
      refine ⟨rfl, ?_⟩
      rw [hg]
      dsimp only [Option.toList, List.cons_append, List.nil_append]
      refine zs_callV hC (b := 5) [_] [_] dX8_count_141 ml_X8_148 mtX1_holdersOf tX1_holdersOf (by decide) (by decide) (by decide) rfl rfl (by decide) (by decide +kernel) (Nat.le_of_ble_eq_true rfl) rfl ?_
      refine ⟨_, G.1 6 0, rfl, hCG.1.kr.1, by have := hGI.1.made; omega, fun r e => ?_⟩
      have e : r = nI 0 := by
        rcases e with ⟨j, hj, e, -⟩ | ⟨-, e⟩
        · exact absurd e.symm (nI_ne4 (by have := hGI.1.made; omega))
        · exact e
      subst e
      dsimp only [Option.toList, List.cons_append, List.nil_append]
      refine zk_iconst hC dX8_count_144 (v := (-1)) (by decide +kernel) ?_
      refine zr_ixor hC dX8_count_145 ?_
      refine zn_iand hC dX8_count_146 (z_0and _) ?_
      exact zr_ireturn hC hE dX8_count_147 (hr _ _ (hQ _ hCG zfc.rf))
    · have hg : S.1 9 1 = nI (key G.1 1) := hCG.1.node (by decide) (by decide) hs
      have h41 : S.1 4 1 = nI (sm (G.1 0) 1) := hCG.1.sr.2.1 1 (by decide) (by decide)
      rw [if_neg hs] at hQ
      have hk : key G.1 1 < G.1 6 0 := hGI.1.root hs
      have h60 : G.1 6 0 ≤ 232 := by have := hGI.1.made; omega
      refine zr_aload_n hC dX8_count_117 rfl ?_
      refine zs_getr hC dX8_count_118 fl_X8_12 (a := 0) (r := 1) rfl (by decide) ?_
      refine zs_getr hC dX8_count_121 fl_X8_132 (a := 1) (r := 2) rfl (by decide) ?_
      refine zs_callV hC (b := 2) [] [] dX8_count_124 ml_X8_192 mtX5_all tX5_all (by decide) (by decide) (by decide) rfl rfl (by decide) (by decide +kernel) (Nat.le_of_ble_eq_true rfl) rfl ?_
      refine ⟨rfl, ?_⟩
      rw [h41]
      dsimp only [Option.toList, List.cons_append, List.nil_append]
      refine zr_aload_n hC dX8_count_127 rfl ?_
      refine zs_getr hC dX8_count_128 fl_X8_12 (a := 0) (r := 1) rfl (by decide) ?_
      refine zs_getr hC dX8_count_131 fl_X8_120 (a := 1) (r := 5) rfl (by decide) ?_
      refine zr_aload_n hC dX8_count_134 rfl ?_
      refine zs_getr hC dX8_count_135 fl_X8_12 (a := 0) (r := 1) rfl (by decide) ?_
      refine zs_callV hC (b := 1) [] [_, _] dX8_count_138 ml_X8_145 mtX0_groupKey tX0_groupKey (by decide) (by decide) (by decide) rfl rfl (by decide) (by decide +kernel) (Nat.le_of_ble_eq_true rfl) rfl ?_
      refine ⟨rfl, ?_⟩
      rw [hg]
      dsimp only [Option.toList, List.cons_append, List.nil_append]
      refine zs_callV hC (b := 5) [_] [_] dX8_count_141 ml_X8_148 mtX1_holdersOf tX1_holdersOf (by decide) (by decide) (by decide) rfl rfl (by decide) (by decide +kernel) (Nat.le_of_ble_eq_true rfl) rfl ?_
      refine ⟨_, G.1 6 0, rfl, hCG.1.kr.1, h60, fun r e => ?_⟩
      have e := hCG.1.kr.node' hk h60 (fun j hj => (hCG.1.kr.2 j hj).2.2) e
      subst e
      dsimp only [Option.toList, List.cons_append, List.nil_append]
      refine zk_iconst hC dX8_count_144 (v := (-1)) (by decide +kernel) ?_
      refine zr_ixor hC dX8_count_145 ?_
      refine zn_iand hC dX8_count_146 (z_andn _ _) ?_
      exact zr_ireturn hC hE dX8_count_147 (hr _ _ (hQ _ hCG zfc.rf))
  · simp only [fCount, mm_yes (show 8 < 9 by decide) (show 9 < 2147483648 by decide), aCount] at hQ
    refine zr_iload_n hC dX8_count_0 rfl ?_
    refine zr_tableIn hC dX8_count_1 (off := 147) (tgt := 148) (by decide +kernel) (by decide +kernel) (by decide +kernel) (by decide) ?_
    refine zr_aload_n hC dX8_count_148 rfl ?_
    refine zs_getr hC dX8_count_149 fl_X8_19 (a := 0) (r := 17) rfl (by decide) ?_
    refine zv_geti hC dX8_count_152 fl_X8_200 (a := 17) rfl (by decide) (hCG.2.1.1) ?_
    exact zr_ireturn hC hE dX8_count_155 (hr _ _ (hQ _ hCG zfc.rf))
def spX8_why : zSp := fun av S Q => ∃ (G : zG) (x : Int32) (i : Int32), av = [.ref 0, .int x, .int i] ∧ CG S G ∧ GI G ∧ ∀ S', CG S' G → zfc S S' → Q (some (.int (fWhy x i G))) S'
set_option maxHeartbeats 4000000 in
set_option maxRecDepth 100000 in
theorem tX8_why : zM yX8_why cX8_why 3 (some .int) 4 spX8_why := by
  refine zM.of (by decide) (by decide) (fun av S Q h => by obtain ⟨G, x, i, rfl, hCG, hGI, hQ⟩ := h; exact Nat.le_of_ble_eq_true rfl) (fun C τ ι av S Q Qr h hr hC hE => ?_)
  obtain ⟨G, x, i, rfl, hCG, hGI, hQ⟩ := h
  show zR C τ ι _ 0 0 0 [(0, .ref 0), (1, .int x), (2, .int i)] [] _
  refine zr_iload_n hC dX8_why_0 rfl ?_
  refine zs_callS hC [_] [] dX8_why_1 ml_X8_57 mtX8_noMember tX8_noMember (by decide) (by decide) (by decide) rfl (Nat.le_of_ble_eq_true rfl) rfl ?_
  refine ⟨x, rfl, fun r e => ?_⟩
  rcases e with ⟨rfl, hx⟩ | ⟨rfl, m, hm, rfl⟩
  · simp only [fWhy, mm_no hx] at hQ
    dsimp only [Option.toList, List.cons_append, List.nil_append]
    refine zr_if_ne hC dX8_why_4 (tgt := 21) (by decide) (fun c_4 => ?_) (fun c => absurd c (by decide +kernel))
    refine zk_iconst hC dX8_why_21 (v := (-1)) (by decide +kernel) ?_
    exact zr_ireturn hC hE dX8_why_22 (hr _ _ (hQ _ hCG zfc.rf))
  · dsimp only [Option.toList, List.cons_append, List.nil_append]
    refine zr_if_ne hC dX8_why_4 (tgt := 21) (by decide) (fun c => absurd c (by decide +kernel)) (fun c_4 => ?_)
    refine zr_aload_n hC dX8_why_7 rfl ?_
    refine zs_getr hC dX8_why_8 fl_X8_12 (a := 0) (r := 1) rfl (by decide) ?_
    refine zs_getr hC dX8_why_11 fl_X8_178 (a := 1) (r := 10) rfl (by decide) ?_
    refine zr_iload_n hC dX8_why_14 rfl ?_
    refine zs_callV hC (b := 10) [_] [] dX8_why_15 ml_X8_182 mtX2_known tX2_known (by decide) (by decide) (by decide) rfl rfl (by decide) (by decide +kernel) (Nat.le_of_ble_eq_true rfl) rfl ?_
    have hcap : G.1 6 1 ≤ 232 := by have := hGI.1.written; omega
    refine ⟨i, G.1 6 1, rfl, hCG.1.lr.1, hcap, fun r e => ?_⟩
    rcases e with ⟨rfl, k, hk, rfl⟩ | ⟨rfl, hx⟩
    · simp only [fWhy, mm_yes hm (show 16 < 2147483648 by decide), mm_yes hk (show G.1 6 1 < 2147483648 by omega)] at hQ
      dsimp only [Option.toList, List.cons_append, List.nil_append]
      refine zr_if_ne hC dX8_why_18 (tgt := 23) (by decide) (fun c_18 => ?_) (fun c => absurd c (by decide +kernel))
      refine zr_aload_n hC dX8_why_23 rfl ?_
      refine zs_getr hC dX8_why_24 fl_X8_12 (a := 0) (r := 1) rfl (by decide) ?_
      refine zr_iload_n hC dX8_why_27 rfl ?_
      refine zr_aload_n hC dX8_why_28 rfl ?_
      refine zs_getr hC dX8_why_29 fl_X8_12 (a := 0) (r := 1) rfl (by decide) ?_
      refine zs_getr hC dX8_why_32 fl_X8_178 (a := 1) (r := 10) rfl (by decide) ?_
      refine zs_getr hC dX8_why_35 fl_X8_188 (a := 10) (r := 12) rfl (by decide) ?_
      refine zr_iload_n hC dX8_why_38 rfl ?_
      refine zv_iald hC dX8_why_39 (a := 12) (n := 192) rfl (by decide) (by decide) (j := k) rfl (by have := hGI.1.written; omega) ((hCG.1.lr.2 k hk).2.1) ?_
      refine zs_callV hC (b := 1) [_, _] [] dX8_why_40 ml_X8_202 mtX0_whyShut tX0_whyShut (by decide) (by decide) (by decide) rfl rfl (by decide) (by decide +kernel) (Nat.le_of_ble_eq_true rfl) rfl ?_
      refine ⟨m, _, G.1, rfl, hm, (hGI.1.lets hk).2.1, hCG.1, hGI.1, ?_⟩
      dsimp only [Option.toList, List.cons_append, List.nil_append]
      exact zr_ireturn hC hE dX8_why_43 (hr _ _ (hQ _ hCG zfc.rf))
    · simp only [fWhy, mm_yes hm (show 16 < 2147483648 by decide), mm_no hx] at hQ
      dsimp only [Option.toList, List.cons_append, List.nil_append]
      refine zr_if_ne hC dX8_why_18 (tgt := 23) (by decide) (fun c => absurd c (by decide +kernel)) (fun c_18 => ?_)
      refine zk_iconst hC dX8_why_21 (v := (-1)) (by decide +kernel) ?_
      exact zr_ireturn hC hE dX8_why_22 (hr _ _ (hQ _ hCG zfc.rf))
