/-! THE LAW'S told -/
theorem lcut_1 : ∀ x, x < 192 → (lcut 1 (nI x).toInt64).toInt = (x : Int) := by decide +kernel
theorem fsht {G : zG} : fSheet (nI 0) (nI 1) (nI 24) G = (nI 24, gsh G (shnew G.2.2.2.2 0 2 24)) := by
  unfold fSheet
  rw [mm_yes (show 0 < 4 by decide) (by decide), mm_yes (show 1 < 4 by decide) (by decide)]
  show (if nI 24 < nI 24 then _ else if nI 24 < 0 then _ else _) = _
  rw [if_neg (by decide), if_neg (by decide)]
  rfl
theorem lkb_of {a b z : Nat} (h : a + b ≤ z) (hz : z ≤ 24) : lkb (nI a) (nI b) z = true := (lkb_iff hz).mpr ⟨a, b, rfl, rfl, h⟩
theorem shr_ok {h : zH} {a b : Nat} (h1 : h.1 0 = 2) (h2 : h.2.1 0 = 24) (hab : a + b ≤ 24) : shref h 0 1 (nI a) (nI b) = nI 0 := by
  unfold shref
  rw [if_neg (by omega), if_neg (by omega), h2, if_pos (lkb_of hab (Nat.le_refl _))]
theorem fitm {G : zG} {k : Nat} {v : Int64} (h1 : G.2.2.2.2.1 0 = 2) (h2 : G.2.2.2.2.2.1 0 = 24) (hk : k < 24) : fItem (nI 0) (nI 1) (nI k) v G = (nI 1, gsh G (itset G.2.2.2.2 0 k (lcut 1 v))) := by
  unfold fItem
  rw [mm_yes (show 0 < 4 by decide) (by decide), mm_yes (show 1 < 4 by decide) (by decide)]
  show (if shref G.2.2.2.2 0 1 (nI k) (nI 1) ≠ nI 0 then _ else _) = _
  rw [if_neg (fun z => z (shr_ok h1 h2 (by omega))), pk_tn (by omega)]
/-- k items of sheet 0 tell letters from b on -/
def tdI (h : zH) (b k : Nat) : Prop := h.1 0 = 2 ∧ h.2.1 0 = 24 ∧ ∀ j, j < k → (h.2.2 0 j).toInt = ((b + j : Nat) : Int)
theorem tdI.step {h : zH} {b k : Nat} (t : tdI h b k) (hb : b + k < 192) : tdI (itset h 0 k (lcut 1 (nI (b + k)).toInt64)) b (k + 1) := by
  refine ⟨t.1, t.2.1, fun j hj => ?_⟩
  show (if 0 = 0 ∧ j = k then _ else h.2.2 0 j).toInt = _
  by_cases e : j = k
  · rw [if_pos ⟨rfl, e⟩, lcut_1 _ hb, e]
  · rw [if_neg (fun z => e z.2)]
    exact t.2.2 j (by omega)
theorem tdI.okk {h : zH} {D : zD} {b n : Nat} (t : tdI h b n) (hn : b + n ≤ D 6 1) : ∀ k, k ≤ n → gok D h 0 0 k = true
  | 0, _ => rfl
  | k + 1, hk => by
    have e := t.2.2 k (by omega)
    show (gok D h 0 0 k && (decide (0 ≤ (h.2.2 0 (0 + k)).toInt) && decide ((h.2.2 0 (0 + k)).toInt < (D 6 1 : Int)))) = true
    rw [tdI.okk t hn k (by omega), Nat.zero_add, e, decide_eq_true (by omega), decide_eq_true (by omega)]
    rfl
theorem fgt {G : zG} {m n b : Nat} (hg : GI G) (hm : m < 16) (h1 : 1 ≤ n) (h2 : n ≤ 24) (t : tdI G.2.2.2.2 b n) (hn : b + n ≤ G.1 6 1) : fGot (nI m) (nI 0) (nI 1) (nI 0) (nI n) G = if sm (G.1 0) 1 = 0 then -4 else zb (gop G.1 G.2.2.2.2 m 0 0 n (key G.1 1)) := by
  unfold fGot
  rw [mm_yes hm (by decide), mm_yes (show 0 < 4 by decide) (by decide), mm_yes (show 1 < 4 by decide) (by decide), rg_yes h1 h2 (by decide)]
  show (if shref G.2.2.2.2 0 1 (nI 0) (nI n) ≠ nI 0 then _ else if gok G.1 G.2.2.2.2 0 (nI 0).toBitVec.toNat n = false then _ else _) = _
  rw [if_neg (fun z => z (shr_ok t.1 t.2.1 (by omega))), pk_tn (by omega), tdI.okk t hn n (Nat.le_refl _), if_neg (by decide)]
theorem fflm {G : zG} {a : Nat} (h1 : G.2.2.2.2.1 0 = 2) (h2 : G.2.2.2.2.2.1 0 = 24) (ha : a + 5 ≤ 24) : fFilm (nI 16) (nI 0) (nI 1) (nI a) G = (nI 5, gsh G (flm G.1 1 0 a 5 16 G.2.2.2.2)) := by
  unfold fFilm
  rw [rg_yes (show 16 ≤ 16 by decide) (show 16 ≤ 31 by decide) (by decide), mm_yes (show 0 < 4 by decide) (by decide), mm_yes (show 1 < 4 by decide) (by decide)]
  show (if shref G.2.2.2.2 0 1 (nI a) (nI 5) ≠ nI 0 then _ else _) = _
  rw [if_neg (fun z => z (shr_ok h1 h2 ha)), pk_tn (by omega)]
theorem m13_0 : (-13 : Int32) ≠ nI 0 := by decide
theorem fflmN {G : zG} (h1 : G.2.2.2.2.1 0 = 2) (h2 : G.2.2.2.2.2.1 0 = 24) : fFilm (nI 16) (nI 0) (nI 1) (nI 20) G = (-13, G) := by
  unfold fFilm
  rw [rg_yes (show 16 ≤ 16 by decide) (show 16 ≤ 31 by decide) (by decide), mm_yes (show 0 < 4 by decide) (by decide), mm_yes (show 1 < 4 by decide) (by decide)]
  have e : shref G.2.2.2.2 0 1 (nI 20) (nI 5) = -13 := by
    unfold shref
    rw [if_neg (by omega), if_neg (by omega), h2, if_neg (fun z => ?_)]
    obtain ⟨a, b, ea, eb, hab⟩ := (lkb_iff (Nat.le_refl 24)).mp z
    by_cases qa : a < 2147483648
    · by_cases qb : b < 2147483648
      · rw [nI_eq (by omega) (by omega)] at ea eb
        omega
      · omega
    · omega
  show (if shref G.2.2.2.2 0 1 (nI 20) (nI 5) ≠ nI 0 then _ else _) = _
  rw [e, if_pos m13_0]
theorem fdrp {G : zG} (h1 : G.2.2.2.2.1 0 = 2) : fDrop (nI 0) G = (nI (G.2.2.2.2.2.1 0), gsh G (shnew G.2.2.2.2 0 0 0)) := by
  unfold fDrop
  rw [mm_yes (show 0 < 4 by decide) (by decide)]
  exact if_neg (by omega)
theorem gsh_1 (G : zG) (h : zH) : (gsh G h).1 = G.1 := rfl
theorem gsh_h (G : zG) (h : zH) : (gsh G h).2.2.2.2 = h := rfl
set_option maxHeartbeats 1000000 in
set_option maxRecDepth 100000 in
theorem lL_td1 {C : zCx} {τ : Nat → ClassId} {ι : Nat → Nat} (hC : zOK C τ (zrm 3 0 0) yL_told.cls cL_told 5) {D : zD} {n : Nat} (hn : n ≤ 24) (hnd : n ≤ D 6 1) (k : ∀ S G, CG S G → GI G → G.1 = D → tdI G.2.2.2.2 (D 6 1 - n) n → ∀ {lv : List (Nat × Value)}, zsub lv [(0, .ref 0), (1, .int (nI n)), (2, .int (nI 1))] → zR C τ ι 5 0 0 84 lv [] (zcells S)) : ∀ (d i : Nat) (S : zS) (G : zG), i + d = n → CG S G → GI G → G.1 = D → tdI G.2.2.2.2 (D 6 1 - n) i → zR C τ ι 5 0 0 42 [(0, .ref 0), (1, .int (nI n)), (2, .int (nI 1)), (3, .int (nI i))] [] (zcells S) := by
  intro d
  induction d with
  | zero =>
    intro i S G hi hc hg e1 ht
    have e : i = n := by omega
    refine zr_iload_n hC dL_told_42 rfl ?_
    refine zr_iload_n hC dL_told_43 rfl ?_
    refine zr_icmp_ge hC dL_told_44 (tgt := 84) (by decide) (fun c_44 => ?_) (fun c => absurd c (not_not_intro (nI_le (by omega) (by omega))))
    exact k S G hc hg e1 (by rw [e] at ht; exact ht) ⟨rfl, rfl, rfl, trivial⟩
  | succ d ih =>
    intro i S G hi hc hg e1 ht
    have hb1 := hg.1.written
    have e61 : G.1 6 1 = D 6 1 := by rw [e1]
    refine zr_iload_n hC dL_told_42 rfl ?_
    refine zr_iload_n hC dL_told_43 rfl ?_
    refine zr_icmp_ge hC dL_told_44 (tgt := 84) (by decide) (fun c => absurd c (nI_ge (by omega) (by omega))) (fun c_44 => ?_)
    refine zr_iload_n hC dL_told_47 rfl ?_
    refine zr_if_eq hC dL_told_48 (tgt := 84) (by decide) (fun c => absurd c (by decide +kernel)) (fun c_48 => ?_)
    refine zr_aload_n hC dL_told_51 rfl ?_
    refine zk_iconst hC dL_told_52 (v := nI 0) (by decide +kernel) ?_
    refine zk_iconst hC dL_told_53 (v := nI 1) (by decide +kernel) ?_
    refine zr_iload_n hC dL_told_54 rfl ?_
    refine zr_aload_n hC dL_told_55 rfl ?_
    refine zk_iconst hC dL_told_56 (v := nI 5) (by decide +kernel) ?_
    refine zs_callV hC (b := 0) [_] [_, _, _, _] dL_told_57 ml_L_37 mtX8_count tX8_count (by decide) (by decide) (by decide) rfl rfl (by decide) (by decide +kernel) (Nat.le_of_ble_eq_true rfl) rfl ?_
    refine ⟨G, _, rfl, hc, hg, fun S hc _ => ?_⟩
    rw [fc_5, e1]
    dsimp only [Option.toList, List.cons_append, List.nil_append]
    refine zr_iload_n hC dL_told_60 rfl ?_
    refine zn_isub hC dL_told_61 (pk_sub hnd) ?_
    refine zr_iload_n hC dL_told_62 rfl ?_
    refine zn_iadd hC dL_told_63 (nI_add _ _) ?_
    refine zr_i2l hC dL_told_64 ?_
    refine zs_callV hC (b := 0) [_, _, _, _] [] dL_told_65 ml_L_116 mtX8_item tX8_item (by decide) (by decide) (by decide) rfl rfl (by decide) (by decide +kernel) (Nat.le_of_ble_eq_true rfl) rfl ?_
    refine ⟨G, _, _, _, _, rfl, hc, hg, fun S hc _ => ?_⟩
    have hgH := gi_item hg (nI 0) (nI 1) (nI i) (nI (D 6 1 - n + i)).toInt64
    rw [fitm ht.1 ht.2.1 (by omega)] at hc hgH ⊢
    have htH := ht.step (by omega)
    obtain ⟨H, dfH⟩ : ∃ H, H = gsh G (itset G.2.2.2.2 0 i (lcut 1 (nI (D 6 1 - n + i)).toInt64)) := ⟨_, rfl⟩
    rw [← dfH] at hc hgH
    have eH : H.1 = D := by rw [dfH, gsh_1]; exact e1
    have htH : tdI H.2.2.2.2 (D 6 1 - n) (i + 1) := by rw [dfH, gsh_h]; exact htH
    dsimp only [Option.toList, List.cons_append, List.nil_append]
    refine zk_iconst hC dL_told_68 (v := nI 1) (by decide +kernel) ?_
    refine zr_icmp_ne hC dL_told_69 (tgt := 76) (by decide) (fun c => absurd c (not_not_intro rfl)) (fun c_69 => ?_)
    refine zk_iconst hC dL_told_72 (v := nI 1) (by decide +kernel) ?_
    refine zr_goto hC dL_told_73 (tgt := 77) (by decide) ?_
    refine zr_istore_n hC dL_told_77 (by decide) ?_
    refine zn_iinc hC dL_told_78 rfl (by decide) (zk_inc _ 1) ?_
    refine zr_goto hC dL_told_81 (tgt := 42) (by decide) ?_
    exact zR_sub [(0, .ref 0), (1, .int (nI n)), (2, .int (nI 1)), (3, .int (nI (i + 1)))] ⟨rfl, rfl, rfl, rfl, trivial⟩ (ih (i + 1) S H (by omega) hc hgH eH htH)
set_option maxHeartbeats 1000000 in
set_option maxRecDepth 100000 in
theorem lL_td2 {C : zCx} {τ : Nat → ClassId} {ι : Nat → Nat} (hC : zOK C τ (zrm 3 0 0) yL_told.cls cL_told 5) {G : zG} {n b : Nat} (hn : n ≤ 24) (hg : GI G) (hw : WS G.1) (ht : tdI G.2.2.2.2 b n) (hbn : b + n ≤ G.1 6 1) (k : ∀ S, CG S G → ∀ {lv : List (Nat × Value)}, zsub lv [(0, .ref 0), (2, .int (nI 1))] → zR C τ ι 5 0 0 169 lv [] (zcells S)) : ∀ (d i : Nat) (S : zS), i + d = 16 → CG S G → zR C τ ι 5 0 0 86 [(0, .ref 0), (1, .int (nI n)), (2, .int (nI 1)), (3, .int (nI i))] [] (zcells S) := by
  intro d
  induction d with
  | zero =>
    intro i S hi hc
    refine zr_iload_n hC dL_told_86 rfl ?_
    refine zk_bipush hC dL_told_87 (v := nI 16) (by decide +kernel) ?_
    refine zr_icmp_ge hC dL_told_89 (tgt := 169) (by decide) (fun c_89 => ?_) (fun c => absurd c (not_not_intro (nI_le (by omega) (by omega))))
    exact k S hc ⟨rfl, rfl, trivial⟩
  | succ d ih =>
    intro i S hi hc
    have hm : i < 16 := by omega
    by_cases hn0 : n = 0
    · rw [hn0]
      refine zr_iload_n hC dL_told_86 rfl ?_
      refine zk_bipush hC dL_told_87 (v := nI 16) (by decide +kernel) ?_
      refine zr_icmp_ge hC dL_told_89 (tgt := 169) (by decide) (fun c => absurd c (nI_ge (by omega) (by omega))) (fun c_89 => ?_)
      refine zr_iload_n hC dL_told_92 rfl ?_
      refine zr_if_eq hC dL_told_93 (tgt := 169) (by decide) (fun c => absurd c (by decide +kernel)) (fun c_93 => ?_)
      refine zr_iload_n hC dL_told_96 rfl ?_
      refine zr_if_le hC dL_told_97 (tgt := 169) (by decide) (fun c_97 => ?_) (fun c => absurd c (not_not_intro (by decide)))
      exact k S hc ⟨rfl, rfl, trivial⟩
    · have hb1 := hg.1.made
      by_cases hs0 : sm (G.1 0) 1 = 0
      · refine zr_iload_n hC dL_told_86 rfl ?_
        refine zk_bipush hC dL_told_87 (v := nI 16) (by decide +kernel) ?_
        refine zr_icmp_ge hC dL_told_89 (tgt := 169) (by decide) (fun c => absurd c (nI_ge (by omega) (by omega))) (fun c_89 => ?_)
        refine zr_iload_n hC dL_told_92 rfl ?_
        refine zr_if_eq hC dL_told_93 (tgt := 169) (by decide) (fun c => absurd c (by decide +kernel)) (fun c_93 => ?_)
        refine zr_iload_n hC dL_told_96 rfl ?_
        refine zr_if_le hC dL_told_97 (tgt := 169) (by decide) (fun c => absurd c (nI_ge (a := 0) (by omega) (by omega))) (fun c_97 => ?_)
        refine zr_aload_n hC dL_told_100 rfl ?_
        refine zr_iload_n hC dL_told_101 rfl ?_
        refine zk_iconst hC dL_told_102 (v := nI 0) (by decide +kernel) ?_
        refine zk_iconst hC dL_told_103 (v := nI 1) (by decide +kernel) ?_
        refine zk_iconst hC dL_told_104 (v := nI 0) (by decide +kernel) ?_
        refine zr_iload_n hC dL_told_105 rfl ?_
        refine zs_callV hC (b := 0) [_, _, _, _, _] [] dL_told_106 ml_L_120 mtX8_got tX8_got (by decide) (by decide) (by decide) rfl rfl (by decide) (by decide +kernel) (Nat.le_of_ble_eq_true rfl) rfl ?_
        refine ⟨G, _, _, _, _, _, rfl, hc, hg, fun S hc _ => ?_⟩
        rw [fgt hg hm (by omega) hn ht (by omega), if_pos hs0]
        dsimp only [Option.toList, List.cons_append, List.nil_append]
        refine zr_istore hC dL_told_109 (by decide) ?_
        refine zr_aload_n hC dL_told_111 rfl ?_
        refine zk_iconst hC dL_told_112 (v := nI 1) (by decide +kernel) ?_
        refine zk_iconst hC dL_told_113 (v := nI 0) (by decide +kernel) ?_
        refine zs_callV hC (b := 0) [_, _] [] dL_told_114 ml_L_78 mtX8_node tX8_node (by decide) (by decide) (by decide) rfl rfl (by decide) (by decide +kernel) (Nat.le_of_ble_eq_true rfl) rfl ?_
        refine ⟨G, _, _, rfl, hc, hg, fun S hc _ => ?_⟩
        rw [fnod0 (by decide) (by decide), kof, if_pos hs0]
        dsimp only [Option.toList, List.cons_append, List.nil_append]
        refine zr_if_ge hC dL_told_117 (tgt := 135) (by decide) (fun c => absurd c m4_nge) (fun c_117 => ?_)
        refine zr_iload hC dL_told_120 rfl ?_
        refine zk_bipush hC dL_told_122 (v := (-4)) (by decide +kernel) ?_
        refine zr_icmp_ne hC dL_told_124 (tgt := 131) (by decide) (fun c => absurd c (not_not_intro rfl)) (fun c_124 => ?_)
        refine zk_iconst hC dL_told_127 (v := nI 1) (by decide +kernel) ?_
        refine zr_goto hC dL_told_128 (tgt := 162) (by decide) ?_
        refine zr_istore_n hC dL_told_162 (by decide) ?_
        refine zn_iinc hC dL_told_163 rfl (by decide) (zk_inc _ 1) ?_
        refine zr_goto hC dL_told_166 (tgt := 86) (by decide) ?_
        exact zR_sub [(0, .ref 0), (1, .int (nI n)), (2, .int (nI 1)), (3, .int (nI (i + 1)))] ⟨rfl, rfl, rfl, rfl, trivial⟩ (ih (i + 1) S (by omega) hc)
      · by_cases h0 : G.1 0 i = 0
        · have hgn := got_not hw.1 hw.2.1.1 hw.2.1.2.1 hm (ht.okk (D := G.1) (by omega) n (Nat.le_refl _)) hs0 h0
          refine zr_iload_n hC dL_told_86 rfl ?_
          refine zk_bipush hC dL_told_87 (v := nI 16) (by decide +kernel) ?_
          refine zr_icmp_ge hC dL_told_89 (tgt := 169) (by decide) (fun c => absurd c (nI_ge (by omega) (by omega))) (fun c_89 => ?_)
          refine zr_iload_n hC dL_told_92 rfl ?_
          refine zr_if_eq hC dL_told_93 (tgt := 169) (by decide) (fun c => absurd c (by decide +kernel)) (fun c_93 => ?_)
          refine zr_iload_n hC dL_told_96 rfl ?_
          refine zr_if_le hC dL_told_97 (tgt := 169) (by decide) (fun c => absurd c (nI_ge (a := 0) (by omega) (by omega))) (fun c_97 => ?_)
          refine zr_aload_n hC dL_told_100 rfl ?_
          refine zr_iload_n hC dL_told_101 rfl ?_
          refine zk_iconst hC dL_told_102 (v := nI 0) (by decide +kernel) ?_
          refine zk_iconst hC dL_told_103 (v := nI 1) (by decide +kernel) ?_
          refine zk_iconst hC dL_told_104 (v := nI 0) (by decide +kernel) ?_
          refine zr_iload_n hC dL_told_105 rfl ?_
          refine zs_callV hC (b := 0) [_, _, _, _, _] [] dL_told_106 ml_L_120 mtX8_got tX8_got (by decide) (by decide) (by decide) rfl rfl (by decide) (by decide +kernel) (Nat.le_of_ble_eq_true rfl) rfl ?_
          refine ⟨G, _, _, _, _, _, rfl, hc, hg, fun S hc _ => ?_⟩
          rw [fgt hg hm (by omega) hn ht (by omega), if_neg hs0, hgn, show zb false = nI 0 from rfl]
          dsimp only [Option.toList, List.cons_append, List.nil_append]
          refine zr_istore hC dL_told_109 (by decide) ?_
          refine zr_aload_n hC dL_told_111 rfl ?_
          refine zk_iconst hC dL_told_112 (v := nI 1) (by decide +kernel) ?_
          refine zk_iconst hC dL_told_113 (v := nI 0) (by decide +kernel) ?_
          refine zs_callV hC (b := 0) [_, _] [] dL_told_114 ml_L_78 mtX8_node tX8_node (by decide) (by decide) (by decide) rfl rfl (by decide) (by decide +kernel) (Nat.le_of_ble_eq_true rfl) rfl ?_
          refine ⟨G, _, _, rfl, hc, hg, fun S hc _ => ?_⟩
          rw [fnod0 (by decide) (by decide), kof, if_neg hs0]
          dsimp only [Option.toList, List.cons_append, List.nil_append]
          refine zr_if_ge hC dL_told_117 (tgt := 135) (by decide) (fun c_117 => ?_) (fun c => absurd c (not_not_intro (nI_pos' (by have := (hg.1.live (v := 1) (by decide) (by decide) hs0).1; omega))))
          refine zr_iload hC dL_told_135 rfl ?_
          refine zr_aload_n hC dL_told_137 rfl ?_
          refine zk_iconst hC dL_told_138 (v := nI 0) (by decide +kernel) ?_
          refine zs_callV hC (b := 0) [_] [_] dL_told_139 ml_L_37 mtX8_count tX8_count (by decide) (by decide) (by decide) rfl rfl (by decide) (by decide +kernel) (Nat.le_of_ble_eq_true rfl) rfl ?_
          refine ⟨G, _, rfl, hc, hg, fun S hc _ => ?_⟩
          rw [fc_0]
          dsimp only [Option.toList, List.cons_append, List.nil_append]
          refine zr_iload_n hC dL_told_142 rfl ?_
          refine zs_callS hC [_, _] [_] dL_told_143 ml_L_84 mtL_has tL_has (by decide) (by decide) (by decide) rfl (Nat.le_of_ble_eq_true rfl) rfl ?_
          refine ⟨_, i, rfl, sm_lt _ _, hm, ?_⟩
          rw [gs0 hm h0]
          dsimp only [Option.toList, List.cons_append, List.nil_append]
          refine zr_if_eq hC dL_told_146 (tgt := 153) (by decide) (fun c_146 => ?_) (fun c => absurd c (by decide +kernel))
          refine zk_iconst hC dL_told_153 (v := nI 0) (by decide +kernel) ?_
          refine zr_icmp_ne hC dL_told_154 (tgt := 161) (by decide) (fun c => absurd c (by decide +kernel)) (fun c_154 => ?_)
          refine zk_iconst hC dL_told_157 (v := nI 1) (by decide +kernel) ?_
          refine zr_goto hC dL_told_158 (tgt := 162) (by decide) ?_
          refine zr_istore_n hC dL_told_162 (by decide) ?_
          refine zn_iinc hC dL_told_163 rfl (by decide) (zk_inc _ 1) ?_
          refine zr_goto hC dL_told_166 (tgt := 86) (by decide) ?_
          exact zR_sub [(0, .ref 0), (1, .int (nI n)), (2, .int (nI 1)), (3, .int (nI (i + 1)))] ⟨rfl, rfl, rfl, rfl, trivial⟩ (ih (i + 1) S (by omega) hc)
        · have hgp : gop G.1 G.2.2.2.2 i 0 0 n (key G.1 1) = true := gop_up (f0_of (m := i) (by rw [Nat.testBit_two_pow]; exact decide_eq_true rfl) (hw.grp hm h0)) n
          refine zr_iload_n hC dL_told_86 rfl ?_
          refine zk_bipush hC dL_told_87 (v := nI 16) (by decide +kernel) ?_
          refine zr_icmp_ge hC dL_told_89 (tgt := 169) (by decide) (fun c => absurd c (nI_ge (by omega) (by omega))) (fun c_89 => ?_)
          refine zr_iload_n hC dL_told_92 rfl ?_
          refine zr_if_eq hC dL_told_93 (tgt := 169) (by decide) (fun c => absurd c (by decide +kernel)) (fun c_93 => ?_)
          refine zr_iload_n hC dL_told_96 rfl ?_
          refine zr_if_le hC dL_told_97 (tgt := 169) (by decide) (fun c => absurd c (nI_ge (a := 0) (by omega) (by omega))) (fun c_97 => ?_)
          refine zr_aload_n hC dL_told_100 rfl ?_
          refine zr_iload_n hC dL_told_101 rfl ?_
          refine zk_iconst hC dL_told_102 (v := nI 0) (by decide +kernel) ?_
          refine zk_iconst hC dL_told_103 (v := nI 1) (by decide +kernel) ?_
          refine zk_iconst hC dL_told_104 (v := nI 0) (by decide +kernel) ?_
          refine zr_iload_n hC dL_told_105 rfl ?_
          refine zs_callV hC (b := 0) [_, _, _, _, _] [] dL_told_106 ml_L_120 mtX8_got tX8_got (by decide) (by decide) (by decide) rfl rfl (by decide) (by decide +kernel) (Nat.le_of_ble_eq_true rfl) rfl ?_
          refine ⟨G, _, _, _, _, _, rfl, hc, hg, fun S hc _ => ?_⟩
          rw [fgt hg hm (by omega) hn ht (by omega), if_neg hs0, hgp, show zb true = nI 1 from rfl]
          dsimp only [Option.toList, List.cons_append, List.nil_append]
          refine zr_istore hC dL_told_109 (by decide) ?_
          refine zr_aload_n hC dL_told_111 rfl ?_
          refine zk_iconst hC dL_told_112 (v := nI 1) (by decide +kernel) ?_
          refine zk_iconst hC dL_told_113 (v := nI 0) (by decide +kernel) ?_
          refine zs_callV hC (b := 0) [_, _] [] dL_told_114 ml_L_78 mtX8_node tX8_node (by decide) (by decide) (by decide) rfl rfl (by decide) (by decide +kernel) (Nat.le_of_ble_eq_true rfl) rfl ?_
          refine ⟨G, _, _, rfl, hc, hg, fun S hc _ => ?_⟩
          rw [fnod0 (by decide) (by decide), kof, if_neg hs0]
          dsimp only [Option.toList, List.cons_append, List.nil_append]
          refine zr_if_ge hC dL_told_117 (tgt := 135) (by decide) (fun c_117 => ?_) (fun c => absurd c (not_not_intro (nI_pos' (by have := (hg.1.live (v := 1) (by decide) (by decide) hs0).1; omega))))
          refine zr_iload hC dL_told_135 rfl ?_
          refine zr_aload_n hC dL_told_137 rfl ?_
          refine zk_iconst hC dL_told_138 (v := nI 0) (by decide +kernel) ?_
          refine zs_callV hC (b := 0) [_] [_] dL_told_139 ml_L_37 mtX8_count tX8_count (by decide) (by decide) (by decide) rfl rfl (by decide) (by decide +kernel) (Nat.le_of_ble_eq_true rfl) rfl ?_
          refine ⟨G, _, rfl, hc, hg, fun S hc _ => ?_⟩
          rw [fc_0]
          dsimp only [Option.toList, List.cons_append, List.nil_append]
          refine zr_iload_n hC dL_told_142 rfl ?_
          refine zs_callS hC [_, _] [_] dL_told_143 ml_L_84 mtL_has tL_has (by decide) (by decide) (by decide) rfl (Nat.le_of_ble_eq_true rfl) rfl ?_
          refine ⟨_, i, rfl, sm_lt _ _, hm, ?_⟩
          rw [gs1 hg.1 hm h0]
          dsimp only [Option.toList, List.cons_append, List.nil_append]
          refine zr_if_eq hC dL_told_146 (tgt := 153) (by decide) (fun c => absurd c (by decide +kernel)) (fun c_146 => ?_)
          refine zk_iconst hC dL_told_149 (v := nI 1) (by decide +kernel) ?_
          refine zr_goto hC dL_told_150 (tgt := 154) (by decide) ?_
          refine zr_icmp_ne hC dL_told_154 (tgt := 161) (by decide) (fun c => absurd c (by decide +kernel)) (fun c_154 => ?_)
          refine zk_iconst hC dL_told_157 (v := nI 1) (by decide +kernel) ?_
          refine zr_goto hC dL_told_158 (tgt := 162) (by decide) ?_
          refine zr_istore_n hC dL_told_162 (by decide) ?_
          refine zn_iinc hC dL_told_163 rfl (by decide) (zk_inc _ 1) ?_
          refine zr_goto hC dL_told_166 (tgt := 86) (by decide) ?_
          exact zR_sub [(0, .ref 0), (1, .int (nI n)), (2, .int (nI 1)), (3, .int (nI (i + 1)))] ⟨rfl, rfl, rfl, rfl, trivial⟩ (ih (i + 1) S (by omega) hc)
def spL_told : zSp := fun av S Q => ∃ G : zG, av = [.ref 0] ∧ CG S G ∧ GI G ∧ WS G.1 ∧ ∀ S' G', CG S' G' → GI G' → G'.1 = G.1 → Q (some (.int (nI 1))) S'
set_option maxHeartbeats 1000000 in
set_option maxRecDepth 100000 in
theorem tL_told : zM yL_told cL_told 5 (some .boolean) 3 spL_told := by
  refine zM.of (by decide) (by decide) (fun av S Q h => by obtain ⟨G, rfl, hc, hg, hw, hQ⟩ := h; exact Nat.le_of_ble_eq_true rfl) (fun C τ ι av S Q Qr h hr hC hE => ?_)
  obtain ⟨G, rfl, hc, hg, hw, hQ⟩ := h
  have hb1 := hg.1.written
  have tail : ∀ (S : zS) (n : Nat), n ≤ 24 → n ≤ G.1 6 1 → CG S G → zR C τ ι 5 0 0 21 [(0, .ref 0), (1, .int (nI n))] [] (zcells S) := by
    intro S n hn hnd hc
    refine zr_aload_n hC dL_told_21 rfl ?_
    refine zk_iconst hC dL_told_22 (v := nI 0) (by decide +kernel) ?_
    refine zk_iconst hC dL_told_23 (v := nI 1) (by decide +kernel) ?_
    refine zk_bipush hC dL_told_24 (v := nI 24) (by decide +kernel) ?_
    refine zs_callV hC (b := 0) [_, _, _] [] dL_told_26 ml_L_113 mtX8_sheet tX8_sheet (by decide) (by decide) (by decide) rfl rfl (by decide) (by decide +kernel) (Nat.le_of_ble_eq_true rfl) rfl ?_
    refine ⟨G, _, _, _, rfl, hc, hg, fun S hc _ => ?_⟩
    have hg2 := gi_sheet hg (nI 0) (nI 1) (nI 24)
    rw [fsht] at hc hg2 ⊢
    obtain ⟨F, dfF⟩ : ∃ F, F = gsh G (shnew G.2.2.2.2 0 2 24) := ⟨_, rfl⟩
    rw [← dfF] at hc hg2
    have f1 : F.1 = G.1 := by rw [dfF, gsh_1]
    have f2 : tdI F.2.2.2.2 (G.1 6 1 - n) 0 := by
      rw [dfF, gsh_h]
      exact ⟨fup_at G.2.2.2.2.1 0 2, fup_at G.2.2.2.2.2.1 0 24, fun j hj => absurd hj (Nat.not_lt_zero _)⟩
    dsimp only [Option.toList, List.cons_append, List.nil_append]
    refine zk_bipush hC dL_told_29 (v := nI 24) (by decide +kernel) ?_
    refine zr_icmp_ne hC dL_told_31 (tgt := 38) (by decide) (fun c => absurd c (not_not_intro rfl)) (fun c_31 => ?_)
    refine zk_iconst hC dL_told_34 (v := nI 1) (by decide +kernel) ?_
    refine zr_goto hC dL_told_35 (tgt := 39) (by decide) ?_
    refine zr_istore_n hC dL_told_39 (by decide) ?_
    refine zk_iconst hC dL_told_40 (v := nI 0) (by decide +kernel) ?_
    refine zr_istore_n hC dL_told_41 (by decide) ?_
    refine zR_sub [(0, .ref 0), (1, .int (nI n)), (2, .int (nI 1)), (3, .int (nI 0))] ⟨rfl, rfl, rfl, rfl, trivial⟩ ?_
    refine lL_td1 hC hn hnd (fun S H hc hg eH ht lv h => ?_) n 0 S F (Nat.zero_add _) hc hg2 f1 f2
    obtain ⟨v0, v1, v2, -⟩ := h
    refine zR_sub [(0, .ref 0), (1, .int (nI n)), (2, .int (nI 1))] ⟨v0, v1, v2, trivial⟩ ?_
    refine zk_iconst hC dL_told_84 (v := nI 0) (by decide +kernel) ?_
    refine zr_istore_n hC dL_told_85 (by decide) ?_
    refine zR_sub [(0, .ref 0), (1, .int (nI n)), (2, .int (nI 1)), (3, .int (nI 0))] ⟨rfl, rfl, rfl, rfl, trivial⟩ ?_
    refine lL_td2 (G := H) hC hn hg (by rw [eH]; exact hw) ht (by rw [eH]; omega) (fun S hc lv h => ?_) 16 0 S (by omega) hc
    obtain ⟨v0, v2, -⟩ := h
    refine zR_sub [(0, .ref 0), (2, .int (nI 1))] ⟨v0, v2, trivial⟩ ?_
    refine zr_iload_n hC dL_told_169 rfl ?_
    refine zr_if_eq hC dL_told_170 (tgt := 216) (by decide) (fun c => absurd c (by decide +kernel)) (fun c_170 => ?_)
    refine zr_aload_n hC dL_told_173 rfl ?_
    refine zk_bipush hC dL_told_174 (v := nI 16) (by decide +kernel) ?_
    refine zk_iconst hC dL_told_176 (v := nI 0) (by decide +kernel) ?_
    refine zk_iconst hC dL_told_177 (v := nI 1) (by decide +kernel) ?_
    refine zk_bipush hC dL_told_178 (v := nI 19) (by decide +kernel) ?_
    refine zs_callV hC (b := 0) [_, _, _, _] [] dL_told_180 ml_L_124 mtX8_film tX8_film (by decide) (by decide) (by decide) rfl rfl (by decide) (by decide +kernel) (Nat.le_of_ble_eq_true rfl) rfl ?_
    refine ⟨H, _, _, _, _, rfl, hc, hg, fun S hc _ => ?_⟩
    have hg2 := gi_film hg (nI 16) (nI 0) (nI 1) (nI 19)
    rw [fflm ht.1 ht.2.1 (by decide)] at hc hg2 ⊢
    obtain ⟨P, dfP⟩ : ∃ P, P = gsh H (flm H.1 1 0 19 5 16 H.2.2.2.2) := ⟨_, rfl⟩
    rw [← dfP] at hc hg2
    have p1 : P.2.2.2.2.1 0 = 2 := by rw [dfP, gsh_h, (flm_same _ _ _ _).1]; exact ht.1
    have p2 : P.2.2.2.2.2.1 0 = 24 := by rw [dfP, gsh_h, (flm_same _ _ _ _).2]; exact ht.2.1
    have p3 : P.1 = G.1 := by rw [dfP, gsh_1]; exact eH
    dsimp only [Option.toList, List.cons_append, List.nil_append]
    refine zk_iconst hC dL_told_183 (v := nI 5) (by decide +kernel) ?_
    refine zr_icmp_ne hC dL_told_184 (tgt := 216) (by decide) (fun c => absurd c (not_not_intro rfl)) (fun c_184 => ?_)
    refine zr_aload_n hC dL_told_187 rfl ?_
    refine zk_bipush hC dL_told_188 (v := nI 16) (by decide +kernel) ?_
    refine zk_iconst hC dL_told_190 (v := nI 0) (by decide +kernel) ?_
    refine zk_iconst hC dL_told_191 (v := nI 1) (by decide +kernel) ?_
    refine zk_bipush hC dL_told_192 (v := nI 20) (by decide +kernel) ?_
    refine zs_callV hC (b := 0) [_, _, _, _] [] dL_told_194 ml_L_124 mtX8_film tX8_film (by decide) (by decide) (by decide) rfl rfl (by decide) (by decide +kernel) (Nat.le_of_ble_eq_true rfl) rfl ?_
    refine ⟨P, _, _, _, _, rfl, hc, hg2, fun S hc _ => ?_⟩
    rw [fflmN p1 p2] at hc ⊢
    dsimp only [Option.toList, List.cons_append, List.nil_append]
    refine zk_bipush hC dL_told_197 (v := (-13)) (by decide +kernel) ?_
    refine zr_icmp_ne hC dL_told_199 (tgt := 216) (by decide) (fun c => absurd c (not_not_intro rfl)) (fun c_199 => ?_)
    refine zr_aload_n hC dL_told_202 rfl ?_
    refine zk_iconst hC dL_told_203 (v := nI 0) (by decide +kernel) ?_
    refine zs_callV hC (b := 0) [_] [] dL_told_204 ml_L_128 mtX8_drop tX8_drop (by decide) (by decide) (by decide) rfl rfl (by decide) (by decide +kernel) (Nat.le_of_ble_eq_true rfl) rfl ?_
    refine ⟨P, _, rfl, hc, hg2, fun S hc _ => ?_⟩
    have hg3 := gi_drop hg2 (nI 0)
    rw [fdrp p1] at hc hg3 ⊢
    rw [p2]
    dsimp only [Option.toList, List.cons_append, List.nil_append]
    refine zk_bipush hC dL_told_207 (v := nI 24) (by decide +kernel) ?_
    refine zr_icmp_ne hC dL_told_209 (tgt := 216) (by decide) (fun c => absurd c (not_not_intro rfl)) (fun c_209 => ?_)
    refine zk_iconst hC dL_told_212 (v := nI 1) (by decide +kernel) ?_
    refine zr_goto hC dL_told_213 (tgt := 217) (by decide) ?_
    exact zr_zreturn hC hE dL_told_217 (by first | exact Or.inl rfl | exact Or.inr rfl) (hr _ _ (hQ _ _ hc hg3 (by rw [gsh_1]; exact p3)))
  show zR C τ ι _ 0 0 0 [(0, .ref 0)] [] _
  refine zr_aload_n hC dL_told_0 rfl ?_
  refine zk_iconst hC dL_told_1 (v := nI 5) (by decide +kernel) ?_
  refine zs_callV hC (b := 0) [_] [] dL_told_2 ml_L_37 mtX8_count tX8_count (by decide) (by decide) (by decide) rfl rfl (by decide) (by decide +kernel) (Nat.le_of_ble_eq_true rfl) rfl ?_
  refine ⟨G, _, rfl, hc, hg, fun S hc _ => ?_⟩
  rw [fc_5]
  dsimp only [Option.toList, List.cons_append, List.nil_append]
  refine zk_bipush hC dL_told_5 (v := nI 24) (by decide +kernel) ?_
  refine zr_icmp_ge hC dL_told_7 (tgt := 18) (by decide) (fun c_7 => ?_) (fun c_7 => ?_)
  · rw [nI_leI (by decide) (by omega)] at c_7
    refine zk_bipush hC dL_told_18 (v := nI 24) (by decide +kernel) ?_
    refine zr_istore_n hC dL_told_20 (by decide) ?_
    exact zR_sub [(0, .ref 0), (1, .int (nI 24))] ⟨rfl, rfl, trivial⟩ (tail S 24 (by omega) (by omega) hc)
  · rw [nI_leI (by decide) (by omega)] at c_7
    refine zr_aload_n hC dL_told_10 rfl ?_
    refine zk_iconst hC dL_told_11 (v := nI 5) (by decide +kernel) ?_
    refine zs_callV hC (b := 0) [_] [] dL_told_12 ml_L_37 mtX8_count tX8_count (by decide) (by decide) (by decide) rfl rfl (by decide) (by decide +kernel) (Nat.le_of_ble_eq_true rfl) rfl ?_
    refine ⟨G, _, rfl, hc, hg, fun S hc _ => ?_⟩
    rw [fc_5]
    dsimp only [Option.toList, List.cons_append, List.nil_append]
    refine zr_goto hC dL_told_15 (tgt := 20) (by decide) ?_
    refine zr_istore_n hC dL_told_20 (by decide) ?_
    exact zR_sub [(0, .ref 0), (1, .int (nI (G.1 6 1)))] ⟨rfl, rfl, trivial⟩ (tail S (G.1 6 1) (by omega) (by omega) hc)
