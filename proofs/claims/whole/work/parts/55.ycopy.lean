/-! THE CALLS OF THE MODEL: copy, got -/
theorem caI_lt {x : Nat} (h : x < 1000) : caI x < 0 ↔ x = 0 := by
  cases x with
  | zero => decide
  | succ n => exact ⟨fun q => absurd q (nI_pos (by omega)), fun q => by cases q⟩
theorem z_sumgt {a b z : Nat} (hz : z < 1000) (ha : a < 2147483648) (hb : b < 2147483648) : (nI z).toInt64 < (nI a).toInt64 + (nI b).toInt64 ↔ z < a + b := by
  rw [fa_lt64, lI_add ((z_i32 _).trans (nI_toInt ha)) ((z_i32 _).trans (nI_toInt hb)) (by omega), z_i32, nI_toInt (by omega)]
  omega
theorem z_sumle {a b z : Nat} (hz : z < 1000) (ha : a < 2147483648) (hb : b < 2147483648) : (nI a).toInt64 + (nI b).toInt64 ≤ (nI z).toInt64 ↔ a + b ≤ z := by
  rw [fa_le64, lI_add ((z_i32 _).trans (nI_toInt ha)) ((z_i32 _).trans (nI_toInt hb)) (by omega), z_i32, nI_toInt (by omega)]
  omega
theorem lkb_nn {a b z : Nat} (ha : a < 2147483648) (hb : b < 2147483648) : lkb (nI a) (nI b) z = true ↔ a + b ≤ z := by
  unfold lkb
  rw [Bool.and_eq_true, Bool.and_eq_true, decide_eq_true_iff, decide_eq_true_iff, decide_eq_true_iff, nI_toInt ha, nI_toInt hb]
  omega
theorem lkb_i {i n : Int32} {z : Nat} (h : i < 0) : ¬ lkb i n z = true := fun q => by
  unfold lkb at q
  rw [Bool.and_eq_true, decide_eq_true_iff] at q
  rw [Int32.lt_iff_toInt_lt] at h
  exact absurd q.1 (Int.not_le.mpr h)
theorem lkb_n {i n : Int32} {z : Nat} (h : n < 0) : ¬ lkb i n z = true := fun q => by
  unfold lkb at q
  rw [Bool.and_eq_true, Bool.and_eq_true, decide_eq_true_iff, decide_eq_true_iff] at q
  rw [Int32.lt_iff_toInt_lt] at h
  exact absurd q.2.1 (Int.not_le.mpr h)
theorem MSH.cpy {S S' : zS} {h : zH} (hh : MSH S h) {u a w c b : Nat} (hu : u < 4) (h0 : h.1 u ≠ 0) (hab : a + b ≤ h.2.1 u) (h1 : S'.1 = S.1) (h2 : ∀ k, S'.2 257 k = if 24 * w + c ≤ k ∧ k < 24 * w + c + b then S.2 257 (24 * u + a + (k - (24 * w + c))) else S.2 257 k) (hcb : c + b ≤ 24) : MSH S' (itcpy h u a w c b) := fun t ht => by
  obtain ⟨g1, g2, g3⟩ := hh t ht
  show S'.1 255 t = caI (h.1 t) ∧ h.1 t ≤ 4 ∧ (h.1 t ≠ 0 → S'.1 256 t = nI (h.2.1 t) ∧ h.2.1 t ≤ 24 ∧ ∀ k, k < h.2.1 t → S'.2 257 (24 * t + k) = if t = w ∧ c ≤ k ∧ k < c + b then h.2.2 u (a + (k - c)) else h.2.2 t k)
  rw [h1]
  refine ⟨g1, g2, fun q0 => ⟨(g3 q0).1, (g3 q0).2.1, fun k hk => ?_⟩⟩
  have hz := (g3 q0).2.1
  rw [h2]
  by_cases q : t = w ∧ c ≤ k ∧ k < c + b
  · rw [if_pos q, if_pos ⟨by omega, by omega⟩, ← ((hh u hu).2.2 h0).2.2 _ (by omega)]
    exact congrArg (S.2 257) (by omega)
  · rw [if_neg q, if_neg (fun z => q (by omega))]
    exact (g3 q0).2.2 k hk
set_option maxHeartbeats 1000000 in
set_option maxRecDepth 100000 in
theorem l9_cp1 {C : zCx} {τ : Nat → ClassId} {ι : Nat → Nat} (hC : zOK C τ (zrm 2 0 0) yX9_copy.cls cX9_copy 7) {S0 : zS} {u a w c b : Nat} (hu : u < 4) (hw : w < 4) (hab : a + b ≤ 24) (hcb : c + b ≤ 24) (k : ∀ S lv, S.1 = S0.1 → (∀ x k, S.2 x k = if x = 258 ∧ k < b then S0.2 257 (24 * u + a + k) else S0.2 x k) → zsub lv [(0, .ref 245), (1, .int (nI u)), (2, .int (nI a)), (3, .int (nI w)), (4, .int (nI c)), (5, .int (nI b))] → zR C τ ι 7 0 0 144 lv [] (zcells S)) : ∀ (d i : Nat) (S : zS), i + d = b → S.1 = S0.1 → (∀ x k, S.2 x k = if x = 258 ∧ k < i then S0.2 257 (24 * u + a + k) else S0.2 x k) → zR C τ ι 7 0 0 110 [(0, .ref 245), (1, .int (nI u)), (2, .int (nI a)), (3, .int (nI w)), (4, .int (nI c)), (5, .int (nI b)), (6, .int (nI i))] [] (zcells S) := by
  intro d
  induction d with
  | zero =>
    intro i S hi h1 h2
    refine zr_iload hC dX9_copy_110 rfl ?_
    refine zr_iload hC dX9_copy_112 rfl ?_
    refine zr_icmp_ge hC dX9_copy_114 (tgt := 144) (by decide) (fun c_114 => ?_) (fun c => absurd c (not_not_intro (nI_le (by omega) (by omega))))
    obtain rfl : i = b := (by omega)
    exact k S _ h1 h2 ⟨rfl, rfl, rfl, rfl, rfl, rfl, trivial⟩
  | succ d ih =>
    intro i S hi h1 h2
    refine zr_iload hC dX9_copy_110 rfl ?_
    refine zr_iload hC dX9_copy_112 rfl ?_
    refine zr_icmp_ge hC dX9_copy_114 (tgt := 144) (by decide) (fun c => absurd c (nI_ge (by omega) (by omega))) (fun c_114 => ?_)
    refine zr_aload_n hC dX9_copy_117 rfl ?_
    refine zs_getr hC dX9_copy_118 fl_X9_52 (a := 245) (r := 258) rfl (by decide) ?_
    refine zr_iload hC dX9_copy_121 rfl ?_
    refine zr_aload_n hC dX9_copy_123 rfl ?_
    refine zs_getr hC dX9_copy_124 fl_X9_48 (a := 245) (r := 257) rfl (by decide) ?_
    refine zk_bipush hC dX9_copy_127 (v := nI 24) (by decide +kernel) ?_
    refine zr_iload_n hC dX9_copy_129 rfl ?_
    refine zn_imul hC dX9_copy_130 (pk_mul _ _) ?_
    refine zr_iload_n hC dX9_copy_131 rfl ?_
    refine zn_iadd hC dX9_copy_132 (nI_add _ _) ?_
    refine zr_iload hC dX9_copy_133 rfl ?_
    refine zn_iadd hC dX9_copy_135 (nI_add _ _) ?_
    refine zv_lald hC dX9_copy_136 (a := 257) (n := 96) rfl (by decide) (by decide) (j := 24 * u + a + i) rfl (by omega) ((h2 257 _).trans (if_neg (fun q => absurd q.1 (by decide)))) ?_
    refine zs_last hC dX9_copy_137 (a := 258) (n := 24) rfl (by decide) (by decide) (j := i) rfl (by omega) ?_
    refine zn_iinc hC dX9_copy_138 rfl (by decide) (zk_inc _ 1) ?_
    refine zr_goto hC dX9_copy_141 (tgt := 110) (by decide) ?_
    refine zR_sub [(0, .ref 245), (1, .int (nI u)), (2, .int (nI a)), (3, .int (nI w)), (4, .int (nI c)), (5, .int (nI b)), (6, .int (nI (i + 1)))] ⟨rfl, rfl, rfl, rfl, rfl, rfl, rfl, trivial⟩ (ih (i + 1) _ (by omega) h1 (fun x k => ?_))
    show (if x = 258 ∧ k = i then _ else S.2 x k) = _
    by_cases q : x = 258 ∧ k = i
    · rw [if_pos q, if_pos ⟨q.1, by omega⟩, q.2]
    · rw [if_neg q, h2 x k]
      by_cases q2 : x = 258 ∧ k < i
      · rw [if_pos q2, if_pos ⟨q2.1, by omega⟩]
      · rw [if_neg q2, if_neg (fun q3 => q2 ⟨q3.1, by omega⟩)]
set_option maxHeartbeats 1000000 in
set_option maxRecDepth 100000 in
theorem l9_cp2 {C : zCx} {τ : Nat → ClassId} {ι : Nat → Nat} (hC : zOK C τ (zrm 2 0 0) yX9_copy.cls cX9_copy 7) {S0 : zS} {u a w c b : Nat} (hu : u < 4) (hw : w < 4) (hab : a + b ≤ 24) (hcb : c + b ≤ 24) (k : ∀ S lv, S.1 = S0.1 → (∀ x k, S.2 x k = if x = 257 ∧ 24 * w + c ≤ k ∧ k < 24 * w + c + b then S0.2 258 (k - (24 * w + c)) else S0.2 x k) → zsub lv [(0, .ref 245), (1, .int (nI u)), (2, .int (nI a)), (3, .int (nI w)), (4, .int (nI c)), (5, .int (nI b))] → zR C τ ι 7 0 0 182 lv [] (zcells S)) : ∀ (d i : Nat) (S : zS), i + d = b → S.1 = S0.1 → (∀ x k, S.2 x k = if x = 257 ∧ 24 * w + c ≤ k ∧ k < 24 * w + c + i then S0.2 258 (k - (24 * w + c)) else S0.2 x k) → zR C τ ι 7 0 0 147 [(0, .ref 245), (1, .int (nI u)), (2, .int (nI a)), (3, .int (nI w)), (4, .int (nI c)), (5, .int (nI b)), (6, .int (nI i))] [] (zcells S) := by
  intro d
  induction d with
  | zero =>
    intro i S hi h1 h2
    refine zr_iload hC dX9_copy_147 rfl ?_
    refine zr_iload hC dX9_copy_149 rfl ?_
    refine zr_icmp_ge hC dX9_copy_151 (tgt := 182) (by decide) (fun c_151 => ?_) (fun c => absurd c (not_not_intro (nI_le (by omega) (by omega))))
    obtain rfl : i = b := (by omega)
    exact k S _ h1 h2 ⟨rfl, rfl, rfl, rfl, rfl, rfl, trivial⟩
  | succ d ih =>
    intro i S hi h1 h2
    refine zr_iload hC dX9_copy_147 rfl ?_
    refine zr_iload hC dX9_copy_149 rfl ?_
    refine zr_icmp_ge hC dX9_copy_151 (tgt := 182) (by decide) (fun c => absurd c (nI_ge (by omega) (by omega))) (fun c_151 => ?_)
    refine zr_aload_n hC dX9_copy_154 rfl ?_
    refine zs_getr hC dX9_copy_155 fl_X9_48 (a := 245) (r := 257) rfl (by decide) ?_
    refine zk_bipush hC dX9_copy_158 (v := nI 24) (by decide +kernel) ?_
    refine zr_iload_n hC dX9_copy_160 rfl ?_
    refine zn_imul hC dX9_copy_161 (pk_mul _ _) ?_
    refine zr_iload hC dX9_copy_162 rfl ?_
    refine zn_iadd hC dX9_copy_164 (nI_add _ _) ?_
    refine zr_iload hC dX9_copy_165 rfl ?_
    refine zn_iadd hC dX9_copy_167 (nI_add _ _) ?_
    refine zr_aload_n hC dX9_copy_168 rfl ?_
    refine zs_getr hC dX9_copy_169 fl_X9_52 (a := 245) (r := 258) rfl (by decide) ?_
    refine zr_iload hC dX9_copy_172 rfl ?_
    refine zv_lald hC dX9_copy_174 (a := 258) (n := 24) rfl (by decide) (by decide) (j := i) rfl (by omega) ((h2 258 _).trans (if_neg (fun q => absurd q.1 (by decide)))) ?_
    refine zs_last hC dX9_copy_175 (a := 257) (n := 96) rfl (by decide) (by decide) (j := 24 * w + c + i) rfl (by omega) ?_
    refine zn_iinc hC dX9_copy_176 rfl (by decide) (zk_inc _ 1) ?_
    refine zr_goto hC dX9_copy_179 (tgt := 147) (by decide) ?_
    refine zR_sub [(0, .ref 245), (1, .int (nI u)), (2, .int (nI a)), (3, .int (nI w)), (4, .int (nI c)), (5, .int (nI b)), (6, .int (nI (i + 1)))] ⟨rfl, rfl, rfl, rfl, rfl, rfl, rfl, trivial⟩ (ih (i + 1) _ (by omega) h1 (fun x k => ?_))
    show (if x = 257 ∧ k = 24 * w + c + i then _ else S.2 x k) = _
    by_cases q : x = 257 ∧ k = 24 * w + c + i
    · rw [if_pos q, if_pos ⟨q.1, by omega, by omega⟩]
      exact congrArg (S0.2 258) (by omega)
    · rw [if_neg q, h2 x k]
      by_cases q2 : x = 257 ∧ 24 * w + c ≤ k ∧ k < 24 * w + c + i
      · rw [if_pos q2, if_pos ⟨q2.1, q2.2.1, by omega⟩]
      · rw [if_neg q2, if_neg (fun q3 => q2 ⟨q3.1, q3.2.1, by omega⟩)]
def spX9_copy : zSp := fun av S Q => ∃ (G : zG) (s : Int32) (i : Int32) (t : Int32) (j : Int32) (n : Int32), av = [.ref 245, .int s, .int i, .int t, .int j, .int n] ∧ MG S G ∧ GI G ∧ ∀ S', MG S' (fCopy s i t j n G).2 → zfm S S' → Q (some (.int (fCopy s i t j n G).1)) S'
set_option maxHeartbeats 1000000 in
set_option maxRecDepth 100000 in
theorem tX9_copy : zM yX9_copy cX9_copy 7 (some .int) 2 spX9_copy := by
  refine zM.of (by decide) (by decide) (fun av S Q h => by obtain ⟨G, s, i, t, j, n, rfl, hMG, hGI, hQ⟩ := h; exact Nat.le_of_ble_eq_true rfl) (fun C τ ι av S Q Qr h hr hC hE => ?_)
  obtain ⟨G, s, i, t, j, n, rfl, hMG, hGI, hQ⟩ := h
  show zR C τ ι _ 0 0 0 [(0, .ref 245), (1, .int s), (2, .int i), (3, .int t), (4, .int j), (5, .int n)] [] _
  refine zr_iload_n hC dX9_copy_0 rfl ?_
  refine zs_callS hC [_] [] dX9_copy_1 ml_X9_247 mtX9_isSheet tX9_isSheet (by decide) (by decide) (by decide) rfl (Nat.le_of_ble_eq_true rfl) rfl ?_
  refine ⟨s, rfl, fun r e => ?_⟩
  rcases e with ⟨rfl, u, hu, rfl⟩ | ⟨rfl, hx⟩
  · dsimp only [Option.toList, List.cons_append, List.nil_append]
    refine zr_if_eq hC dX9_copy_4 (tgt := 14) (by decide) (fun c => absurd c (by decide +kernel)) (fun c_4 => ?_)
    refine zr_iload_n hC dX9_copy_7 rfl ?_
    refine zs_callS hC [_] [] dX9_copy_8 ml_X9_247 mtX9_isSheet tX9_isSheet (by decide) (by decide) (by decide) rfl (Nat.le_of_ble_eq_true rfl) rfl ?_
    refine ⟨t, rfl, fun r e => ?_⟩
    rcases e with ⟨rfl, w, hw, rfl⟩ | ⟨rfl, hx⟩
    · dsimp only [Option.toList, List.cons_append, List.nil_append]
      refine zr_if_ne hC dX9_copy_11 (tgt := 16) (by decide) (fun c_11 => ?_) (fun c => absurd c (by decide +kernel))
      simp only [fCopy, mm_yes hu (show 4 < 2147483648 by decide), mm_yes hw (show 4 < 2147483648 by decide)] at hQ
      obtain ⟨s1, s2, s3⟩ := hMG.2.2.2.2 u hu
      obtain ⟨t1, t2, t3⟩ := hMG.2.2.2.2 w hw
      refine zr_aload_n hC dX9_copy_16 rfl ?_
      refine zs_getr hC dX9_copy_17 fl_X9_42 (a := 245) (r := 255) rfl (by decide) ?_
      refine zr_iload_n hC dX9_copy_20 rfl ?_
      refine zv_iald hC dX9_copy_21 (a := 255) (n := 4) rfl (by decide) (by decide) (j := u) rfl hu (s1) ?_
      refine zr_if_lt hC dX9_copy_22 (tgt := 34) (by decide) (fun c_22 => ?_) (fun c_22 => ?_)
      · rw [caI_lt (by omega)] at c_22
        rw [if_pos (Or.inl c_22)] at hQ
        refine zk_bipush hC dX9_copy_34 (v := (-11)) (by decide +kernel) ?_
        exact zr_ireturn hC hE dX9_copy_36 (hr _ _ (hQ _ hMG zfm.rf))
      · rw [caI_lt (by omega)] at c_22
        obtain ⟨s4, s5, -⟩ := s3 c_22
        refine zr_aload_n hC dX9_copy_25 rfl ?_
        refine zs_getr hC dX9_copy_26 fl_X9_42 (a := 245) (r := 255) rfl (by decide) ?_
        refine zr_iload_n hC dX9_copy_29 rfl ?_
        refine zv_iald hC dX9_copy_30 (a := 255) (n := 4) rfl (by decide) (by decide) (j := w) rfl hw (t1) ?_
        refine zr_if_ge hC dX9_copy_31 (tgt := 37) (by decide) (fun c_31 => ?_) (fun c_31 => ?_)
        · rw [caI_ge (by omega)] at c_31
          obtain ⟨t4, t5, -⟩ := t3 c_31
          rw [if_neg (fun q => q.elim c_22 c_31)] at hQ
          refine zr_aload_n hC dX9_copy_37 rfl ?_
          refine zs_getr hC dX9_copy_38 fl_X9_42 (a := 245) (r := 255) rfl (by decide) ?_
          refine zr_iload_n hC dX9_copy_41 rfl ?_
          refine zv_iald hC dX9_copy_42 (a := 255) (n := 4) rfl (by decide) (by decide) (j := u) rfl hu (s1) ?_
          refine zr_aload_n hC dX9_copy_43 rfl ?_
          refine zs_getr hC dX9_copy_44 fl_X9_42 (a := 245) (r := 255) rfl (by decide) ?_
          refine zr_iload_n hC dX9_copy_47 rfl ?_
          refine zv_iald hC dX9_copy_48 (a := 255) (n := 4) rfl (by decide) (by decide) (j := w) rfl hw (t1) ?_
          refine zr_icmp_eq hC dX9_copy_49 (tgt := 55) (by decide) (fun c_49 => ?_) (fun c_49 => ?_)
          · have hll : G.2.2.2.2.1 u = G.2.2.2.2.1 w := caI_inj (by omega) (by omega) c_49
            rw [if_neg (not_not_intro hll)] at hQ
            refine zr_iload hC dX9_copy_55 rfl ?_
            refine zr_if_lt hC dX9_copy_57 (tgt := 104) (by decide) (fun c_57 => ?_) (fun c_57 => ?_)
            · rw [if_neg (fun q => lkb_n c_57 q.1)] at hQ
              refine zk_bipush hC dX9_copy_104 (v := (-13)) (by decide +kernel) ?_
              exact zr_ireturn hC hE dX9_copy_106 (hr _ _ (hQ _ hMG zfm.rf))
            · refine zr_iload_n hC dX9_copy_60 rfl ?_
              refine zr_if_lt hC dX9_copy_61 (tgt := 104) (by decide) (fun c_61 => ?_) (fun c_61 => ?_)
              · rw [if_neg (fun q => lkb_i c_61 q.1)] at hQ
                refine zk_bipush hC dX9_copy_104 (v := (-13)) (by decide +kernel) ?_
                exact zr_ireturn hC hE dX9_copy_106 (hr _ _ (hQ _ hMG zfm.rf))
              · refine zr_iload hC dX9_copy_64 rfl ?_
                refine zr_if_lt hC dX9_copy_66 (tgt := 104) (by decide) (fun c_66 => ?_) (fun c_66 => ?_)
                · rw [if_neg (fun q => lkb_i c_66 q.2)] at hQ
                  refine zk_bipush hC dX9_copy_104 (v := (-13)) (by decide +kernel) ?_
                  exact zr_ireturn hC hE dX9_copy_106 (hr _ _ (hQ _ hMG zfm.rf))
                · obtain ⟨a, ha, rfl⟩ := nI_of c_61
                  obtain ⟨b, hb, rfl⟩ := nI_of c_57
                  obtain ⟨c, hc, rfl⟩ := nI_of c_66
                  rw [pk_tn (show a < 4294967296 by omega), pk_tn (show b < 4294967296 by omega), pk_tn (show c < 4294967296 by omega)] at hQ
                  refine zr_iload_n hC dX9_copy_69 rfl ?_
                  refine zr_i2l hC dX9_copy_70 ?_
                  refine zr_iload hC dX9_copy_71 rfl ?_
                  refine zr_i2l hC dX9_copy_73 ?_
                  refine zr_ladd hC dX9_copy_74 ?_
                  refine zr_aload_n hC dX9_copy_75 rfl ?_
                  refine zs_getr hC dX9_copy_76 fl_X9_45 (a := 245) (r := 256) rfl (by decide) ?_
                  refine zr_iload_n hC dX9_copy_79 rfl ?_
                  refine zv_iald hC dX9_copy_80 (a := 256) (n := 4) rfl (by decide) (by decide) (j := u) rfl hu (s4) ?_
                  refine zr_i2l hC dX9_copy_81 ?_
                  refine zr_lcmp hC dX9_copy_82 ?_
                  refine zr_if_gt hC dX9_copy_83 (tgt := 104) (by decide) (fun c_83 => ?_) (fun c_83 => ?_)
                  · rw [lg_cmp_gt, z_sumgt (by omega) ha hb] at c_83
                    rw [if_neg (fun q => by have := (lkb_nn ha hb).mp q.1; omega)] at hQ
                    refine zk_bipush hC dX9_copy_104 (v := (-13)) (by decide +kernel) ?_
                    exact zr_ireturn hC hE dX9_copy_106 (hr _ _ (hQ _ hMG zfm.rf))
                  · rw [lg_cmp_gt, z_sumgt (by omega) ha hb] at c_83
                    refine zr_iload hC dX9_copy_86 rfl ?_
                    refine zr_i2l hC dX9_copy_88 ?_
                    refine zr_iload hC dX9_copy_89 rfl ?_
                    refine zr_i2l hC dX9_copy_91 ?_
                    refine zr_ladd hC dX9_copy_92 ?_
                    refine zr_aload_n hC dX9_copy_93 rfl ?_
                    refine zs_getr hC dX9_copy_94 fl_X9_45 (a := 245) (r := 256) rfl (by decide) ?_
                    refine zr_iload_n hC dX9_copy_97 rfl ?_
                    refine zv_iald hC dX9_copy_98 (a := 256) (n := 4) rfl (by decide) (by decide) (j := w) rfl hw (t4) ?_
                    refine zr_i2l hC dX9_copy_99 ?_
                    refine zr_lcmp hC dX9_copy_100 ?_
                    refine zr_if_le hC dX9_copy_101 (tgt := 107) (by decide) (fun c_101 => ?_) (fun c_101 => ?_)
                    · rw [lg_cmp_le, z_sumle (by omega) hc hb] at c_101
                      rw [if_pos ⟨(lkb_nn ha hb).mpr (by omega), (lkb_nn hc hb).mpr c_101⟩] at hQ
                      refine zk_iconst hC dX9_copy_107 (v := nI 0) (by decide +kernel) ?_
                      refine zr_istore hC dX9_copy_108 (by decide) ?_
                      refine zR_sub [(0, .ref 245), (1, .int (nI u)), (2, .int (nI a)), (3, .int (nI w)), (4, .int (nI c)), (5, .int (nI b)), (6, .int (nI 0))] ⟨rfl, rfl, rfl, rfl, rfl, rfl, rfl, trivial⟩ (l9_cp1 (S0 := S) hC hu hw (by omega) (by omega) (fun S1 lv h1 h1b gs => ?_) b 0 S (by omega) rfl (fun x k => (if_neg (fun q => by omega)).symm))
                      refine zR_sub [(0, .ref 245), (1, .int (nI u)), (2, .int (nI a)), (3, .int (nI w)), (4, .int (nI c)), (5, .int (nI b))] gs ?_
                      refine zk_iconst hC dX9_copy_144 (v := nI 0) (by decide +kernel) ?_
                      refine zr_istore hC dX9_copy_145 (by decide) ?_
                      refine zR_sub [(0, .ref 245), (1, .int (nI u)), (2, .int (nI a)), (3, .int (nI w)), (4, .int (nI c)), (5, .int (nI b)), (6, .int (nI 0))] ⟨rfl, rfl, rfl, rfl, rfl, rfl, rfl, trivial⟩ (l9_cp2 (S0 := S1) hC hu hw (by omega) (by omega) (fun S2 lv2 g1 g2 gs2 => ?_) b 0 S1 (by omega) rfl (fun x k => (if_neg (fun q => by omega)).symm))
                      obtain ⟨-, -, -, -, -, v5, -⟩ := gs2
                      refine zr_iload hC dX9_copy_182 v5 ?_
                      refine zr_ireturn hC hE dX9_copy_184 (hr _ _ (hQ S2 (hMG.sh (MSH.cpy hMG.2.2.2.2 hu c_22 (by omega) (g1.trans h1) (fun k => ?_) (by omega)) (fun x _ _ => by rw [g1, h1])) (fun x hx => ⟨by rw [g1, h1], ?_⟩)))
                      · rw [g2 257 k]
                        by_cases q : 24 * w + c ≤ k ∧ k < 24 * w + c + b
                        · rw [if_pos ⟨rfl, q⟩, if_pos q, h1b]; exact if_pos ⟨rfl, by omega⟩
                        · rw [if_neg (fun z => q z.2), if_neg q, h1b]; exact if_neg (fun z => absurd z.1 (by decide))
                      · funext k; rw [g2, if_neg (fun z => by omega), h1b, if_neg (fun z => by omega)]
                    · rw [lg_cmp_le, z_sumle (by omega) hc hb] at c_101
                      rw [if_neg (fun q => c_101 ((lkb_nn hc hb).mp q.2))] at hQ
                      refine zk_bipush hC dX9_copy_104 (v := (-13)) (by decide +kernel) ?_
                      exact zr_ireturn hC hE dX9_copy_106 (hr _ _ (hQ _ hMG zfm.rf))
          · rw [if_pos (fun q => c_49 (by rw [q]))] at hQ
            refine zk_bipush hC dX9_copy_52 (v := (-12)) (by decide +kernel) ?_
            exact zr_ireturn hC hE dX9_copy_54 (hr _ _ (hQ _ hMG zfm.rf))
        · rw [caI_ge (by omega)] at c_31
          rw [if_pos (Or.inr (Decidable.not_not.mp c_31))] at hQ
          refine zk_bipush hC dX9_copy_34 (v := (-11)) (by decide +kernel) ?_
          exact zr_ireturn hC hE dX9_copy_36 (hr _ _ (hQ _ hMG zfm.rf))
    · simp only [fCopy, mm_yes hu (show 4 < 2147483648 by decide), mm_no hx] at hQ
      dsimp only [Option.toList, List.cons_append, List.nil_append]
      refine zr_if_ne hC dX9_copy_11 (tgt := 16) (by decide) (fun c => absurd c (by decide +kernel)) (fun c_11 => ?_)
      refine zk_iconst hC dX9_copy_14 (v := (-1)) (by decide +kernel) ?_
      exact zr_ireturn hC hE dX9_copy_15 (hr _ _ (hQ _ hMG zfm.rf))
  · simp only [fCopy, mm_no hx] at hQ
    dsimp only [Option.toList, List.cons_append, List.nil_append]
    refine zr_if_eq hC dX9_copy_4 (tgt := 14) (by decide) (fun c_4 => ?_) (fun c => absurd c (by decide +kernel))
    refine zk_iconst hC dX9_copy_14 (v := (-1)) (by decide +kernel) ?_
    exact zr_ireturn hC hE dX9_copy_15 (hr _ _ (hQ _ hMG zfm.rf))
theorem op_put9 {D : zD} {f : Nat → Bool} {i n : Nat} {S : zS} {x : Int32} (hs : ∀ k, k < n → S.1 259 k = zb (f k)) (hx : x = zb (f (D 10 i) || f (D 11 i))) : ∀ k, k < n → (zput S 259 (D 10 i) x).1 259 k = zb (op1 D f i k) := fun k hk => by
  by_cases q : k = D 10 i
  · subst q; rw [zput_at, hx]; simp [op1]
  · rw [zput_k _ _ q, hs k hk]; unfold op1; rw [beq_eq_false_iff_ne.mpr q]; simp
theorem f0_hd (D : zD) (m k : Nat) : f0 D (2 ^ m) k = hd D m k := by
  show (!(D 9 k &&& 2 ^ m == 0)) = (D 9 k).testBit m
  cases h : (D 9 k).testBit m with
  | false =>
    have e : D 9 k &&& 2 ^ m = 0 := Nat.eq_of_testBit_eq fun i => by
      rw [Nat.testBit_and, Nat.testBit_two_pow, Nat.zero_testBit]
      by_cases q : m = i
      · subst q; rw [h]; rfl
      · simp [q]
    rw [e]; rfl
  | true =>
    have e : (D 9 k &&& 2 ^ m).testBit m = true := by rw [Nat.testBit_and, h, Nat.testBit_two_pow]; simp
    have e2 : D 9 k &&& 2 ^ m ≠ 0 := fun q => by rw [q, Nat.zero_testBit] at e; cases e
    rw [beq_eq_false_iff_ne.mpr e2]; rfl
theorem z_b2 (a b : Bool) : (a = false ∧ b = false) ∨ (a = false ∧ b = true) ∨ (a = true ∧ b = false) ∨ (a = true ∧ b = true) := by
  cases a <;> cases b <;> simp
set_option maxHeartbeats 1000000 in
set_option maxRecDepth 100000 in
theorem l9_gotA {C : zCx} {τ : Nat → ClassId} {ι : Nat → Nat} (hC : zOK C τ (zrm 3 0 0) yX9_got.cls cX9_got 9) {D : zD} {h : zH} {t a b m : Nat} (ht : t < 4) (hm : m < 16) (hab : a + b ≤ 24) {S : zS} {Qr : Option Value → List va_E → Prop} (hE : zRet C τ ι (some .int) Qr) (hM : MW (S.1 246) D) (hrow : ∀ k, k < b → S.2 257 (24 * t + a + k) = h.2.2 t (a + k)) (hno : gok D h t a b = false → Qr (some (.int (-2))) (zcells S)) (k : ∀ lv, gok D h t a b = true → zsub lv [(0, .ref 245), (1, .int (nI m)), (2, .int (nI t)), (4, .int (nI a)), (5, .int (nI b))] → zR C τ ι 9 0 0 102 lv [] (zcells S)) : ∀ (d i : Nat), i + d = b → gok D h t a i = true → zR C τ ι 9 0 0 64 [(0, .ref 245), (1, .int (nI m)), (2, .int (nI t)), (4, .int (nI a)), (5, .int (nI b)), (7, .int (nI i))] [] (zcells S) := by
  intro d
  induction d with
  | zero =>
    intro i hi hg
    refine zr_iload hC dX9_got_64 rfl ?_
    refine zr_iload hC dX9_got_66 rfl ?_
    refine zr_icmp_ge hC dX9_got_68 (tgt := 102) (by decide) (fun c_68 => ?_) (fun c => absurd c (not_not_intro (nI_le (by omega) (by omega))))
    obtain rfl : i = b := (by omega)
    exact k _ hg ⟨rfl, rfl, rfl, rfl, rfl, trivial⟩
  | succ d ih =>
    intro i hi hg
    refine zr_iload hC dX9_got_64 rfl ?_
    refine zr_iload hC dX9_got_66 rfl ?_
    refine zr_icmp_ge hC dX9_got_68 (tgt := 102) (by decide) (fun c => absurd c (nI_ge (by omega) (by omega))) (fun c_68 => ?_)
    refine zr_aload_n hC dX9_got_71 rfl ?_
    refine zr_aload_n hC dX9_got_72 rfl ?_
    refine zs_getr hC dX9_got_73 fl_X9_48 (a := 245) (r := 257) rfl (by decide) ?_
    refine zk_bipush hC dX9_got_76 (v := nI 24) (by decide +kernel) ?_
    refine zr_iload_n hC dX9_got_78 rfl ?_
    refine zn_imul hC dX9_got_79 (pk_mul _ _) ?_
    refine zr_iload hC dX9_got_80 rfl ?_
    refine zn_iadd hC dX9_got_82 (nI_add _ _) ?_
    refine zr_iload hC dX9_got_83 rfl ?_
    refine zn_iadd hC dX9_got_85 (nI_add _ _) ?_
    refine zv_lald hC dX9_got_86 (a := 257) (n := 96) rfl (by decide) (by decide) (j := 24 * t + a + i) rfl (by omega) (hrow i (by omega)) ?_
    refine zs_callV hC (b := 245) [_] [] dX9_got_87 ml_X9_183 mtX9_isLetter tX9_isLetter (by decide) (by decide) (by decide) rfl rfl (by decide) (by decide +kernel) (Nat.le_of_ble_eq_true rfl) rfl ?_
    refine ⟨_, D, rfl, hM, fun r e => ?_⟩
    rcases e with ⟨rfl, hx⟩ | ⟨rfl, hx⟩
    · dsimp only [Option.toList, List.cons_append, List.nil_append]
      refine zr_if_ne hC dX9_got_90 (tgt := 96) (by decide) (fun c_90 => ?_) (fun c => absurd c (by decide +kernel))
      refine zn_iinc hC dX9_got_96 rfl (by decide) (zk_inc _ 1) ?_
      refine zr_goto hC dX9_got_99 (tgt := 64) (by decide) ?_
      exact zR_sub [(0, .ref 245), (1, .int (nI m)), (2, .int (nI t)), (4, .int (nI a)), (5, .int (nI b)), (7, .int (nI (i + 1)))] ⟨rfl, rfl, rfl, rfl, rfl, rfl, trivial⟩ (ih (i + 1) (by omega) (by unfold gok; rw [hg, decide_eq_true hx.1, decide_eq_true hx.2]; rfl))
    · dsimp only [Option.toList, List.cons_append, List.nil_append]
      refine zr_if_ne hC dX9_got_90 (tgt := 96) (by decide) (fun c => absurd c (by decide +kernel)) (fun c_90 => ?_)
      refine zk_bipush hC dX9_got_93 (v := (-2)) (by decide +kernel) ?_
      exact zr_ireturn hC hE dX9_got_95 (hno (Bool.eq_false_iff.mpr (fun q => hx (gok_at b (by omega) q))))
set_option maxHeartbeats 1000000 in
set_option maxRecDepth 100000 in
theorem l9_gotB {C : zCx} {τ : Nat → ClassId} {ι : Nat → Nat} (hC : zOK C τ (zrm 3 0 0) yX9_got.cls cX9_got 9) {D : zD} {h : zH} {t a b m : Nat} (ht : t < 4) (hm : m < 16) (hab : a + b ≤ 24) {S0 : zS} (hM : MW (S0.1 246) D) (k : ∀ S lv, zfrm 259 260 S0 S → (∀ j, j < D 6 0 → S.1 259 j = zb (f0 D (2 ^ m) j)) → zsub lv [(0, .ref 245), (1, .int (nI m)), (2, .int (nI t)), (4, .int (nI a)), (5, .int (nI b))] → zR C τ ι 9 0 0 136 lv [] (zcells S)) : ∀ (d i : Nat) (S : zS), i + d = D 6 0 → zfrm 259 260 S0 S → (∀ j, j < i → S.1 259 j = zb (f0 D (2 ^ m) j)) → zR C τ ι 9 0 0 105 [(0, .ref 245), (1, .int (nI m)), (2, .int (nI t)), (4, .int (nI a)), (5, .int (nI b)), (7, .int (nI i))] [] (zcells S) := by
  intro d
  induction d with
  | zero =>
    intro i S hi hf hs
    refine zr_iload hC dX9_got_105 rfl ?_
    refine zr_aload_n hC dX9_got_107 rfl ?_
    refine zs_getr hC dX9_got_108 fl_X9_7 (a := 245) (r := 246) rfl (by decide) ?_
    refine zk_iconst hC dX9_got_111 (v := nI 0) (by decide +kernel) ?_
    refine zv_iald hC dX9_got_112 (a := 246) (n := 752) rfl (by decide) (by decide) (j := 0) rfl (by decide) ((congrFun (hf.1 246 (by decide)) 0).trans hM.1.1.1) ?_
    refine zr_icmp_ge hC dX9_got_113 (tgt := 136) (by decide) (fun c_113 => ?_) (fun c => absurd c (not_not_intro (nI_le (by omega) (by have := hM.made; omega))))
    exact k S _ hf (fun j hj => hs j (by omega)) ⟨rfl, rfl, rfl, rfl, rfl, trivial⟩
  | succ d ih =>
    intro i S hi hf hs
    refine zr_iload hC dX9_got_105 rfl ?_
    refine zr_aload_n hC dX9_got_107 rfl ?_
    refine zs_getr hC dX9_got_108 fl_X9_7 (a := 245) (r := 246) rfl (by decide) ?_
    refine zk_iconst hC dX9_got_111 (v := nI 0) (by decide +kernel) ?_
    refine zv_iald hC dX9_got_112 (a := 246) (n := 752) rfl (by decide) (by decide) (j := 0) rfl (by decide) ((congrFun (hf.1 246 (by decide)) 0).trans hM.1.1.1) ?_
    refine zr_icmp_ge hC dX9_got_113 (tgt := 136) (by decide) (fun c => absurd c (nI_ge (by omega) (by have := hM.made; omega))) (fun c_113 => ?_)
    refine zr_aload_n hC dX9_got_116 rfl ?_
    refine zs_getr hC dX9_got_117 fl_X9_55 (a := 245) (r := 259) rfl (by decide) ?_
    refine zr_iload hC dX9_got_120 rfl ?_
    refine zr_aload_n hC dX9_got_122 rfl ?_
    refine zr_iload_n hC dX9_got_123 rfl ?_
    refine zr_iload hC dX9_got_124 rfl ?_
    refine zs_callV hC (b := 245) [_, _] [_, _] dX9_got_126 ml_X9_117 mtX9_holds tX9_holds (by decide) (by decide) (by decide) rfl rfl (by decide) (by decide +kernel) (Nat.le_of_ble_eq_true rfl) rfl ?_
    refine ⟨m, i, D, rfl, hm, by omega, by rw [hf.1 246 (by decide)]; exact hM, fun r e => ?_⟩
    have h60 := hM.made
    rcases e with ⟨rfl, hx⟩ | ⟨rfl, hx⟩
    · dsimp only [Option.toList, List.cons_append, List.nil_append]
      refine zs_zast hC dX9_got_129 (a := 259) (n := 230) rfl (by decide) (by decide) (j := i) rfl (by omega) (by first | exact Or.inl rfl | exact Or.inr rfl) ?_
      refine zn_iinc hC dX9_got_130 rfl (by decide) (zk_inc _ 1) ?_
      refine zr_goto hC dX9_got_133 (tgt := 105) (by decide) ?_
      refine zR_sub [(0, .ref 245), (1, .int (nI m)), (2, .int (nI t)), (4, .int (nI a)), (5, .int (nI b)), (7, .int (nI (i + 1)))] ⟨rfl, rfl, rfl, rfl, rfl, rfl, trivial⟩ (ih (i + 1) _ (by omega) (hf.put (by decide) (by decide)) (fun j hj => ?_))
      by_cases q : j = i
      · subst q; rw [zput_at, f0_hd, show hd D m j = _ from hx]; rfl
      · rw [zput_k _ _ q]; exact hs j (by omega)
    · dsimp only [Option.toList, List.cons_append, List.nil_append]
      refine zs_zast hC dX9_got_129 (a := 259) (n := 230) rfl (by decide) (by decide) (j := i) rfl (by omega) (by first | exact Or.inl rfl | exact Or.inr rfl) ?_
      refine zn_iinc hC dX9_got_130 rfl (by decide) (zk_inc _ 1) ?_
      refine zr_goto hC dX9_got_133 (tgt := 105) (by decide) ?_
      refine zR_sub [(0, .ref 245), (1, .int (nI m)), (2, .int (nI t)), (4, .int (nI a)), (5, .int (nI b)), (7, .int (nI (i + 1)))] ⟨rfl, rfl, rfl, rfl, rfl, rfl, trivial⟩ (ih (i + 1) _ (by omega) (hf.put (by decide) (by decide)) (fun j hj => ?_))
      by_cases q : j = i
      · subst q; rw [zput_at, f0_hd, show hd D m j = _ from hx]; rfl
      · rw [zput_k _ _ q]; exact hs j (by omega)
set_option maxHeartbeats 1000000 in
set_option maxRecDepth 100000 in
theorem l9_gotC {C : zCx} {τ : Nat → ClassId} {ι : Nat → Nat} (hC : zOK C τ (zrm 3 0 0) yX9_got.cls cX9_got 9) {D : zD} {h : zH} {t a b m : Nat} (ht : t < 4) (hm : m < 16) (hab : a + b ≤ 24) {S0 : zS} (hM : MW (S0.1 246) D) (hL : ∀ i, i < D 6 1 → D 10 i < D 6 0 ∧ D 11 i < D 6 0) (hok : gok D h t a b = true) (hrow : ∀ k, k < b → S0.2 257 (24 * t + a + k) = h.2.2 t (a + k)) (k : ∀ S lv, zfrm 259 260 S0 S → (∀ j, j < D 6 0 → S.1 259 j = zb (gop D h m t a b j)) → zlk 0 lv = some (.ref 245) → zR C τ ι 9 0 0 214 lv [] (zcells S)) : ∀ (d i : Nat) (S : zS), i + d = b → zfrm 259 260 S0 S → (∀ j, j < D 6 0 → S.1 259 j = zb (gop D h m t a i j)) → zR C τ ι 9 0 0 139 [(0, .ref 245), (1, .int (nI m)), (2, .int (nI t)), (4, .int (nI a)), (5, .int (nI b)), (7, .int (nI i))] [] (zcells S) := by
  intro d
  induction d with
  | zero =>
    intro i S hi hf hs
    refine zr_iload hC dX9_got_139 rfl ?_
    refine zr_iload hC dX9_got_141 rfl ?_
    refine zr_icmp_ge hC dX9_got_143 (tgt := 214) (by decide) (fun c_143 => ?_) (fun c => absurd c (not_not_intro (nI_le (by omega) (by omega))))
    obtain rfl : i = b := (by omega)
    exact k S _ hf hs rfl
  | succ d ih =>
    intro i S hi hf hs
    refine zr_iload hC dX9_got_139 rfl ?_
    refine zr_iload hC dX9_got_141 rfl ?_
    refine zr_icmp_ge hC dX9_got_143 (tgt := 214) (by decide) (fun c => absurd c (nI_ge (by omega) (by omega))) (fun c_143 => ?_)
    have hg := gok_at b (show i < b by omega) hok
    have hv := z_l2i hg.1 hg.2 (by have := hM.writ; omega)
    have hv2 : gid h t a i < D 6 1 := hv.2
    have hl := hL _ hv2
    have hM1 : MW (S.1 246) D := by rw [hf.1 246 (by decide)]; exact hM
    have h60 := hM.made
    rcases z_b2 (gop D h m t a i (D 10 (gid h t a i))) (gop D h m t a i (D 11 (gid h t a i))) with ⟨hn, hu⟩ | ⟨hn, hu⟩ | ⟨hn, hu⟩ | ⟨hn, hu⟩
    · refine zr_aload_n hC dX9_got_146 rfl ?_
      refine zs_getr hC dX9_got_147 fl_X9_48 (a := 245) (r := 257) rfl (by decide) ?_
      refine zk_bipush hC dX9_got_150 (v := nI 24) (by decide +kernel) ?_
      refine zr_iload_n hC dX9_got_152 rfl ?_
      refine zn_imul hC dX9_got_153 (pk_mul _ _) ?_
      refine zr_iload hC dX9_got_154 rfl ?_
      refine zn_iadd hC dX9_got_156 (nI_add _ _) ?_
      refine zr_iload hC dX9_got_157 rfl ?_
      refine zn_iadd hC dX9_got_159 (nI_add _ _) ?_
      refine zv_lald hC dX9_got_160 (a := 257) (n := 96) rfl (by decide) (by decide) (j := 24 * t + a + i) rfl (by omega) ((congrFun (congrFun hf.2 _) _).trans (hrow i (by omega))) ?_
      refine zr_l2i hC dX9_got_161 ?_
      rw [hv.1]
      refine zr_istore hC dX9_got_162 (by decide) ?_
      refine zr_aload_n hC dX9_got_164 rfl ?_
      refine zs_getr hC dX9_got_165 fl_X9_55 (a := 245) (r := 259) rfl (by decide) ?_
      refine zr_aload_n hC dX9_got_168 rfl ?_
      refine zr_iload hC dX9_got_169 rfl ?_
      refine zs_callV hC (b := 245) [_] [_] dX9_got_171 ml_X9_120 mtX9_inOf tX9_inOf (by decide) (by decide) (by decide) rfl rfl (by decide) (by decide +kernel) (Nat.le_of_ble_eq_true rfl) rfl ?_
      refine ⟨gid h t a i, D, rfl, hv2, hM1, ?_⟩
      dsimp only [Option.toList, List.cons_append, List.nil_append]
      refine zr_aload_n hC dX9_got_174 rfl ?_
      refine zs_getr hC dX9_got_175 fl_X9_55 (a := 245) (r := 259) rfl (by decide) ?_
      refine zr_aload_n hC dX9_got_178 rfl ?_
      refine zr_iload hC dX9_got_179 rfl ?_
      refine zs_callV hC (b := 245) [_] [_, _, _] dX9_got_181 ml_X9_120 mtX9_inOf tX9_inOf (by decide) (by decide) (by decide) rfl rfl (by decide) (by decide +kernel) (Nat.le_of_ble_eq_true rfl) rfl ?_
      refine ⟨gid h t a i, D, rfl, hv2, hM1, ?_⟩
      dsimp only [Option.toList, List.cons_append, List.nil_append]
      refine zv_zald hC dX9_got_184 (a := 259) (n := 230) rfl (by decide) (by decide) (j := D 10 (gid h t a i)) rfl (by omega) ((hs _ hl.1).trans (congrArg zb hn)) ?_
      refine zr_if_ne hC dX9_got_185 (tgt := 202) (by decide) (fun c => absurd c (by decide +kernel)) (fun c_185 => ?_)
      refine zr_aload_n hC dX9_got_188 rfl ?_
      refine zs_getr hC dX9_got_189 fl_X9_55 (a := 245) (r := 259) rfl (by decide) ?_
      refine zr_aload_n hC dX9_got_192 rfl ?_
      refine zr_iload hC dX9_got_193 rfl ?_
      refine zs_callV hC (b := 245) [_] [_, _, _] dX9_got_195 ml_X9_114 mtX9_underOf tX9_underOf (by decide) (by decide) (by decide) rfl rfl (by decide) (by decide +kernel) (Nat.le_of_ble_eq_true rfl) rfl ?_
      refine ⟨gid h t a i, D, rfl, hv2, hM1, ?_⟩
      dsimp only [Option.toList, List.cons_append, List.nil_append]
      refine zv_zald hC dX9_got_198 (a := 259) (n := 230) rfl (by decide) (by decide) (j := D 11 (gid h t a i)) rfl (by omega) ((hs _ hl.2).trans (congrArg zb hu)) ?_
      refine zr_if_eq hC dX9_got_199 (tgt := 206) (by decide) (fun c_199 => ?_) (fun c => absurd c (by decide +kernel))
      refine zk_iconst hC dX9_got_206 (v := nI 0) (by decide +kernel) ?_
      refine zs_zast hC dX9_got_207 (a := 259) (n := 230) rfl (by decide) (by decide) (j := D 10 (gid h t a i)) rfl (by omega) (by first | exact Or.inl rfl | exact Or.inr rfl) ?_
      refine zn_iinc hC dX9_got_208 rfl (by decide) (zk_inc _ 1) ?_
      refine zr_goto hC dX9_got_211 (tgt := 139) (by decide) ?_
      exact zR_sub [(0, .ref 245), (1, .int (nI m)), (2, .int (nI t)), (4, .int (nI a)), (5, .int (nI b)), (7, .int (nI (i + 1)))] ⟨rfl, rfl, rfl, rfl, rfl, rfl, trivial⟩ (ih (i + 1) _ (by omega) (hf.put (by decide) (by decide)) (op_put9 hs (by rw [hn, hu]; decide)))
    · refine zr_aload_n hC dX9_got_146 rfl ?_
      refine zs_getr hC dX9_got_147 fl_X9_48 (a := 245) (r := 257) rfl (by decide) ?_
      refine zk_bipush hC dX9_got_150 (v := nI 24) (by decide +kernel) ?_
      refine zr_iload_n hC dX9_got_152 rfl ?_
      refine zn_imul hC dX9_got_153 (pk_mul _ _) ?_
      refine zr_iload hC dX9_got_154 rfl ?_
      refine zn_iadd hC dX9_got_156 (nI_add _ _) ?_
      refine zr_iload hC dX9_got_157 rfl ?_
      refine zn_iadd hC dX9_got_159 (nI_add _ _) ?_
      refine zv_lald hC dX9_got_160 (a := 257) (n := 96) rfl (by decide) (by decide) (j := 24 * t + a + i) rfl (by omega) ((congrFun (congrFun hf.2 _) _).trans (hrow i (by omega))) ?_
      refine zr_l2i hC dX9_got_161 ?_
      rw [hv.1]
      refine zr_istore hC dX9_got_162 (by decide) ?_
      refine zr_aload_n hC dX9_got_164 rfl ?_
      refine zs_getr hC dX9_got_165 fl_X9_55 (a := 245) (r := 259) rfl (by decide) ?_
      refine zr_aload_n hC dX9_got_168 rfl ?_
      refine zr_iload hC dX9_got_169 rfl ?_
      refine zs_callV hC (b := 245) [_] [_] dX9_got_171 ml_X9_120 mtX9_inOf tX9_inOf (by decide) (by decide) (by decide) rfl rfl (by decide) (by decide +kernel) (Nat.le_of_ble_eq_true rfl) rfl ?_
      refine ⟨gid h t a i, D, rfl, hv2, hM1, ?_⟩
      dsimp only [Option.toList, List.cons_append, List.nil_append]
      refine zr_aload_n hC dX9_got_174 rfl ?_
      refine zs_getr hC dX9_got_175 fl_X9_55 (a := 245) (r := 259) rfl (by decide) ?_
      refine zr_aload_n hC dX9_got_178 rfl ?_
      refine zr_iload hC dX9_got_179 rfl ?_
      refine zs_callV hC (b := 245) [_] [_, _, _] dX9_got_181 ml_X9_120 mtX9_inOf tX9_inOf (by decide) (by decide) (by decide) rfl rfl (by decide) (by decide +kernel) (Nat.le_of_ble_eq_true rfl) rfl ?_
      refine ⟨gid h t a i, D, rfl, hv2, hM1, ?_⟩
      dsimp only [Option.toList, List.cons_append, List.nil_append]
      refine zv_zald hC dX9_got_184 (a := 259) (n := 230) rfl (by decide) (by decide) (j := D 10 (gid h t a i)) rfl (by omega) ((hs _ hl.1).trans (congrArg zb hn)) ?_
      refine zr_if_ne hC dX9_got_185 (tgt := 202) (by decide) (fun c => absurd c (by decide +kernel)) (fun c_185 => ?_)
      refine zr_aload_n hC dX9_got_188 rfl ?_
      refine zs_getr hC dX9_got_189 fl_X9_55 (a := 245) (r := 259) rfl (by decide) ?_
      refine zr_aload_n hC dX9_got_192 rfl ?_
      refine zr_iload hC dX9_got_193 rfl ?_
      refine zs_callV hC (b := 245) [_] [_, _, _] dX9_got_195 ml_X9_114 mtX9_underOf tX9_underOf (by decide) (by decide) (by decide) rfl rfl (by decide) (by decide +kernel) (Nat.le_of_ble_eq_true rfl) rfl ?_
      refine ⟨gid h t a i, D, rfl, hv2, hM1, ?_⟩
      dsimp only [Option.toList, List.cons_append, List.nil_append]
      refine zv_zald hC dX9_got_198 (a := 259) (n := 230) rfl (by decide) (by decide) (j := D 11 (gid h t a i)) rfl (by omega) ((hs _ hl.2).trans (congrArg zb hu)) ?_
      refine zr_if_eq hC dX9_got_199 (tgt := 206) (by decide) (fun c => absurd c (by decide +kernel)) (fun c_199 => ?_)
      refine zk_iconst hC dX9_got_202 (v := nI 1) (by decide +kernel) ?_
      refine zr_goto hC dX9_got_203 (tgt := 207) (by decide) ?_
      refine zs_zast hC dX9_got_207 (a := 259) (n := 230) rfl (by decide) (by decide) (j := D 10 (gid h t a i)) rfl (by omega) (by first | exact Or.inl rfl | exact Or.inr rfl) ?_
      refine zn_iinc hC dX9_got_208 rfl (by decide) (zk_inc _ 1) ?_
      refine zr_goto hC dX9_got_211 (tgt := 139) (by decide) ?_
      exact zR_sub [(0, .ref 245), (1, .int (nI m)), (2, .int (nI t)), (4, .int (nI a)), (5, .int (nI b)), (7, .int (nI (i + 1)))] ⟨rfl, rfl, rfl, rfl, rfl, rfl, trivial⟩ (ih (i + 1) _ (by omega) (hf.put (by decide) (by decide)) (op_put9 hs (by rw [hn, hu]; decide)))
    · refine zr_aload_n hC dX9_got_146 rfl ?_
      refine zs_getr hC dX9_got_147 fl_X9_48 (a := 245) (r := 257) rfl (by decide) ?_
      refine zk_bipush hC dX9_got_150 (v := nI 24) (by decide +kernel) ?_
      refine zr_iload_n hC dX9_got_152 rfl ?_
      refine zn_imul hC dX9_got_153 (pk_mul _ _) ?_
      refine zr_iload hC dX9_got_154 rfl ?_
      refine zn_iadd hC dX9_got_156 (nI_add _ _) ?_
      refine zr_iload hC dX9_got_157 rfl ?_
      refine zn_iadd hC dX9_got_159 (nI_add _ _) ?_
      refine zv_lald hC dX9_got_160 (a := 257) (n := 96) rfl (by decide) (by decide) (j := 24 * t + a + i) rfl (by omega) ((congrFun (congrFun hf.2 _) _).trans (hrow i (by omega))) ?_
      refine zr_l2i hC dX9_got_161 ?_
      rw [hv.1]
      refine zr_istore hC dX9_got_162 (by decide) ?_
      refine zr_aload_n hC dX9_got_164 rfl ?_
      refine zs_getr hC dX9_got_165 fl_X9_55 (a := 245) (r := 259) rfl (by decide) ?_
      refine zr_aload_n hC dX9_got_168 rfl ?_
      refine zr_iload hC dX9_got_169 rfl ?_
      refine zs_callV hC (b := 245) [_] [_] dX9_got_171 ml_X9_120 mtX9_inOf tX9_inOf (by decide) (by decide) (by decide) rfl rfl (by decide) (by decide +kernel) (Nat.le_of_ble_eq_true rfl) rfl ?_
      refine ⟨gid h t a i, D, rfl, hv2, hM1, ?_⟩
      dsimp only [Option.toList, List.cons_append, List.nil_append]
      refine zr_aload_n hC dX9_got_174 rfl ?_
      refine zs_getr hC dX9_got_175 fl_X9_55 (a := 245) (r := 259) rfl (by decide) ?_
      refine zr_aload_n hC dX9_got_178 rfl ?_
      refine zr_iload hC dX9_got_179 rfl ?_
      refine zs_callV hC (b := 245) [_] [_, _, _] dX9_got_181 ml_X9_120 mtX9_inOf tX9_inOf (by decide) (by decide) (by decide) rfl rfl (by decide) (by decide +kernel) (Nat.le_of_ble_eq_true rfl) rfl ?_
      refine ⟨gid h t a i, D, rfl, hv2, hM1, ?_⟩
      dsimp only [Option.toList, List.cons_append, List.nil_append]
      refine zv_zald hC dX9_got_184 (a := 259) (n := 230) rfl (by decide) (by decide) (j := D 10 (gid h t a i)) rfl (by omega) ((hs _ hl.1).trans (congrArg zb hn)) ?_
      refine zr_if_ne hC dX9_got_185 (tgt := 202) (by decide) (fun c_185 => ?_) (fun c => absurd c (by decide +kernel))
      refine zk_iconst hC dX9_got_202 (v := nI 1) (by decide +kernel) ?_
      refine zr_goto hC dX9_got_203 (tgt := 207) (by decide) ?_
      refine zs_zast hC dX9_got_207 (a := 259) (n := 230) rfl (by decide) (by decide) (j := D 10 (gid h t a i)) rfl (by omega) (by first | exact Or.inl rfl | exact Or.inr rfl) ?_
      refine zn_iinc hC dX9_got_208 rfl (by decide) (zk_inc _ 1) ?_
      refine zr_goto hC dX9_got_211 (tgt := 139) (by decide) ?_
      exact zR_sub [(0, .ref 245), (1, .int (nI m)), (2, .int (nI t)), (4, .int (nI a)), (5, .int (nI b)), (7, .int (nI (i + 1)))] ⟨rfl, rfl, rfl, rfl, rfl, rfl, trivial⟩ (ih (i + 1) _ (by omega) (hf.put (by decide) (by decide)) (op_put9 hs (by rw [hn, hu]; decide)))
    · refine zr_aload_n hC dX9_got_146 rfl ?_
      refine zs_getr hC dX9_got_147 fl_X9_48 (a := 245) (r := 257) rfl (by decide) ?_
      refine zk_bipush hC dX9_got_150 (v := nI 24) (by decide +kernel) ?_
      refine zr_iload_n hC dX9_got_152 rfl ?_
      refine zn_imul hC dX9_got_153 (pk_mul _ _) ?_
      refine zr_iload hC dX9_got_154 rfl ?_
      refine zn_iadd hC dX9_got_156 (nI_add _ _) ?_
      refine zr_iload hC dX9_got_157 rfl ?_
      refine zn_iadd hC dX9_got_159 (nI_add _ _) ?_
      refine zv_lald hC dX9_got_160 (a := 257) (n := 96) rfl (by decide) (by decide) (j := 24 * t + a + i) rfl (by omega) ((congrFun (congrFun hf.2 _) _).trans (hrow i (by omega))) ?_
      refine zr_l2i hC dX9_got_161 ?_
      rw [hv.1]
      refine zr_istore hC dX9_got_162 (by decide) ?_
      refine zr_aload_n hC dX9_got_164 rfl ?_
      refine zs_getr hC dX9_got_165 fl_X9_55 (a := 245) (r := 259) rfl (by decide) ?_
      refine zr_aload_n hC dX9_got_168 rfl ?_
      refine zr_iload hC dX9_got_169 rfl ?_
      refine zs_callV hC (b := 245) [_] [_] dX9_got_171 ml_X9_120 mtX9_inOf tX9_inOf (by decide) (by decide) (by decide) rfl rfl (by decide) (by decide +kernel) (Nat.le_of_ble_eq_true rfl) rfl ?_
      refine ⟨gid h t a i, D, rfl, hv2, hM1, ?_⟩
      dsimp only [Option.toList, List.cons_append, List.nil_append]
      refine zr_aload_n hC dX9_got_174 rfl ?_
      refine zs_getr hC dX9_got_175 fl_X9_55 (a := 245) (r := 259) rfl (by decide) ?_
      refine zr_aload_n hC dX9_got_178 rfl ?_
      refine zr_iload hC dX9_got_179 rfl ?_
      refine zs_callV hC (b := 245) [_] [_, _, _] dX9_got_181 ml_X9_120 mtX9_inOf tX9_inOf (by decide) (by decide) (by decide) rfl rfl (by decide) (by decide +kernel) (Nat.le_of_ble_eq_true rfl) rfl ?_
      refine ⟨gid h t a i, D, rfl, hv2, hM1, ?_⟩
      dsimp only [Option.toList, List.cons_append, List.nil_append]
      refine zv_zald hC dX9_got_184 (a := 259) (n := 230) rfl (by decide) (by decide) (j := D 10 (gid h t a i)) rfl (by omega) ((hs _ hl.1).trans (congrArg zb hn)) ?_
      refine zr_if_ne hC dX9_got_185 (tgt := 202) (by decide) (fun c_185 => ?_) (fun c => absurd c (by decide +kernel))
      refine zk_iconst hC dX9_got_202 (v := nI 1) (by decide +kernel) ?_
      refine zr_goto hC dX9_got_203 (tgt := 207) (by decide) ?_
      refine zs_zast hC dX9_got_207 (a := 259) (n := 230) rfl (by decide) (by decide) (j := D 10 (gid h t a i)) rfl (by omega) (by first | exact Or.inl rfl | exact Or.inr rfl) ?_
      refine zn_iinc hC dX9_got_208 rfl (by decide) (zk_inc _ 1) ?_
      refine zr_goto hC dX9_got_211 (tgt := 139) (by decide) ?_
      exact zR_sub [(0, .ref 245), (1, .int (nI m)), (2, .int (nI t)), (4, .int (nI a)), (5, .int (nI b)), (7, .int (nI (i + 1)))] ⟨rfl, rfl, rfl, rfl, rfl, rfl, trivial⟩ (ih (i + 1) _ (by omega) (hf.put (by decide) (by decide)) (op_put9 hs (by rw [hn, hu]; decide)))
def spX9_got : zSp := fun av S Q => ∃ (G : zG) (x : Int32) (s : Int32) (l : Int32) (i : Int32) (n : Int32), av = [.ref 245, .int x, .int s, .int l, .int i, .int n] ∧ MG S G ∧ GI G ∧ ∀ S', MG S' G → zfm S S' → Q (some (.int (fGot x s l i n G))) S'
set_option maxHeartbeats 1000000 in
set_option maxRecDepth 100000 in
theorem tX9_got : zM yX9_got cX9_got 9 (some .int) 3 spX9_got := by
  refine zM.of (by decide) (by decide) (fun av S Q h => by obtain ⟨G, x, s, l, i, n, rfl, hMG, hGI, hQ⟩ := h; exact Nat.le_of_ble_eq_true rfl) (fun C τ ι av S Q Qr h hr hC hE => ?_)
  obtain ⟨G, x, s, l, i, n, rfl, hMG, hGI, hQ⟩ := h
  show zR C τ ι _ 0 0 0 [(0, .ref 245), (1, .int x), (2, .int s), (3, .int l), (4, .int i), (5, .int n)] [] _
  refine zr_iload_n hC dX9_got_0 rfl ?_
  refine zs_callS hC [_] [] dX9_got_1 ml_X9_98 mtX9_isMember tX9_isMember (by decide) (by decide) (by decide) rfl (Nat.le_of_ble_eq_true rfl) rfl ?_
  refine ⟨x, rfl, fun r e => ?_⟩
  rcases e with ⟨rfl, m, hm, rfl⟩ | ⟨rfl, hx⟩
  · dsimp only [Option.toList, List.cons_append, List.nil_append]
    refine zr_if_eq hC dX9_got_4 (tgt := 39) (by decide) (fun c => absurd c (by decide +kernel)) (fun c_4 => ?_)
    refine zr_iload_n hC dX9_got_7 rfl ?_
    refine zs_callS hC [_] [] dX9_got_8 ml_X9_247 mtX9_isSheet tX9_isSheet (by decide) (by decide) (by decide) rfl (Nat.le_of_ble_eq_true rfl) rfl ?_
    refine ⟨s, rfl, fun r e => ?_⟩
    rcases e with ⟨rfl, t, ht, rfl⟩ | ⟨rfl, hx⟩
    · dsimp only [Option.toList, List.cons_append, List.nil_append]
      refine zr_if_eq hC dX9_got_11 (tgt := 39) (by decide) (fun c => absurd c (by decide +kernel)) (fun c_11 => ?_)
      refine zr_iload_n hC dX9_got_14 rfl ?_
      refine zr_i2l hC dX9_got_15 ?_
      refine zr_lconst hC dX9_got_16 ?_
      refine zr_ldc2 hC dX9_got_17 kl_X9_245 ?_
      refine zs_callS hC [_, _, _] [] dX9_got_20 ml_X9_60 mtX9_in tX9_in (by decide) (by decide) (by decide) rfl (Nat.le_of_ble_eq_true rfl) rfl ?_
      refine ⟨_, _, _, rfl, fun r e => ?_⟩
      obtain ⟨w1, w2⟩ := z_one (x := l) (lo := nI 0) (hi := nI 3) rfl (show Int64.ofNat 0 = _ by decide +kernel) (show (3 : Int64) = _ by decide +kernel)
      have e : (r = nI 1 ∧ ¬ l < nI 0 ∧ ¬ nI 3 < l) ∨ (r = nI 0 ∧ (l < nI 0 ∨ nI 3 < l)) := by
        rcases e with ⟨e, e1, e2⟩ | ⟨e, e1⟩
        · exact Or.inl ⟨e, fun q => e1 (w1.mpr q), fun q => e2 (w2.mpr q)⟩
        · exact Or.inr ⟨e, e1.imp w1.mp w2.mp⟩
      rcases e with ⟨rfl, e1, e2⟩ | ⟨rfl, e1⟩
      · obtain ⟨c, -, hc3, rfl⟩ := rg_in e1 e2 (by decide) (by decide)
        have hc : c < 4 := by omega
        dsimp only [Option.toList, List.cons_append, List.nil_append]
        refine zr_if_eq hC dX9_got_23 (tgt := 39) (by decide) (fun c => absurd c (by decide +kernel)) (fun c_23 => ?_)
        refine zr_iload hC dX9_got_26 rfl ?_
        refine zr_i2l hC dX9_got_28 ?_
        refine zr_lconst hC dX9_got_29 ?_
        refine zr_ldc2 hC dX9_got_30 kl_X9_258 ?_
        refine zs_callS hC [_, _, _] [] dX9_got_33 ml_X9_60 mtX9_in tX9_in (by decide) (by decide) (by decide) rfl (Nat.le_of_ble_eq_true rfl) rfl ?_
        refine ⟨_, _, _, rfl, fun r e => ?_⟩
        obtain ⟨w1, w2⟩ := z_one (x := n) (lo := nI 1) (hi := nI 24) rfl (show Int64.ofNat 1 = _ by decide +kernel) (show (24 : Int64) = _ by decide +kernel)
        have e : (r = nI 1 ∧ ¬ n < nI 1 ∧ ¬ nI 24 < n) ∨ (r = nI 0 ∧ (n < nI 1 ∨ nI 24 < n)) := by
          rcases e with ⟨e, e1, e2⟩ | ⟨e, e1⟩
          · exact Or.inl ⟨e, fun q => e1 (w1.mpr q), fun q => e2 (w2.mpr q)⟩
          · exact Or.inr ⟨e, e1.imp w1.mp w2.mp⟩
        rcases e with ⟨rfl, e1, e2⟩ | ⟨rfl, e1⟩
        · obtain ⟨b, b1, b2, rfl⟩ := rg_in e1 e2 (by decide) (by decide)
          dsimp only [Option.toList, List.cons_append, List.nil_append]
          refine zr_if_ne hC dX9_got_36 (tgt := 41) (by decide) (fun c_36 => ?_) (fun c => absurd c (by decide +kernel))
          simp only [fGot, mm_yes hm (show 16 < 2147483648 by decide), mm_yes ht (show 4 < 2147483648 by decide), mm_yes hc (show 4 < 2147483648 by decide), rg_yes b1 b2 (show 24 < 2147483648 by decide)] at hQ
          refine zr_aload_n hC dX9_got_41 rfl ?_
          refine zr_iload_n hC dX9_got_42 rfl ?_
          refine zr_iload_n hC dX9_got_43 rfl ?_
          refine zr_iload hC dX9_got_44 rfl ?_
          refine zr_iload hC dX9_got_46 rfl ?_
          refine zs_callV hC (b := 245) [_, _, _, _] [] dX9_got_48 ml_X9_250 mtX9_whyNot tX9_whyNot (by decide) (by decide) (by decide) rfl rfl (by decide) (by decide +kernel) (Nat.le_of_ble_eq_true rfl) rfl ?_
          refine ⟨t, c, b, _, _, rfl, ht, hc, by omega, hMG.2.2.2.2, ?_⟩
          dsimp only [Option.toList, List.cons_append, List.nil_append]
          refine zr_istore hC dX9_got_51 (by decide) ?_
          refine zr_iload hC dX9_got_53 rfl ?_
          refine zr_if_ge hC dX9_got_55 (tgt := 61) (by decide) (fun c_55 => ?_) (fun c_55 => ?_)
          · rw [shref_ge] at c_55
            rw [if_neg (not_not_intro c_55)] at hQ
            have hz24 := (hGI.2.2.2.2 t ht).2
            obtain ⟨hb1, a, b0, rfl, hbb, hb2⟩ := shref_0 hz24 c_55
            rw [nI_eq (by omega) (by omega)] at hbb
            subst hbb
            have ht2 : (nI a).toBitVec.toNat = a := pk_tn (by omega)
            rw [ht2] at hQ
            have hrow : ∀ k, k < b → S.2 257 (24 * t + a + k) = G.2.2.2.2.2.2 t (a + k) := fun k hk => by rw [Nat.add_assoc]; exact ((hMG.2.2.2.2 t ht).2.2 (by omega)).2.2 _ (by omega)
            refine zk_iconst hC dX9_got_61 (v := nI 0) (by decide +kernel) ?_
            refine zr_istore hC dX9_got_62 (by decide) ?_
            refine zR_sub [(0, .ref 245), (1, .int (nI m)), (2, .int (nI t)), (4, .int (nI a)), (5, .int (nI b)), (7, .int (nI 0))] ⟨rfl, rfl, rfl, rfl, rfl, rfl, trivial⟩ (l9_gotA (S := S) (D := G.1) (h := G.2.2.2.2) (m := m) hC ht hm (by omega) hE hMG.1 hrow (fun hno => hr _ _ (by rw [if_pos hno] at hQ; exact hQ _ hMG zfm.rf)) (fun lv hok gs => ?_) b 0 (by omega) rfl)
            rw [if_neg (by rw [hok]; decide)] at hQ
            refine zR_sub [(0, .ref 245), (1, .int (nI m)), (2, .int (nI t)), (4, .int (nI a)), (5, .int (nI b))] gs ?_
            refine zk_iconst hC dX9_got_102 (v := nI 0) (by decide +kernel) ?_
            refine zr_istore hC dX9_got_103 (by decide) ?_
            refine zR_sub [(0, .ref 245), (1, .int (nI m)), (2, .int (nI t)), (4, .int (nI a)), (5, .int (nI b)), (7, .int (nI 0))] ⟨rfl, rfl, rfl, rfl, rfl, rfl, trivial⟩ (l9_gotB (S0 := S) (D := G.1) (h := G.2.2.2.2) (m := m) (a := a) (b := b) hC ht hm (by omega) hMG.1 (fun S1 lv hf1 g1 gs => ?_) (G.1 6 0) 0 S (by omega) zfrm.rf (fun j hj => absurd hj (Nat.not_lt_zero j)))
            refine zR_sub [(0, .ref 245), (1, .int (nI m)), (2, .int (nI t)), (4, .int (nI a)), (5, .int (nI b))] gs ?_
            refine zk_iconst hC dX9_got_136 (v := nI 0) (by decide +kernel) ?_
            refine zr_istore hC dX9_got_137 (by decide) ?_
            refine zR_sub [(0, .ref 245), (1, .int (nI m)), (2, .int (nI t)), (4, .int (nI a)), (5, .int (nI b)), (7, .int (nI 0))] ⟨rfl, rfl, rfl, rfl, rfl, rfl, trivial⟩ (l9_gotC (S0 := S1) (D := G.1) (h := G.2.2.2.2) (m := m) hC ht hm (by omega) (by rw [hf1.1 246 (by decide)]; exact hMG.1) (fun i hi => ⟨(hGI.1.lets hi).1, (hGI.1.lets hi).2.1⟩) hok (fun k hk => by rw [hf1.2]; exact hrow k hk) (fun S2 lv hf2 g2 q0 => ?_) b 0 S1 (by omega) zfrm.rf g1)
            refine zR_sub [(0, .ref 245)] ⟨q0, trivial⟩ ?_
            have hf2 := hf1.tr hf2
            refine zr_aload_n hC dX9_got_214 rfl ?_
            refine zk_iconst hC dX9_got_215 (v := nI 1) (by decide +kernel) ?_
            refine zs_callV hC (b := 245) [_] [] dX9_got_216 ml_X9_140 mtX9_keyOf tX9_keyOf (by decide) (by decide) (by decide) rfl rfl (by decide) (by decide +kernel) (Nat.le_of_ble_eq_true rfl) rfl ?_
            refine ⟨1, G.1, rfl, by decide, by rw [hf2.1 246 (by decide)]; exact hMG.1, ?_⟩
            rw [hGI.1.kofm (by decide) (by decide)]
            dsimp only [Option.toList, List.cons_append, List.nil_append]
            by_cases hs : sm (G.1 0) 1 = 0
            · rw [show kof (G.1 0) G.1 1 = -4 from if_pos hs]
              rw [if_pos hs] at hQ
              refine zr_istore hC dX9_got_219 (by decide) ?_
              refine zr_iload hC dX9_got_221 rfl ?_
              refine zr_if_ge hC dX9_got_223 (tgt := 231) (by decide) (fun c => absurd c (by decide)) (fun c_223 => ?_)
              refine zk_bipush hC dX9_got_226 (v := (-4)) (by decide +kernel) ?_
              refine zr_goto hC dX9_got_228 (tgt := 246) (by decide) ?_
              exact zr_ireturn hC hE dX9_got_246 (hr _ _ (hQ _ (hMG.scr hf2 (by decide)) (hf2.m (by decide))))
            · rw [show kof (G.1 0) G.1 1 = nI (key G.1 1) from if_neg hs]
              rw [if_neg hs] at hQ
              have hk : key G.1 1 < G.1 6 0 := hGI.1.root hs
              have h60 := hGI.1.made
              refine zr_istore hC dX9_got_219 (by decide) ?_
              refine zr_iload hC dX9_got_221 rfl ?_
              refine zr_if_ge hC dX9_got_223 (tgt := 231) (by decide) (fun c_223 => ?_) (fun c => absurd c (not_not_intro (nI_pos' (by omega))))
              refine zr_aload_n hC dX9_got_231 rfl ?_
              refine zs_getr hC dX9_got_232 fl_X9_55 (a := 245) (r := 259) rfl (by decide) ?_
              refine zr_iload hC dX9_got_235 rfl ?_
              refine zv_zald hC dX9_got_237 (a := 259) (n := 230) rfl (by decide) (by decide) (j := key G.1 1) rfl (by omega) (g2 _ hk) ?_
              refine zr_if_eq hC dX9_got_238 (tgt := 245) (by decide) (fun c_238 => ?_) (fun c_238 => ?_)
              · rw [(zb_eq0 _).mp c_238] at hQ
                refine zk_iconst hC dX9_got_245 (v := nI 0) (by decide +kernel) ?_
                exact zr_ireturn hC hE dX9_got_246 (hr _ _ (hQ _ (hMG.scr hf2 (by decide)) (hf2.m (by decide))))
              · rw [(zb_ne0 _).mp c_238] at hQ
                refine zk_iconst hC dX9_got_241 (v := nI 1) (by decide +kernel) ?_
                refine zr_goto hC dX9_got_242 (tgt := 246) (by decide) ?_
                exact zr_ireturn hC hE dX9_got_246 (hr _ _ (hQ _ (hMG.scr hf2 (by decide)) (hf2.m (by decide))))
          · rw [shref_ge] at c_55
            rw [if_pos c_55] at hQ
            refine zr_iload hC dX9_got_58 rfl ?_
            exact zr_ireturn hC hE dX9_got_60 (hr _ _ (hQ _ hMG zfm.rf))
        · simp only [fGot, mm_yes hm (show 16 < 2147483648 by decide), mm_yes ht (show 4 < 2147483648 by decide), mm_yes hc (show 4 < 2147483648 by decide), rg_no e1] at hQ
          dsimp only [Option.toList, List.cons_append, List.nil_append]
          refine zr_if_ne hC dX9_got_36 (tgt := 41) (by decide) (fun c => absurd c (by decide +kernel)) (fun c_36 => ?_)
          refine zk_iconst hC dX9_got_39 (v := (-1)) (by decide +kernel) ?_
          exact zr_ireturn hC hE dX9_got_40 (hr _ _ (hQ _ hMG zfm.rf))
      · simp only [fGot, mm_yes hm (show 16 < 2147483648 by decide), mm_yes ht (show 4 < 2147483648 by decide), mm_no (e1.imp id z_3)] at hQ
        dsimp only [Option.toList, List.cons_append, List.nil_append]
        refine zr_if_eq hC dX9_got_23 (tgt := 39) (by decide) (fun c_23 => ?_) (fun c => absurd c (by decide +kernel))
        refine zk_iconst hC dX9_got_39 (v := (-1)) (by decide +kernel) ?_
        exact zr_ireturn hC hE dX9_got_40 (hr _ _ (hQ _ hMG zfm.rf))
    · simp only [fGot, mm_yes hm (show 16 < 2147483648 by decide), mm_no hx] at hQ
      dsimp only [Option.toList, List.cons_append, List.nil_append]
      refine zr_if_eq hC dX9_got_11 (tgt := 39) (by decide) (fun c_11 => ?_) (fun c => absurd c (by decide +kernel))
      refine zk_iconst hC dX9_got_39 (v := (-1)) (by decide +kernel) ?_
      exact zr_ireturn hC hE dX9_got_40 (hr _ _ (hQ _ hMG zfm.rf))
  · simp only [fGot, mm_no hx] at hQ
    dsimp only [Option.toList, List.cons_append, List.nil_append]
    refine zr_if_eq hC dX9_got_4 (tgt := 39) (by decide) (fun c_4 => ?_) (fun c => absurd c (by decide +kernel))
    refine zk_iconst hC dX9_got_39 (v := (-1)) (by decide +kernel) ?_
    exact zr_ireturn hC hE dX9_got_40 (hr _ _ (hQ _ hMG zfm.rf))
