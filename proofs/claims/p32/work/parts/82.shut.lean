/-! THE LAW'S shut -/
theorem zr_ineg {C : zCx} {τ : Nat → ClassId} {ι : Nat → Nat} {R : Room} {own : String} {cc : ByteArray} {nL kc ks pc : Nat} {lv : List (Nat × Value)} {st : List Value} {w : List va_E} (hC : zOK C τ R own cc nL) {x : Int32} (hdg : decode cc pc = .ok (.ineg, 1)) (k : zR C τ ι nL kc ks (pc + 1) lv (.int (-x) :: st) w) : zR C τ ι nL kc ks pc lv (.int x :: st) w := by
  obtain ⟨p, l, e, R, s, m, args, below, meth, c, D, A, H0, Q⟩ := C
  obtain ⟨hx, hb, -⟩ := hC
  intro H locs ls hP hD hS hl
  exact lv_ineg hx hb hdg (k H locs ls hP hD hS hl)
theorem z_neg {a : Nat} (h0 : a ≠ 0) (ha : a < 65536) : -nI a = nI (a - 1) ^^^ (-1) := by
  apply Int32.toBitVec_inj.1
  show -(nI a).toBitVec = (nI (a - 1)).toBitVec ^^^ (-1 : Int32).toBitVec
  rw [show (-1 : Int32).toBitVec = BitVec.allOnes 32 from by decide, BitVec.xor_allOnes]
  apply BitVec.eq_of_toNat_eq
  rw [BitVec.toNat_neg, BitVec.toNat_not]
  show (2 ^ 32 - (nI a).toBitVec.toNat) % 2 ^ 32 = 2 ^ 32 - 1 - (nI (a - 1)).toBitVec.toNat
  rw [pk_tn (by omega), pk_tn (by omega)]
  omega
theorem z_andneg {a : Nat} (h0 : a ≠ 0) (ha : a < 65536) : nI a &&& -nI a = nI (zan a (a - 1)) := by rw [z_neg h0 ha, z_andn]
theorem zan_low {a : Nat} (h0 : a ≠ 0) (ha : a < 65536) : ∃ m, m < 16 ∧ (zan a (a - 1)).testBit m = true ∧ a.testBit m = true := by
  have h := (pcn_low ha h0).1
  by_cases q : ∃ m, m < 16 ∧ a.testBit m = true ∧ (a - 1).testBit m = false
  · obtain ⟨m, hm, q1, q2⟩ := q
    refine ⟨m, hm, ?_, q1⟩
    rw [zan_bit (by omega), q1, q2]; rfl
  · exfalso
    have e : pcn 16 (a &&& (a - 1)) = pcn 16 a := pcn_cong 16 (fun i hi => by
      rw [Nat.testBit_and]
      cases q1 : a.testBit i with
      | false => rfl
      | true =>
        cases q2 : (a - 1).testBit i with
        | true => rfl
        | false => exact absurd ⟨i, hi, q1, q2⟩ q)
    omega
theorem b65535 : ∀ m, m < 16 → (65535 : Nat).testBit m = true := by decide +kernel
theorem sh_v {D : zD} (w : WS D) {v : Nat} (v1 : 1 ≤ v) (v2 : v < 32) (hv : sm (D 0) v ≠ 0) : (key D v < D 6 0 ∧ D 7 (key D v) = v ∧ D 9 (key D v) = sm (D 0) v ∧ kof (D 0) D v = nI (key D v)) ∧ (opr D (f0 D (zan 65535 (sm (D 0) 1))) 232).1 (key D v) = false ∧ (opr D (f0 D (zan 65535 (sm (D 0) v))) 232).1 (key D v) = false ∧ (opr D (f0 D (zan (sm (D 0) v) (sm (D 0) v - 1))) 232).1 (key D v) = true := by
  have w' := w
  obtain ⟨hI, ⟨h1, h2, h3, h4⟩, t1, t2⟩ := w'
  obtain ⟨k1, k2⟩ := hI.live v1 v2 hv
  have h9 := holders_eq hI h1 h3 t2 v1 v2 hv
  refine ⟨⟨k1, k2, h9, if_neg hv⟩, opens_not hI h1 h2 v1 v2 hv (fun m hm q => ?_), opens_not hI h1 h2 v1 v2 hv (fun m hm q => ?_), ?_⟩
  · rw [zan_bit (by omega), Bool.and_eq_true, Bool.not_eq_true', sm_bit hm] at q
    have h0 : D 0 m = 0 := by
      by_cases z : D 0 m = 0
      · exact z
      · rw [bn_root _ (hI.ok.lt hm) z] at q; exact absurd q.2 (by decide)
    rw [h0]; exact bnf_0 5 v
  · rw [zan_bit (by omega), Bool.and_eq_true, Bool.not_eq_true', sm_bit hm] at q
    exact q.2
  · obtain ⟨m, hm, q1, q2⟩ := zan_low hv (sm_lt _ _)
    refine opr_up (f0_of q1 ?_) _
    show (D 9 _).testBit m = true
    rw [h9]; exact q2
theorem zan_16 (b : Nat) : zan 65535 b < 65536 := zan_lt (n := 16) (by decide)
theorem zan_16b {a : Nat} (b : Nat) (ha : a < 65536) : zan a b < 65536 := zan_lt (n := 16) ha
theorem fnod0 {G : zG} {v : Nat} (h1 : 1 ≤ v) (h2 : v ≤ 31) : fNode (nI v) (nI 0) G = kof (G.1 0) G.1 v := (fnod h1 h2 (by decide)).trans rfl
theorem fnod2 {G : zG} {v : Nat} (h1 : 1 ≤ v) (h2 : v ≤ 31) : fNode (nI v) (nI 2) G = if sm (G.1 0) v = 0 then -4 else nI (G.1 9 (key G.1 v)) := (fnod h1 h2 (by decide)).trans rfl
theorem fmem0 {G : zG} {m : Nat} (hm : m < 16) : fMember (nI m) (nI 0) G = if G.1 0 m ≠ 0 then nI (G.1 0 m) else -4 := (fmem hm (by decide)).trans rfl
theorem fmem1 {G : zG} {m : Nat} (hm : m < 16) : fMember (nI m) (nI 1) G = nI (hby G.1 m (G.1 6 0)) := (fmem hm (by decide)).trans rfl
theorem fmem2 {G : zG} {m : Nat} (hm : m < 16) : fMember (nI m) (nI 2) G = if sm (G.1 0) 1 = 0 then -4 else zb (hd G.1 m (key G.1 1)) := (fmem hm (by decide)).trans rfl
theorem fmem3 {G : zG} {m : Nat} (hm : m < 16) : fMember (nI m) (nI 3) G = nI (G.1 2 m) := (fmem hm (by decide)).trans rfl
theorem fmem4 {G : zG} {m : Nat} (hm : m < 16) : fMember (nI m) (nI 4) G = if G.1 0 m ≠ 0 then nI (G.1 6 1 - G.1 3 m) else -4 := (fmem hm (by decide)).trans rfl
theorem sm_leaf {D : zD} (hI : INV D) {m : Nat} (hm : m < 16) (h0 : D 0 m ≠ 0) : sm (D 0) (D 0 m) = 2 ^ m := by
  have hl := hI.leaf hm
  refine Nat.eq_of_testBit_eq (fun i => ?_)
  rw [Nat.testBit_two_pow]
  rcases Nat.lt_or_ge i 16 with hi | hi
  · rw [sm_bit hi]
    by_cases e : m = i
    · subst e
      rw [(bn_at _ (by omega) (by omega)).1]; simp
    · rw [decide_eq_false e]
      cases q : bn (D 0 i) (D 0 m) with
      | false => rfl
      | true =>
        have := (bn_leaf _ (hI.ok.lt hi) _ (by omega) (by omega)).mp q
        exact absurd (hI.inj i m hi hm this (by omega)).symm e
  · rw [z_small (n := 16) (sm_lt _ _) hi, decide_eq_false (by omega)]
/-- of the members that ever were there -/
def EV (D : zD) (e : Nat) : Prop := D 6 0 ≠ 0 → ∀ m, m < 16 → (hby D m (D 6 0) = 0 ↔ ¬ (e.testBit m = true ∨ D 0 m ≠ 0))
theorem no_keys {D : zD} (hI : INV D) (h : D 6 0 = 0) : ∀ m, m < 16 → D 0 m = 0 := fun m hm => by
  by_cases z : D 0 m = 0
  · exact z
  · have := (hI.live (v := 1) (by decide) (by decide) (sm_of hm (bn_root _ (hI.ok.lt hm) z))).1
    omega
theorem sm_0 {D : zD} (h : ∀ m, m < 16 → D 0 m = 0) (v : Nat) : sm (D 0) v = 0 := dm_zero.mpr (fun m hm => by rw [h m hm]; exact bnf_0 5 v)
theorem hby_lt32 {D : zD} {m : Nat} : ∀ N, hby D m N ≤ N
  | 0 => Nat.le_refl _
  | N + 1 => by
    have := hby_lt32 (D := D) (m := m) N
    unfold hby
    split <;> omega
theorem wsh_le (D : zD) (m k : Nat) : wsh D m k ≤ 4 := by
  unfold wsh
  split
  · decide
  · split
    · decide
    · split
      · decide
      · split <;> decide
theorem wsh_1 {D : zD} {m k : Nat} (h : hd D m k = true) : wsh D m k = 0 := if_pos h
theorem wsh_0 {D : zD} {m k : Nat} (h : hd D m k = false) : wsh D m k ≠ 0 := by
  unfold wsh
  rw [if_neg (by rw [h]; decide)]
  split
  · decide
  · split
    · decide
    · split <;> decide
theorem m4_lt0 : (-4 : Int32) < 0 := by decide
theorem m4_nge : ¬ (0 : Int32) ≤ -4 := by decide
theorem m4_ne0 : ¬ (-4 : Int32) = 0 := by decide
theorem m4_lt16 : (-4 : Int32) < nI 16 := by decide
theorem m1_eq : nI 0 - nI 1 = -1 := by decide
set_option maxHeartbeats 1000000 in
set_option maxRecDepth 100000 in
theorem lL_sh1 {C : zCx} {τ : Nat → ClassId} {ι : Nat → Nat} (hC : zOK C τ (zrm 5 0 0) yL_shut.cls cL_shut 7) {G : zG} {e : Nat} (hg : GI G) (hw : WS G.1) (k : ∀ S lv, CG S G → zsub lv [(0, .ref 0), (1, .int (nI e)), (2, .int (nI 1))] → zR C τ ι 7 0 0 189 lv [] (zcells S)) : ∀ (n i : Nat) (S : zS), i + n = 32 → 1 ≤ i → CG S G → zR C τ ι 7 0 0 16 [(0, .ref 0), (1, .int (nI e)), (2, .int (nI 1)), (3, .int (nI (zan 65535 (sm (G.1 0) 1)))), (4, .int (nI i))] [] (zcells S) := by
  intro n
  induction n with
  | zero =>
    intro i S hi h1 hc
    refine zr_iload hC dL_shut_16 rfl ?_
    refine zk_bipush hC dL_shut_18 (v := nI 32) (by decide +kernel) ?_
    refine zr_icmp_ge hC dL_shut_20 (tgt := 189) (by decide) (fun c_20 => ?_) (fun c => absurd c (not_not_intro (nI_le (by omega) (by omega))))
    exact k S _ hc ⟨rfl, rfl, rfl, trivial⟩
  | succ n ih =>
    intro i S hi h1 hc
    have hb1 := hg.1.made
    by_cases hv : sm (G.1 0) i = 0
    · refine zr_iload hC dL_shut_16 rfl ?_
      refine zk_bipush hC dL_shut_18 (v := nI 32) (by decide +kernel) ?_
      refine zr_icmp_ge hC dL_shut_20 (tgt := 189) (by decide) (fun c => absurd c (nI_ge (by omega) (by omega))) (fun c_20 => ?_)
      refine zr_iload_n hC dL_shut_23 rfl ?_
      refine zr_if_eq hC dL_shut_24 (tgt := 189) (by decide) (fun c => absurd c (by decide +kernel)) (fun c_24 => ?_)
      refine zr_aload_n hC dL_shut_27 rfl ?_
      refine zr_iload hC dL_shut_28 rfl ?_
      refine zk_iconst hC dL_shut_30 (v := nI 0) (by decide +kernel) ?_
      refine zs_callV hC (b := 0) [_, _] [] dL_shut_31 ml_L_78 mtX8_node tX8_node (by decide) (by decide) (by decide) rfl rfl (by decide) (by decide +kernel) (Nat.le_of_ble_eq_true rfl) rfl ?_
      refine ⟨G, _, _, rfl, hc, hg, fun S hc _ => ?_⟩
      rw [fnod0 h1 (by omega), kof, if_pos hv]
      dsimp only [Option.toList, List.cons_append, List.nil_append]
      refine zr_istore hC dL_shut_34 (by decide) ?_
      refine zr_aload_n hC dL_shut_36 rfl ?_
      refine zr_iload hC dL_shut_37 rfl ?_
      refine zk_iconst hC dL_shut_39 (v := nI 1) (by decide +kernel) ?_
      refine zs_callV hC (b := 0) [_, _] [] dL_shut_40 ml_L_78 mtX8_node tX8_node (by decide) (by decide) (by decide) rfl rfl (by decide) (by decide +kernel) (Nat.le_of_ble_eq_true rfl) rfl ?_
      refine ⟨G, _, _, rfl, hc, hg, fun S hc _ => ?_⟩
      rw [fnod1 h1 (by omega), hv]
      dsimp only [Option.toList, List.cons_append, List.nil_append]
      refine zr_istore hC dL_shut_43 (by decide) ?_
      refine zr_iload hC dL_shut_45 rfl ?_
      refine zr_if_ge hC dL_shut_47 (tgt := 54) (by decide) (fun c => absurd c m4_nge) (fun c_47 => ?_)
      refine zk_iconst hC dL_shut_50 (v := nI 1) (by decide +kernel) ?_
      refine zr_goto hC dL_shut_51 (tgt := 55) (by decide) ?_
      refine zr_iload hC dL_shut_55 rfl ?_
      refine zr_if_ne hC dL_shut_57 (tgt := 64) (by decide) (fun c => absurd c (by decide +kernel)) (fun c_57 => ?_)
      refine zk_iconst hC dL_shut_60 (v := nI 1) (by decide +kernel) ?_
      refine zr_goto hC dL_shut_61 (tgt := 65) (by decide) ?_
      refine zr_icmp_ne hC dL_shut_65 (tgt := 181) (by decide) (fun c => absurd c (by decide +kernel)) (fun c_65 => ?_)
      refine zr_iload hC dL_shut_68 rfl ?_
      refine zr_if_ge hC dL_shut_70 (tgt := 88) (by decide) (fun c => absurd c m4_nge) (fun c_70 => ?_)
      refine zr_aload_n hC dL_shut_73 rfl ?_
      refine zr_iload hC dL_shut_74 rfl ?_
      refine zk_iconst hC dL_shut_76 (v := nI 2) (by decide +kernel) ?_
      refine zs_callV hC (b := 0) [_, _] [] dL_shut_77 ml_L_78 mtX8_node tX8_node (by decide) (by decide) (by decide) rfl rfl (by decide) (by decide +kernel) (Nat.le_of_ble_eq_true rfl) rfl ?_
      refine ⟨G, _, _, rfl, hc, hg, fun S hc _ => ?_⟩
      rw [fnod2 h1 (by omega), if_pos hv]
      dsimp only [Option.toList, List.cons_append, List.nil_append]
      refine zk_bipush hC dL_shut_80 (v := (-4)) (by decide +kernel) ?_
      refine zr_icmp_ne hC dL_shut_82 (tgt := 181) (by decide) (fun c => absurd c (not_not_intro rfl)) (fun c_82 => ?_)
      refine zr_goto hC dL_shut_85 (tgt := 177) (by decide) ?_
      refine zk_iconst hC dL_shut_177 (v := nI 1) (by decide +kernel) ?_
      refine zr_goto hC dL_shut_178 (tgt := 182) (by decide) ?_
      refine zr_istore_n hC dL_shut_182 (by decide) ?_
      refine zn_iinc hC dL_shut_183 rfl (by decide) (zk_inc _ 1) ?_
      refine zr_goto hC dL_shut_186 (tgt := 16) (by decide) ?_
      exact zR_sub [(0, .ref 0), (1, .int (nI e)), (2, .int (nI 1)), (3, .int (nI (zan 65535 (sm (G.1 0) 1)))), (4, .int (nI (i + 1)))] ⟨rfl, rfl, rfl, rfl, rfl, trivial⟩ (ih (i + 1) S (by omega) (by omega) hc)
    · obtain ⟨⟨d1, d2, d3, d4⟩, d5, d6, d7⟩ := sh_v hw h1 (by omega) hv
      refine zr_iload hC dL_shut_16 rfl ?_
      refine zk_bipush hC dL_shut_18 (v := nI 32) (by decide +kernel) ?_
      refine zr_icmp_ge hC dL_shut_20 (tgt := 189) (by decide) (fun c => absurd c (nI_ge (by omega) (by omega))) (fun c_20 => ?_)
      refine zr_iload_n hC dL_shut_23 rfl ?_
      refine zr_if_eq hC dL_shut_24 (tgt := 189) (by decide) (fun c => absurd c (by decide +kernel)) (fun c_24 => ?_)
      refine zr_aload_n hC dL_shut_27 rfl ?_
      refine zr_iload hC dL_shut_28 rfl ?_
      refine zk_iconst hC dL_shut_30 (v := nI 0) (by decide +kernel) ?_
      refine zs_callV hC (b := 0) [_, _] [] dL_shut_31 ml_L_78 mtX8_node tX8_node (by decide) (by decide) (by decide) rfl rfl (by decide) (by decide +kernel) (Nat.le_of_ble_eq_true rfl) rfl ?_
      refine ⟨G, _, _, rfl, hc, hg, fun S hc _ => ?_⟩
      rw [fnod0 h1 (by omega), d4]
      dsimp only [Option.toList, List.cons_append, List.nil_append]
      refine zr_istore hC dL_shut_34 (by decide) ?_
      refine zr_aload_n hC dL_shut_36 rfl ?_
      refine zr_iload hC dL_shut_37 rfl ?_
      refine zk_iconst hC dL_shut_39 (v := nI 1) (by decide +kernel) ?_
      refine zs_callV hC (b := 0) [_, _] [] dL_shut_40 ml_L_78 mtX8_node tX8_node (by decide) (by decide) (by decide) rfl rfl (by decide) (by decide +kernel) (Nat.le_of_ble_eq_true rfl) rfl ?_
      refine ⟨G, _, _, rfl, hc, hg, fun S hc _ => ?_⟩
      rw [fnod1 h1 (by omega)]
      dsimp only [Option.toList, List.cons_append, List.nil_append]
      refine zr_istore hC dL_shut_43 (by decide) ?_
      refine zr_iload hC dL_shut_45 rfl ?_
      refine zr_if_ge hC dL_shut_47 (tgt := 54) (by decide) (fun c_47 => ?_) (fun c => absurd c (not_not_intro (nI_pos' (by omega))))
      refine zk_iconst hC dL_shut_54 (v := nI 0) (by decide +kernel) ?_
      refine zr_iload hC dL_shut_55 rfl ?_
      refine zr_if_ne hC dL_shut_57 (tgt := 64) (by decide) (fun c_57 => ?_) (fun c => absurd c (nI_ne0 (by omega) (by have := sm_lt (G.1 0) i; omega)))
      refine zk_iconst hC dL_shut_64 (v := nI 0) (by decide +kernel) ?_
      refine zr_icmp_ne hC dL_shut_65 (tgt := 181) (by decide) (fun c => absurd c (by decide +kernel)) (fun c_65 => ?_)
      refine zr_iload hC dL_shut_68 rfl ?_
      refine zr_if_ge hC dL_shut_70 (tgt := 88) (by decide) (fun c_70 => ?_) (fun c => absurd c (not_not_intro (nI_pos' (by omega))))
      refine zr_aload_n hC dL_shut_88 rfl ?_
      refine zr_iload hC dL_shut_89 rfl ?_
      refine zk_iconst hC dL_shut_91 (v := nI 2) (by decide +kernel) ?_
      refine zs_callV hC (b := 0) [_, _] [] dL_shut_92 ml_L_78 mtX8_node tX8_node (by decide) (by decide) (by decide) rfl rfl (by decide) (by decide +kernel) (Nat.le_of_ble_eq_true rfl) rfl ?_
      refine ⟨G, _, _, rfl, hc, hg, fun S hc _ => ?_⟩
      rw [fnod2 h1 (by omega), if_neg hv, d3]
      dsimp only [Option.toList, List.cons_append, List.nil_append]
      refine zr_iload hC dL_shut_95 rfl ?_
      refine zr_icmp_ne hC dL_shut_97 (tgt := 181) (by decide) (fun c => absurd c (not_not_intro rfl)) (fun c_97 => ?_)
      refine zr_aload_n hC dL_shut_100 rfl ?_
      refine zr_iload hC dL_shut_101 rfl ?_
      refine zk_iconst hC dL_shut_103 (v := nI 0) (by decide +kernel) ?_
      refine zs_callV hC (b := 0) [_, _] [] dL_shut_104 ml_L_63 mtX8_key tX8_key (by decide) (by decide) (by decide) rfl rfl (by decide) (by decide +kernel) (Nat.le_of_ble_eq_true rfl) rfl ?_
      refine ⟨G, _, _, rfl, hc, hg, fun S hc _ => ?_⟩
      rw [fkey0 hg d1, d2]
      dsimp only [Option.toList, List.cons_append, List.nil_append]
      refine zr_iload hC dL_shut_107 rfl ?_
      refine zr_icmp_ne hC dL_shut_109 (tgt := 181) (by decide) (fun c => absurd c (not_not_intro rfl)) (fun c_109 => ?_)
      refine zr_aload_n hC dL_shut_112 rfl ?_
      refine zr_iload hC dL_shut_113 rfl ?_
      refine zk_iconst hC dL_shut_115 (v := nI 2) (by decide +kernel) ?_
      refine zs_callV hC (b := 0) [_, _] [] dL_shut_116 ml_L_63 mtX8_key tX8_key (by decide) (by decide) (by decide) rfl rfl (by decide) (by decide +kernel) (Nat.le_of_ble_eq_true rfl) rfl ?_
      refine ⟨G, _, _, rfl, hc, hg, fun S hc _ => ?_⟩
      rw [fkey2 hg d1, d2, if_pos d4]
      dsimp only [Option.toList, List.cons_append, List.nil_append]
      refine zk_iconst hC dL_shut_119 (v := nI 1) (by decide +kernel) ?_
      refine zr_icmp_ne hC dL_shut_120 (tgt := 181) (by decide) (fun c => absurd c (by decide +kernel)) (fun c_120 => ?_)
      refine zr_aload_n hC dL_shut_123 rfl ?_
      refine zr_iload hC dL_shut_124 rfl ?_
      refine zk_iconst hC dL_shut_126 (v := nI 3) (by decide +kernel) ?_
      refine zs_callV hC (b := 0) [_, _] [] dL_shut_127 ml_L_63 mtX8_key tX8_key (by decide) (by decide) (by decide) rfl rfl (by decide) (by decide +kernel) (Nat.le_of_ble_eq_true rfl) rfl ?_
      refine ⟨G, _, _, rfl, hc, hg, fun S hc _ => ?_⟩
      rw [fkey3 hg d1, d3]
      dsimp only [Option.toList, List.cons_append, List.nil_append]
      refine zr_iload hC dL_shut_130 rfl ?_
      refine zr_icmp_ne hC dL_shut_132 (tgt := 181) (by decide) (fun c => absurd c (not_not_intro rfl)) (fun c_132 => ?_)
      refine zr_aload_n hC dL_shut_135 rfl ?_
      refine zr_iload_n hC dL_shut_136 rfl ?_
      refine zr_iload hC dL_shut_137 rfl ?_
      refine zs_callV hC (b := 0) [_, _] [] dL_shut_139 ml_L_95 mtX8_opens tX8_opens (by decide) (by decide) (by decide) rfl rfl (by decide) (by decide +kernel) (Nat.le_of_ble_eq_true rfl) rfl ?_
      refine ⟨G, _, _, rfl, hc, hg, fun S hc _ => ?_⟩
      rw [fopn hg (zan_16 _) d1, d5, show zb false = nI 0 from rfl]
      dsimp only [Option.toList, List.cons_append, List.nil_append]
      refine zr_if_ne hC dL_shut_142 (tgt := 181) (by decide) (fun c => absurd c (by decide +kernel)) (fun c_142 => ?_)
      refine zr_aload_n hC dL_shut_145 rfl ?_
      refine zr_ldc hC dL_shut_146 kc_L_94 ?_
      refine zr_iload hC dL_shut_148 rfl ?_
      refine zk_iconst hC dL_shut_150 (v := (-1)) (by decide +kernel) ?_
      refine zr_ixor hC dL_shut_151 ?_
      refine zn_iand hC dL_shut_152 (z_andn _ _) ?_
      refine zr_iload hC dL_shut_153 rfl ?_
      refine zs_callV hC (b := 0) [_, _] [] dL_shut_155 ml_L_95 mtX8_opens tX8_opens (by decide) (by decide) (by decide) rfl rfl (by decide) (by decide +kernel) (Nat.le_of_ble_eq_true rfl) rfl ?_
      refine ⟨G, _, _, rfl, hc, hg, fun S hc _ => ?_⟩
      rw [fopn hg (zan_16 _) d1, d6, show zb false = nI 0 from rfl]
      dsimp only [Option.toList, List.cons_append, List.nil_append]
      refine zr_if_ne hC dL_shut_158 (tgt := 181) (by decide) (fun c => absurd c (by decide +kernel)) (fun c_158 => ?_)
      refine zr_aload_n hC dL_shut_161 rfl ?_
      refine zr_iload hC dL_shut_162 rfl ?_
      refine zr_iload hC dL_shut_164 rfl ?_
      refine zr_ineg hC dL_shut_166 ?_
      refine zn_iand hC dL_shut_167 (z_andneg hv (sm_lt _ _)) ?_
      refine zr_iload hC dL_shut_168 rfl ?_
      refine zs_callV hC (b := 0) [_, _] [] dL_shut_170 ml_L_95 mtX8_opens tX8_opens (by decide) (by decide) (by decide) rfl rfl (by decide) (by decide +kernel) (Nat.le_of_ble_eq_true rfl) rfl ?_
      refine ⟨G, _, _, rfl, hc, hg, fun S hc _ => ?_⟩
      rw [fopn hg (zan_16b _ (sm_lt _ _)) d1, d7, show zb true = nI 1 from rfl]
      dsimp only [Option.toList, List.cons_append, List.nil_append]
      refine zk_iconst hC dL_shut_173 (v := nI 1) (by decide +kernel) ?_
      refine zr_icmp_ne hC dL_shut_174 (tgt := 181) (by decide) (fun c => absurd c (by decide +kernel)) (fun c_174 => ?_)
      refine zk_iconst hC dL_shut_177 (v := nI 1) (by decide +kernel) ?_
      refine zr_goto hC dL_shut_178 (tgt := 182) (by decide) ?_
      refine zr_istore_n hC dL_shut_182 (by decide) ?_
      refine zn_iinc hC dL_shut_183 rfl (by decide) (zk_inc _ 1) ?_
      refine zr_goto hC dL_shut_186 (tgt := 16) (by decide) ?_
      exact zR_sub [(0, .ref 0), (1, .int (nI e)), (2, .int (nI 1)), (3, .int (nI (zan 65535 (sm (G.1 0) 1)))), (4, .int (nI (i + 1)))] ⟨rfl, rfl, rfl, rfl, rfl, trivial⟩ (ih (i + 1) S (by omega) (by omega) hc)
set_option maxHeartbeats 1000000 in
set_option maxRecDepth 100000 in
theorem lL_sh2 {C : zCx} {τ : Nat → ClassId} {ι : Nat → Nat} (hC : zOK C τ (zrm 5 0 0) yL_shut.cls cL_shut 7) {G : zG} {e : Nat} (he : e < 65536) (hg : GI G) (hw : WS G.1) (hev : EV G.1 e) (k : ∀ S lv, CG S G → zsub lv [(0, .ref 0), (2, .int (nI 1))] → zR C τ ι 7 0 0 382 lv [] (zcells S)) : ∀ (n i : Nat) (S : zS), i + n = 16 → CG S G → zR C τ ι 7 0 0 192 [(0, .ref 0), (1, .int (nI e)), (2, .int (nI 1)), (4, .int (nI i))] [] (zcells S) := by
  intro n
  induction n with
  | zero =>
    intro i S hi hc
    refine zr_iload hC dL_shut_192 rfl ?_
    refine zk_bipush hC dL_shut_194 (v := nI 16) (by decide +kernel) ?_
    refine zr_icmp_ge hC dL_shut_196 (tgt := 382) (by decide) (fun c_196 => ?_) (fun c => absurd c (not_not_intro (nI_le (by omega) (by omega))))
    exact k S _ hc ⟨rfl, rfl, trivial⟩
  | succ n ih =>
    intro i S hi hc
    have hm : i < 16 := (by omega)
    have hb1 := hg.1.made
    have hb2 := hby_lt32 (D := G.1) (m := i) (G.1 6 0)
    cases hb : e.testBit i with
    | false =>
      by_cases h0 : G.1 0 i = 0
      · by_cases hk0 : G.1 6 0 = 0
        · have hs0 := sm_0 (no_keys hg.1 hk0) 1
          have hz : hby G.1 i (G.1 6 0) = 0 := by rw [hk0]; rfl
          refine zr_iload hC dL_shut_192 rfl ?_
          refine zk_bipush hC dL_shut_194 (v := nI 16) (by decide +kernel) ?_
          refine zr_icmp_ge hC dL_shut_196 (tgt := 382) (by decide) (fun c => absurd c (nI_ge (by omega) (by omega))) (fun c_196 => ?_)
          refine zr_iload_n hC dL_shut_199 rfl ?_
          refine zr_if_eq hC dL_shut_200 (tgt := 382) (by decide) (fun c => absurd c (by decide +kernel)) (fun c_200 => ?_)
          refine zr_aload_n hC dL_shut_203 rfl ?_
          refine zk_iconst hC dL_shut_204 (v := nI 0) (by decide +kernel) ?_
          refine zs_callV hC (b := 0) [_] [] dL_shut_205 ml_L_37 mtX8_count tX8_count (by decide) (by decide) (by decide) rfl rfl (by decide) (by decide +kernel) (Nat.le_of_ble_eq_true rfl) rfl ?_
          refine ⟨G, _, rfl, hc, hg, fun S hc _ => ?_⟩
          rw [fc_0]
          dsimp only [Option.toList, List.cons_append, List.nil_append]
          refine zr_iload hC dL_shut_208 rfl ?_
          refine zs_callS hC [_, _] [] dL_shut_210 ml_L_84 mtL_has tL_has (by decide) (by decide) (by decide) rfl (Nat.le_of_ble_eq_true rfl) rfl ?_
          refine ⟨_, i, rfl, sm_lt _ _, hm, ?_⟩
          rw [gs0 hm h0]
          dsimp only [Option.toList, List.cons_append, List.nil_append]
          refine zr_istore hC dL_shut_213 (by decide) ?_
          refine zr_aload_n hC dL_shut_215 rfl ?_
          refine zr_iload hC dL_shut_216 rfl ?_
          refine zk_iconst hC dL_shut_218 (v := nI 0) (by decide +kernel) ?_
          refine zs_callV hC (b := 0) [_, _] [] dL_shut_219 ml_L_91 mtX8_member tX8_member (by decide) (by decide) (by decide) rfl rfl (by decide) (by decide +kernel) (Nat.le_of_ble_eq_true rfl) rfl ?_
          refine ⟨G, _, _, rfl, hc, hg, fun S hc _ => ?_⟩
          rw [fmem0 hm, if_neg (fun z => z h0)]
          dsimp only [Option.toList, List.cons_append, List.nil_append]
          refine zr_istore hC dL_shut_222 (by decide) ?_
          refine zr_iload hC dL_shut_224 rfl ?_
          refine zr_iload hC dL_shut_226 rfl ?_
          refine zk_bipush hC dL_shut_228 (v := nI 16) (by decide +kernel) ?_
          refine zr_icmp_lt hC dL_shut_230 (tgt := 237) (by decide) (fun c_230 => ?_) (fun c => absurd c (not_not_intro m4_lt16))
          refine zk_iconst hC dL_shut_237 (v := nI 0) (by decide +kernel) ?_
          refine zr_icmp_ne hC dL_shut_238 (tgt := 374) (by decide) (fun c => absurd c (by decide +kernel)) (fun c_238 => ?_)
          refine zr_iload hC dL_shut_241 rfl ?_
          refine zr_if_eq hC dL_shut_243 (tgt := 281) (by decide) (fun c_243 => ?_) (fun c => absurd c (by decide +kernel))
          refine zr_iload hC dL_shut_281 rfl ?_
          refine zr_if_ne hC dL_shut_283 (tgt := 311) (by decide) (fun c => absurd c (by decide +kernel)) (fun c_283 => ?_)
          refine zr_iload hC dL_shut_286 rfl ?_
          refine zk_bipush hC dL_shut_288 (v := (-4)) (by decide +kernel) ?_
          refine zr_icmp_ne hC dL_shut_290 (tgt := 374) (by decide) (fun c => absurd c (not_not_intro rfl)) (fun c_290 => ?_)
          refine zr_aload_n hC dL_shut_293 rfl ?_
          refine zr_iload hC dL_shut_294 rfl ?_
          refine zk_iconst hC dL_shut_296 (v := nI 2) (by decide +kernel) ?_
          refine zs_callV hC (b := 0) [_, _] [] dL_shut_297 ml_L_91 mtX8_member tX8_member (by decide) (by decide) (by decide) rfl rfl (by decide) (by decide +kernel) (Nat.le_of_ble_eq_true rfl) rfl ?_
          refine ⟨G, _, _, rfl, hc, hg, fun S hc _ => ?_⟩
          rw [fmem2 hm, if_pos hs0]
          dsimp only [Option.toList, List.cons_append, List.nil_append]
          refine zr_if_eq hC dL_shut_300 (tgt := 311) (by decide) (fun c => absurd c m4_ne0) (fun c_300 => ?_)
          refine zr_aload_n hC dL_shut_303 rfl ?_
          refine zk_iconst hC dL_shut_304 (v := nI 0) (by decide +kernel) ?_
          refine zs_callV hC (b := 0) [_] [] dL_shut_305 ml_L_37 mtX8_count tX8_count (by decide) (by decide) (by decide) rfl rfl (by decide) (by decide +kernel) (Nat.le_of_ble_eq_true rfl) rfl ?_
          refine ⟨G, _, rfl, hc, hg, fun S hc _ => ?_⟩
          rw [fc_0, hs0]
          dsimp only [Option.toList, List.cons_append, List.nil_append]
          refine zr_if_ne hC dL_shut_308 (tgt := 374) (by decide) (fun c => absurd c (by decide +kernel)) (fun c_308 => ?_)
          refine zr_aload_n hC dL_shut_311 rfl ?_
          refine zr_iload hC dL_shut_312 rfl ?_
          refine zk_iconst hC dL_shut_314 (v := nI 1) (by decide +kernel) ?_
          refine zs_callV hC (b := 0) [_, _] [] dL_shut_315 ml_L_91 mtX8_member tX8_member (by decide) (by decide) (by decide) rfl rfl (by decide) (by decide +kernel) (Nat.le_of_ble_eq_true rfl) rfl ?_
          refine ⟨G, _, _, rfl, hc, hg, fun S hc _ => ?_⟩
          rw [fmem1 hm, hz]
          dsimp only [Option.toList, List.cons_append, List.nil_append]
          refine zr_if_ne hC dL_shut_318 (tgt := 325) (by decide) (fun c => absurd c (by decide +kernel)) (fun c_318 => ?_)
          refine zk_iconst hC dL_shut_321 (v := nI 1) (by decide +kernel) ?_
          refine zr_goto hC dL_shut_322 (tgt := 326) (by decide) ?_
          refine zr_iload_n hC dL_shut_326 rfl ?_
          refine zr_iload hC dL_shut_327 rfl ?_
          refine zs_callS hC [_, _] [_] dL_shut_329 ml_L_84 mtL_has tL_has (by decide) (by decide) (by decide) rfl (Nat.le_of_ble_eq_true rfl) rfl ?_
          refine ⟨e, i, rfl, he, hm, ?_⟩
          rw [hb, show zb false = nI 0 from rfl]
          dsimp only [Option.toList, List.cons_append, List.nil_append]
          refine zr_if_ne hC dL_shut_332 (tgt := 344) (by decide) (fun c => absurd c (by decide +kernel)) (fun c_332 => ?_)
          refine zr_iload hC dL_shut_335 rfl ?_
          refine zr_if_ne hC dL_shut_337 (tgt := 344) (by decide) (fun c => absurd c (by decide +kernel)) (fun c_337 => ?_)
          refine zk_iconst hC dL_shut_340 (v := nI 1) (by decide +kernel) ?_
          refine zr_goto hC dL_shut_341 (tgt := 345) (by decide) ?_
          refine zr_icmp_ne hC dL_shut_345 (tgt := 352) (by decide) (fun c => absurd c (by decide +kernel)) (fun c_345 => ?_)
          refine zk_iconst hC dL_shut_348 (v := nI 1) (by decide +kernel) ?_
          refine zr_goto hC dL_shut_349 (tgt := 353) (by decide) ?_
          refine zr_aload_n hC dL_shut_353 rfl ?_
          refine zk_iconst hC dL_shut_354 (v := nI 4) (by decide +kernel) ?_
          refine zs_callV hC (b := 0) [_] [_] dL_shut_355 ml_L_37 mtX8_count tX8_count (by decide) (by decide) (by decide) rfl rfl (by decide) (by decide +kernel) (Nat.le_of_ble_eq_true rfl) rfl ?_
          refine ⟨G, _, rfl, hc, hg, fun S hc _ => ?_⟩
          rw [fc_4, hk0]
          dsimp only [Option.toList, List.cons_append, List.nil_append]
          refine zr_if_ne hC dL_shut_358 (tgt := 365) (by decide) (fun c => absurd c (by decide +kernel)) (fun c_358 => ?_)
          refine zk_iconst hC dL_shut_361 (v := nI 1) (by decide +kernel) ?_
          refine zr_goto hC dL_shut_362 (tgt := 366) (by decide) ?_
          refine zn_ior hC dL_shut_366 (v := nI 1) (by decide +kernel) ?_
          refine zr_if_eq hC dL_shut_367 (tgt := 374) (by decide) (fun c => absurd c (by decide +kernel)) (fun c_367 => ?_)
          refine zk_iconst hC dL_shut_370 (v := nI 1) (by decide +kernel) ?_
          refine zr_goto hC dL_shut_371 (tgt := 375) (by decide) ?_
          refine zr_istore_n hC dL_shut_375 (by decide) ?_
          refine zn_iinc hC dL_shut_376 rfl (by decide) (zk_inc _ 1) ?_
          refine zr_goto hC dL_shut_379 (tgt := 192) (by decide) ?_
          exact zR_sub [(0, .ref 0), (1, .int (nI e)), (2, .int (nI 1)), (4, .int (nI (i + 1)))] ⟨rfl, rfl, rfl, rfl, trivial⟩ (ih (i + 1) S (by omega) hc)
        · have hev := (hev hk0 i hm)
          have hz : hby G.1 i (G.1 6 0) = 0 := hev.mpr (fun z => z.elim (fun y => by rw [hb] at y; cases y) (fun y => y h0))
          by_cases hs0 : sm (G.1 0) 1 = 0
          · refine zr_iload hC dL_shut_192 rfl ?_
            refine zk_bipush hC dL_shut_194 (v := nI 16) (by decide +kernel) ?_
            refine zr_icmp_ge hC dL_shut_196 (tgt := 382) (by decide) (fun c => absurd c (nI_ge (by omega) (by omega))) (fun c_196 => ?_)
            refine zr_iload_n hC dL_shut_199 rfl ?_
            refine zr_if_eq hC dL_shut_200 (tgt := 382) (by decide) (fun c => absurd c (by decide +kernel)) (fun c_200 => ?_)
            refine zr_aload_n hC dL_shut_203 rfl ?_
            refine zk_iconst hC dL_shut_204 (v := nI 0) (by decide +kernel) ?_
            refine zs_callV hC (b := 0) [_] [] dL_shut_205 ml_L_37 mtX8_count tX8_count (by decide) (by decide) (by decide) rfl rfl (by decide) (by decide +kernel) (Nat.le_of_ble_eq_true rfl) rfl ?_
            refine ⟨G, _, rfl, hc, hg, fun S hc _ => ?_⟩
            rw [fc_0]
            dsimp only [Option.toList, List.cons_append, List.nil_append]
            refine zr_iload hC dL_shut_208 rfl ?_
            refine zs_callS hC [_, _] [] dL_shut_210 ml_L_84 mtL_has tL_has (by decide) (by decide) (by decide) rfl (Nat.le_of_ble_eq_true rfl) rfl ?_
            refine ⟨_, i, rfl, sm_lt _ _, hm, ?_⟩
            rw [gs0 hm h0]
            dsimp only [Option.toList, List.cons_append, List.nil_append]
            refine zr_istore hC dL_shut_213 (by decide) ?_
            refine zr_aload_n hC dL_shut_215 rfl ?_
            refine zr_iload hC dL_shut_216 rfl ?_
            refine zk_iconst hC dL_shut_218 (v := nI 0) (by decide +kernel) ?_
            refine zs_callV hC (b := 0) [_, _] [] dL_shut_219 ml_L_91 mtX8_member tX8_member (by decide) (by decide) (by decide) rfl rfl (by decide) (by decide +kernel) (Nat.le_of_ble_eq_true rfl) rfl ?_
            refine ⟨G, _, _, rfl, hc, hg, fun S hc _ => ?_⟩
            rw [fmem0 hm, if_neg (fun z => z h0)]
            dsimp only [Option.toList, List.cons_append, List.nil_append]
            refine zr_istore hC dL_shut_222 (by decide) ?_
            refine zr_iload hC dL_shut_224 rfl ?_
            refine zr_iload hC dL_shut_226 rfl ?_
            refine zk_bipush hC dL_shut_228 (v := nI 16) (by decide +kernel) ?_
            refine zr_icmp_lt hC dL_shut_230 (tgt := 237) (by decide) (fun c_230 => ?_) (fun c => absurd c (not_not_intro m4_lt16))
            refine zk_iconst hC dL_shut_237 (v := nI 0) (by decide +kernel) ?_
            refine zr_icmp_ne hC dL_shut_238 (tgt := 374) (by decide) (fun c => absurd c (by decide +kernel)) (fun c_238 => ?_)
            refine zr_iload hC dL_shut_241 rfl ?_
            refine zr_if_eq hC dL_shut_243 (tgt := 281) (by decide) (fun c_243 => ?_) (fun c => absurd c (by decide +kernel))
            refine zr_iload hC dL_shut_281 rfl ?_
            refine zr_if_ne hC dL_shut_283 (tgt := 311) (by decide) (fun c => absurd c (by decide +kernel)) (fun c_283 => ?_)
            refine zr_iload hC dL_shut_286 rfl ?_
            refine zk_bipush hC dL_shut_288 (v := (-4)) (by decide +kernel) ?_
            refine zr_icmp_ne hC dL_shut_290 (tgt := 374) (by decide) (fun c => absurd c (not_not_intro rfl)) (fun c_290 => ?_)
            refine zr_aload_n hC dL_shut_293 rfl ?_
            refine zr_iload hC dL_shut_294 rfl ?_
            refine zk_iconst hC dL_shut_296 (v := nI 2) (by decide +kernel) ?_
            refine zs_callV hC (b := 0) [_, _] [] dL_shut_297 ml_L_91 mtX8_member tX8_member (by decide) (by decide) (by decide) rfl rfl (by decide) (by decide +kernel) (Nat.le_of_ble_eq_true rfl) rfl ?_
            refine ⟨G, _, _, rfl, hc, hg, fun S hc _ => ?_⟩
            rw [fmem2 hm, if_pos hs0]
            dsimp only [Option.toList, List.cons_append, List.nil_append]
            refine zr_if_eq hC dL_shut_300 (tgt := 311) (by decide) (fun c => absurd c m4_ne0) (fun c_300 => ?_)
            refine zr_aload_n hC dL_shut_303 rfl ?_
            refine zk_iconst hC dL_shut_304 (v := nI 0) (by decide +kernel) ?_
            refine zs_callV hC (b := 0) [_] [] dL_shut_305 ml_L_37 mtX8_count tX8_count (by decide) (by decide) (by decide) rfl rfl (by decide) (by decide +kernel) (Nat.le_of_ble_eq_true rfl) rfl ?_
            refine ⟨G, _, rfl, hc, hg, fun S hc _ => ?_⟩
            rw [fc_0, hs0]
            dsimp only [Option.toList, List.cons_append, List.nil_append]
            refine zr_if_ne hC dL_shut_308 (tgt := 374) (by decide) (fun c => absurd c (by decide +kernel)) (fun c_308 => ?_)
            refine zr_aload_n hC dL_shut_311 rfl ?_
            refine zr_iload hC dL_shut_312 rfl ?_
            refine zk_iconst hC dL_shut_314 (v := nI 1) (by decide +kernel) ?_
            refine zs_callV hC (b := 0) [_, _] [] dL_shut_315 ml_L_91 mtX8_member tX8_member (by decide) (by decide) (by decide) rfl rfl (by decide) (by decide +kernel) (Nat.le_of_ble_eq_true rfl) rfl ?_
            refine ⟨G, _, _, rfl, hc, hg, fun S hc _ => ?_⟩
            rw [fmem1 hm, hz]
            dsimp only [Option.toList, List.cons_append, List.nil_append]
            refine zr_if_ne hC dL_shut_318 (tgt := 325) (by decide) (fun c => absurd c (by decide +kernel)) (fun c_318 => ?_)
            refine zk_iconst hC dL_shut_321 (v := nI 1) (by decide +kernel) ?_
            refine zr_goto hC dL_shut_322 (tgt := 326) (by decide) ?_
            refine zr_iload_n hC dL_shut_326 rfl ?_
            refine zr_iload hC dL_shut_327 rfl ?_
            refine zs_callS hC [_, _] [_] dL_shut_329 ml_L_84 mtL_has tL_has (by decide) (by decide) (by decide) rfl (Nat.le_of_ble_eq_true rfl) rfl ?_
            refine ⟨e, i, rfl, he, hm, ?_⟩
            rw [hb, show zb false = nI 0 from rfl]
            dsimp only [Option.toList, List.cons_append, List.nil_append]
            refine zr_if_ne hC dL_shut_332 (tgt := 344) (by decide) (fun c => absurd c (by decide +kernel)) (fun c_332 => ?_)
            refine zr_iload hC dL_shut_335 rfl ?_
            refine zr_if_ne hC dL_shut_337 (tgt := 344) (by decide) (fun c => absurd c (by decide +kernel)) (fun c_337 => ?_)
            refine zk_iconst hC dL_shut_340 (v := nI 1) (by decide +kernel) ?_
            refine zr_goto hC dL_shut_341 (tgt := 345) (by decide) ?_
            refine zr_icmp_ne hC dL_shut_345 (tgt := 352) (by decide) (fun c => absurd c (by decide +kernel)) (fun c_345 => ?_)
            refine zk_iconst hC dL_shut_348 (v := nI 1) (by decide +kernel) ?_
            refine zr_goto hC dL_shut_349 (tgt := 353) (by decide) ?_
            refine zr_aload_n hC dL_shut_353 rfl ?_
            refine zk_iconst hC dL_shut_354 (v := nI 4) (by decide +kernel) ?_
            refine zs_callV hC (b := 0) [_] [_] dL_shut_355 ml_L_37 mtX8_count tX8_count (by decide) (by decide) (by decide) rfl rfl (by decide) (by decide +kernel) (Nat.le_of_ble_eq_true rfl) rfl ?_
            refine ⟨G, _, rfl, hc, hg, fun S hc _ => ?_⟩
            rw [fc_4]
            dsimp only [Option.toList, List.cons_append, List.nil_append]
            refine zr_if_ne hC dL_shut_358 (tgt := 365) (by decide) (fun c_358 => ?_) (fun c => absurd c (nI_ne0 (by omega) (by omega)))
            refine zk_iconst hC dL_shut_365 (v := nI 0) (by decide +kernel) ?_
            refine zn_ior hC dL_shut_366 (v := nI 1) (by decide +kernel) ?_
            refine zr_if_eq hC dL_shut_367 (tgt := 374) (by decide) (fun c => absurd c (by decide +kernel)) (fun c_367 => ?_)
            refine zk_iconst hC dL_shut_370 (v := nI 1) (by decide +kernel) ?_
            refine zr_goto hC dL_shut_371 (tgt := 375) (by decide) ?_
            refine zr_istore_n hC dL_shut_375 (by decide) ?_
            refine zn_iinc hC dL_shut_376 rfl (by decide) (zk_inc _ 1) ?_
            refine zr_goto hC dL_shut_379 (tgt := 192) (by decide) ?_
            exact zR_sub [(0, .ref 0), (1, .int (nI e)), (2, .int (nI 1)), (4, .int (nI (i + 1)))] ⟨rfl, rfl, rfl, rfl, trivial⟩ (ih (i + 1) S (by omega) hc)
          · have hn0 : hd G.1 i (key G.1 1) = false := by
              cases q : hd G.1 i (key G.1 1) with
              | false => rfl
              | true =>
                obtain ⟨c1, c2⟩ := cur.key hg.1 (v := 1) (by decide) (by decide) hs0
                have := hw.2.1.1 _ c1 i hm q
                rw [c2, h0, show bn 0 1 = false from bnf_0 5 1] at this; cases this
            refine zr_iload hC dL_shut_192 rfl ?_
            refine zk_bipush hC dL_shut_194 (v := nI 16) (by decide +kernel) ?_
            refine zr_icmp_ge hC dL_shut_196 (tgt := 382) (by decide) (fun c => absurd c (nI_ge (by omega) (by omega))) (fun c_196 => ?_)
            refine zr_iload_n hC dL_shut_199 rfl ?_
            refine zr_if_eq hC dL_shut_200 (tgt := 382) (by decide) (fun c => absurd c (by decide +kernel)) (fun c_200 => ?_)
            refine zr_aload_n hC dL_shut_203 rfl ?_
            refine zk_iconst hC dL_shut_204 (v := nI 0) (by decide +kernel) ?_
            refine zs_callV hC (b := 0) [_] [] dL_shut_205 ml_L_37 mtX8_count tX8_count (by decide) (by decide) (by decide) rfl rfl (by decide) (by decide +kernel) (Nat.le_of_ble_eq_true rfl) rfl ?_
            refine ⟨G, _, rfl, hc, hg, fun S hc _ => ?_⟩
            rw [fc_0]
            dsimp only [Option.toList, List.cons_append, List.nil_append]
            refine zr_iload hC dL_shut_208 rfl ?_
            refine zs_callS hC [_, _] [] dL_shut_210 ml_L_84 mtL_has tL_has (by decide) (by decide) (by decide) rfl (Nat.le_of_ble_eq_true rfl) rfl ?_
            refine ⟨_, i, rfl, sm_lt _ _, hm, ?_⟩
            rw [gs0 hm h0]
            dsimp only [Option.toList, List.cons_append, List.nil_append]
            refine zr_istore hC dL_shut_213 (by decide) ?_
            refine zr_aload_n hC dL_shut_215 rfl ?_
            refine zr_iload hC dL_shut_216 rfl ?_
            refine zk_iconst hC dL_shut_218 (v := nI 0) (by decide +kernel) ?_
            refine zs_callV hC (b := 0) [_, _] [] dL_shut_219 ml_L_91 mtX8_member tX8_member (by decide) (by decide) (by decide) rfl rfl (by decide) (by decide +kernel) (Nat.le_of_ble_eq_true rfl) rfl ?_
            refine ⟨G, _, _, rfl, hc, hg, fun S hc _ => ?_⟩
            rw [fmem0 hm, if_neg (fun z => z h0)]
            dsimp only [Option.toList, List.cons_append, List.nil_append]
            refine zr_istore hC dL_shut_222 (by decide) ?_
            refine zr_iload hC dL_shut_224 rfl ?_
            refine zr_iload hC dL_shut_226 rfl ?_
            refine zk_bipush hC dL_shut_228 (v := nI 16) (by decide +kernel) ?_
            refine zr_icmp_lt hC dL_shut_230 (tgt := 237) (by decide) (fun c_230 => ?_) (fun c => absurd c (not_not_intro m4_lt16))
            refine zk_iconst hC dL_shut_237 (v := nI 0) (by decide +kernel) ?_
            refine zr_icmp_ne hC dL_shut_238 (tgt := 374) (by decide) (fun c => absurd c (by decide +kernel)) (fun c_238 => ?_)
            refine zr_iload hC dL_shut_241 rfl ?_
            refine zr_if_eq hC dL_shut_243 (tgt := 281) (by decide) (fun c_243 => ?_) (fun c => absurd c (by decide +kernel))
            refine zr_iload hC dL_shut_281 rfl ?_
            refine zr_if_ne hC dL_shut_283 (tgt := 311) (by decide) (fun c => absurd c (by decide +kernel)) (fun c_283 => ?_)
            refine zr_iload hC dL_shut_286 rfl ?_
            refine zk_bipush hC dL_shut_288 (v := (-4)) (by decide +kernel) ?_
            refine zr_icmp_ne hC dL_shut_290 (tgt := 374) (by decide) (fun c => absurd c (not_not_intro rfl)) (fun c_290 => ?_)
            refine zr_aload_n hC dL_shut_293 rfl ?_
            refine zr_iload hC dL_shut_294 rfl ?_
            refine zk_iconst hC dL_shut_296 (v := nI 2) (by decide +kernel) ?_
            refine zs_callV hC (b := 0) [_, _] [] dL_shut_297 ml_L_91 mtX8_member tX8_member (by decide) (by decide) (by decide) rfl rfl (by decide) (by decide +kernel) (Nat.le_of_ble_eq_true rfl) rfl ?_
            refine ⟨G, _, _, rfl, hc, hg, fun S hc _ => ?_⟩
            rw [fmem2 hm, if_neg hs0, hn0, show zb false = nI 0 from rfl]
            dsimp only [Option.toList, List.cons_append, List.nil_append]
            refine zr_if_eq hC dL_shut_300 (tgt := 311) (by decide) (fun c_300 => ?_) (fun c => absurd c (by decide +kernel))
            refine zr_aload_n hC dL_shut_311 rfl ?_
            refine zr_iload hC dL_shut_312 rfl ?_
            refine zk_iconst hC dL_shut_314 (v := nI 1) (by decide +kernel) ?_
            refine zs_callV hC (b := 0) [_, _] [] dL_shut_315 ml_L_91 mtX8_member tX8_member (by decide) (by decide) (by decide) rfl rfl (by decide) (by decide +kernel) (Nat.le_of_ble_eq_true rfl) rfl ?_
            refine ⟨G, _, _, rfl, hc, hg, fun S hc _ => ?_⟩
            rw [fmem1 hm, hz]
            dsimp only [Option.toList, List.cons_append, List.nil_append]
            refine zr_if_ne hC dL_shut_318 (tgt := 325) (by decide) (fun c => absurd c (by decide +kernel)) (fun c_318 => ?_)
            refine zk_iconst hC dL_shut_321 (v := nI 1) (by decide +kernel) ?_
            refine zr_goto hC dL_shut_322 (tgt := 326) (by decide) ?_
            refine zr_iload_n hC dL_shut_326 rfl ?_
            refine zr_iload hC dL_shut_327 rfl ?_
            refine zs_callS hC [_, _] [_] dL_shut_329 ml_L_84 mtL_has tL_has (by decide) (by decide) (by decide) rfl (Nat.le_of_ble_eq_true rfl) rfl ?_
            refine ⟨e, i, rfl, he, hm, ?_⟩
            rw [hb, show zb false = nI 0 from rfl]
            dsimp only [Option.toList, List.cons_append, List.nil_append]
            refine zr_if_ne hC dL_shut_332 (tgt := 344) (by decide) (fun c => absurd c (by decide +kernel)) (fun c_332 => ?_)
            refine zr_iload hC dL_shut_335 rfl ?_
            refine zr_if_ne hC dL_shut_337 (tgt := 344) (by decide) (fun c => absurd c (by decide +kernel)) (fun c_337 => ?_)
            refine zk_iconst hC dL_shut_340 (v := nI 1) (by decide +kernel) ?_
            refine zr_goto hC dL_shut_341 (tgt := 345) (by decide) ?_
            refine zr_icmp_ne hC dL_shut_345 (tgt := 352) (by decide) (fun c => absurd c (by decide +kernel)) (fun c_345 => ?_)
            refine zk_iconst hC dL_shut_348 (v := nI 1) (by decide +kernel) ?_
            refine zr_goto hC dL_shut_349 (tgt := 353) (by decide) ?_
            refine zr_aload_n hC dL_shut_353 rfl ?_
            refine zk_iconst hC dL_shut_354 (v := nI 4) (by decide +kernel) ?_
            refine zs_callV hC (b := 0) [_] [_] dL_shut_355 ml_L_37 mtX8_count tX8_count (by decide) (by decide) (by decide) rfl rfl (by decide) (by decide +kernel) (Nat.le_of_ble_eq_true rfl) rfl ?_
            refine ⟨G, _, rfl, hc, hg, fun S hc _ => ?_⟩
            rw [fc_4]
            dsimp only [Option.toList, List.cons_append, List.nil_append]
            refine zr_if_ne hC dL_shut_358 (tgt := 365) (by decide) (fun c_358 => ?_) (fun c => absurd c (nI_ne0 (by omega) (by omega)))
            refine zk_iconst hC dL_shut_365 (v := nI 0) (by decide +kernel) ?_
            refine zn_ior hC dL_shut_366 (v := nI 1) (by decide +kernel) ?_
            refine zr_if_eq hC dL_shut_367 (tgt := 374) (by decide) (fun c => absurd c (by decide +kernel)) (fun c_367 => ?_)
            refine zk_iconst hC dL_shut_370 (v := nI 1) (by decide +kernel) ?_
            refine zr_goto hC dL_shut_371 (tgt := 375) (by decide) ?_
            refine zr_istore_n hC dL_shut_375 (by decide) ?_
            refine zn_iinc hC dL_shut_376 rfl (by decide) (zk_inc _ 1) ?_
            refine zr_goto hC dL_shut_379 (tgt := 192) (by decide) ?_
            exact zR_sub [(0, .ref 0), (1, .int (nI e)), (2, .int (nI 1)), (4, .int (nI (i + 1)))] ⟨rfl, rfl, rfl, rfl, trivial⟩ (ih (i + 1) S (by omega) hc)
      · have hl := hg.1.leaf hm
        have hk0 : G.1 6 0 ≠ 0 := fun z => h0 (no_keys hg.1 z i hm)
        have hz : hby G.1 i (G.1 6 0) ≠ 0 := fun z => (hev hk0 i hm).mp z (Or.inr h0)
        refine zr_iload hC dL_shut_192 rfl ?_
        refine zk_bipush hC dL_shut_194 (v := nI 16) (by decide +kernel) ?_
        refine zr_icmp_ge hC dL_shut_196 (tgt := 382) (by decide) (fun c => absurd c (nI_ge (by omega) (by omega))) (fun c_196 => ?_)
        refine zr_iload_n hC dL_shut_199 rfl ?_
        refine zr_if_eq hC dL_shut_200 (tgt := 382) (by decide) (fun c => absurd c (by decide +kernel)) (fun c_200 => ?_)
        refine zr_aload_n hC dL_shut_203 rfl ?_
        refine zk_iconst hC dL_shut_204 (v := nI 0) (by decide +kernel) ?_
        refine zs_callV hC (b := 0) [_] [] dL_shut_205 ml_L_37 mtX8_count tX8_count (by decide) (by decide) (by decide) rfl rfl (by decide) (by decide +kernel) (Nat.le_of_ble_eq_true rfl) rfl ?_
        refine ⟨G, _, rfl, hc, hg, fun S hc _ => ?_⟩
        rw [fc_0]
        dsimp only [Option.toList, List.cons_append, List.nil_append]
        refine zr_iload hC dL_shut_208 rfl ?_
        refine zs_callS hC [_, _] [] dL_shut_210 ml_L_84 mtL_has tL_has (by decide) (by decide) (by decide) rfl (Nat.le_of_ble_eq_true rfl) rfl ?_
        refine ⟨_, i, rfl, sm_lt _ _, hm, ?_⟩
        rw [gs1 hg.1 hm h0]
        dsimp only [Option.toList, List.cons_append, List.nil_append]
        refine zr_istore hC dL_shut_213 (by decide) ?_
        refine zr_aload_n hC dL_shut_215 rfl ?_
        refine zr_iload hC dL_shut_216 rfl ?_
        refine zk_iconst hC dL_shut_218 (v := nI 0) (by decide +kernel) ?_
        refine zs_callV hC (b := 0) [_, _] [] dL_shut_219 ml_L_91 mtX8_member tX8_member (by decide) (by decide) (by decide) rfl rfl (by decide) (by decide +kernel) (Nat.le_of_ble_eq_true rfl) rfl ?_
        refine ⟨G, _, _, rfl, hc, hg, fun S hc _ => ?_⟩
        rw [fmem0 hm, if_pos h0]
        dsimp only [Option.toList, List.cons_append, List.nil_append]
        refine zr_istore hC dL_shut_222 (by decide) ?_
        refine zr_iload hC dL_shut_224 rfl ?_
        refine zr_iload hC dL_shut_226 rfl ?_
        refine zk_bipush hC dL_shut_228 (v := nI 16) (by decide +kernel) ?_
        refine zr_icmp_lt hC dL_shut_230 (tgt := 237) (by decide) (fun c => absurd c (nI_nlt (by omega) (by omega))) (fun c_230 => ?_)
        refine zk_iconst hC dL_shut_233 (v := nI 1) (by decide +kernel) ?_
        refine zr_goto hC dL_shut_234 (tgt := 238) (by decide) ?_
        refine zr_icmp_ne hC dL_shut_238 (tgt := 374) (by decide) (fun c => absurd c (by decide +kernel)) (fun c_238 => ?_)
        refine zr_iload hC dL_shut_241 rfl ?_
        refine zr_if_eq hC dL_shut_243 (tgt := 281) (by decide) (fun c => absurd c (by decide +kernel)) (fun c_243 => ?_)
        refine zr_aload_n hC dL_shut_246 rfl ?_
        refine zr_iload hC dL_shut_247 rfl ?_
        refine zk_iconst hC dL_shut_249 (v := nI 1) (by decide +kernel) ?_
        refine zs_callV hC (b := 0) [_, _] [] dL_shut_250 ml_L_78 mtX8_node tX8_node (by decide) (by decide) (by decide) rfl rfl (by decide) (by decide +kernel) (Nat.le_of_ble_eq_true rfl) rfl ?_
        refine ⟨G, _, _, rfl, hc, hg, fun S hc _ => ?_⟩
        rw [fnod1 (by omega) (by omega), sm_leaf hg.1 hm h0]
        dsimp only [Option.toList, List.cons_append, List.nil_append]
        refine zk_iconst hC dL_shut_253 (v := nI 1) (by decide +kernel) ?_
        refine zr_iload hC dL_shut_254 rfl ?_
        refine zn_ishl hC dL_shut_256 (z_shl1 i (by omega)) ?_
        refine zr_icmp_ne hC dL_shut_257 (tgt := 374) (by decide) (fun c => absurd c (not_not_intro rfl)) (fun c_257 => ?_)
        refine zr_aload_n hC dL_shut_260 rfl ?_
        refine zr_iload hC dL_shut_261 rfl ?_
        refine zk_iconst hC dL_shut_263 (v := nI 2) (by decide +kernel) ?_
        refine zs_callV hC (b := 0) [_, _] [] dL_shut_264 ml_L_91 mtX8_member tX8_member (by decide) (by decide) (by decide) rfl rfl (by decide) (by decide +kernel) (Nat.le_of_ble_eq_true rfl) rfl ?_
        refine ⟨G, _, _, rfl, hc, hg, fun S hc _ => ?_⟩
        rw [fmem2 hm, if_neg (sm_of hm (bn_root _ (hg.1.ok.lt hm) h0)), hw.grp hm h0, show zb true = nI 1 from rfl]
        dsimp only [Option.toList, List.cons_append, List.nil_append]
        refine zk_iconst hC dL_shut_267 (v := nI 1) (by decide +kernel) ?_
        refine zr_icmp_ne hC dL_shut_268 (tgt := 374) (by decide) (fun c => absurd c (by decide +kernel)) (fun c_268 => ?_)
        refine zr_aload_n hC dL_shut_271 rfl ?_
        refine zr_iload hC dL_shut_272 rfl ?_
        refine zk_iconst hC dL_shut_274 (v := nI 4) (by decide +kernel) ?_
        refine zs_callV hC (b := 0) [_, _] [] dL_shut_275 ml_L_91 mtX8_member tX8_member (by decide) (by decide) (by decide) rfl rfl (by decide) (by decide +kernel) (Nat.le_of_ble_eq_true rfl) rfl ?_
        refine ⟨G, _, _, rfl, hc, hg, fun S hc _ => ?_⟩
        rw [fmem4 hm, if_pos h0, (hw.2.1.2.2.1 i hm ⟨h0, hw.2.2.2 i hm⟩).1, Nat.sub_self]
        dsimp only [Option.toList, List.cons_append, List.nil_append]
        refine zr_if_ne hC dL_shut_278 (tgt := 374) (by decide) (fun c => absurd c (by decide +kernel)) (fun c_278 => ?_)
        refine zr_iload hC dL_shut_281 rfl ?_
        refine zr_if_ne hC dL_shut_283 (tgt := 311) (by decide) (fun c_283 => ?_) (fun c => absurd c (by decide +kernel))
        refine zr_aload_n hC dL_shut_311 rfl ?_
        refine zr_iload hC dL_shut_312 rfl ?_
        refine zk_iconst hC dL_shut_314 (v := nI 1) (by decide +kernel) ?_
        refine zs_callV hC (b := 0) [_, _] [] dL_shut_315 ml_L_91 mtX8_member tX8_member (by decide) (by decide) (by decide) rfl rfl (by decide) (by decide +kernel) (Nat.le_of_ble_eq_true rfl) rfl ?_
        refine ⟨G, _, _, rfl, hc, hg, fun S hc _ => ?_⟩
        rw [fmem1 hm]
        dsimp only [Option.toList, List.cons_append, List.nil_append]
        refine zr_if_ne hC dL_shut_318 (tgt := 325) (by decide) (fun c_318 => ?_) (fun c => absurd c (nI_ne0 (by omega) (by omega)))
        refine zk_iconst hC dL_shut_325 (v := nI 0) (by decide +kernel) ?_
        refine zr_iload_n hC dL_shut_326 rfl ?_
        refine zr_iload hC dL_shut_327 rfl ?_
        refine zs_callS hC [_, _] [_] dL_shut_329 ml_L_84 mtL_has tL_has (by decide) (by decide) (by decide) rfl (Nat.le_of_ble_eq_true rfl) rfl ?_
        refine ⟨e, i, rfl, he, hm, ?_⟩
        rw [hb, show zb false = nI 0 from rfl]
        dsimp only [Option.toList, List.cons_append, List.nil_append]
        refine zr_if_ne hC dL_shut_332 (tgt := 344) (by decide) (fun c => absurd c (by decide +kernel)) (fun c_332 => ?_)
        refine zr_iload hC dL_shut_335 rfl ?_
        refine zr_if_ne hC dL_shut_337 (tgt := 344) (by decide) (fun c_337 => ?_) (fun c => absurd c (by decide +kernel))
        refine zk_iconst hC dL_shut_344 (v := nI 0) (by decide +kernel) ?_
        refine zr_icmp_ne hC dL_shut_345 (tgt := 352) (by decide) (fun c => absurd c (by decide +kernel)) (fun c_345 => ?_)
        refine zk_iconst hC dL_shut_348 (v := nI 1) (by decide +kernel) ?_
        refine zr_goto hC dL_shut_349 (tgt := 353) (by decide) ?_
        refine zr_aload_n hC dL_shut_353 rfl ?_
        refine zk_iconst hC dL_shut_354 (v := nI 4) (by decide +kernel) ?_
        refine zs_callV hC (b := 0) [_] [_] dL_shut_355 ml_L_37 mtX8_count tX8_count (by decide) (by decide) (by decide) rfl rfl (by decide) (by decide +kernel) (Nat.le_of_ble_eq_true rfl) rfl ?_
        refine ⟨G, _, rfl, hc, hg, fun S hc _ => ?_⟩
        rw [fc_4]
        dsimp only [Option.toList, List.cons_append, List.nil_append]
        refine zr_if_ne hC dL_shut_358 (tgt := 365) (by decide) (fun c_358 => ?_) (fun c => absurd c (nI_ne0 (by omega) (by omega)))
        refine zk_iconst hC dL_shut_365 (v := nI 0) (by decide +kernel) ?_
        refine zn_ior hC dL_shut_366 (v := nI 1) (by decide +kernel) ?_
        refine zr_if_eq hC dL_shut_367 (tgt := 374) (by decide) (fun c => absurd c (by decide +kernel)) (fun c_367 => ?_)
        refine zk_iconst hC dL_shut_370 (v := nI 1) (by decide +kernel) ?_
        refine zr_goto hC dL_shut_371 (tgt := 375) (by decide) ?_
        refine zr_istore_n hC dL_shut_375 (by decide) ?_
        refine zn_iinc hC dL_shut_376 rfl (by decide) (zk_inc _ 1) ?_
        refine zr_goto hC dL_shut_379 (tgt := 192) (by decide) ?_
        exact zR_sub [(0, .ref 0), (1, .int (nI e)), (2, .int (nI 1)), (4, .int (nI (i + 1)))] ⟨rfl, rfl, rfl, rfl, trivial⟩ (ih (i + 1) S (by omega) hc)
    | true =>
      by_cases h0 : G.1 0 i = 0
      · by_cases hk0 : G.1 6 0 = 0
        · have hs0 := sm_0 (no_keys hg.1 hk0) 1
          have hz : hby G.1 i (G.1 6 0) = 0 := by rw [hk0]; rfl
          refine zr_iload hC dL_shut_192 rfl ?_
          refine zk_bipush hC dL_shut_194 (v := nI 16) (by decide +kernel) ?_
          refine zr_icmp_ge hC dL_shut_196 (tgt := 382) (by decide) (fun c => absurd c (nI_ge (by omega) (by omega))) (fun c_196 => ?_)
          refine zr_iload_n hC dL_shut_199 rfl ?_
          refine zr_if_eq hC dL_shut_200 (tgt := 382) (by decide) (fun c => absurd c (by decide +kernel)) (fun c_200 => ?_)
          refine zr_aload_n hC dL_shut_203 rfl ?_
          refine zk_iconst hC dL_shut_204 (v := nI 0) (by decide +kernel) ?_
          refine zs_callV hC (b := 0) [_] [] dL_shut_205 ml_L_37 mtX8_count tX8_count (by decide) (by decide) (by decide) rfl rfl (by decide) (by decide +kernel) (Nat.le_of_ble_eq_true rfl) rfl ?_
          refine ⟨G, _, rfl, hc, hg, fun S hc _ => ?_⟩
          rw [fc_0]
          dsimp only [Option.toList, List.cons_append, List.nil_append]
          refine zr_iload hC dL_shut_208 rfl ?_
          refine zs_callS hC [_, _] [] dL_shut_210 ml_L_84 mtL_has tL_has (by decide) (by decide) (by decide) rfl (Nat.le_of_ble_eq_true rfl) rfl ?_
          refine ⟨_, i, rfl, sm_lt _ _, hm, ?_⟩
          rw [gs0 hm h0]
          dsimp only [Option.toList, List.cons_append, List.nil_append]
          refine zr_istore hC dL_shut_213 (by decide) ?_
          refine zr_aload_n hC dL_shut_215 rfl ?_
          refine zr_iload hC dL_shut_216 rfl ?_
          refine zk_iconst hC dL_shut_218 (v := nI 0) (by decide +kernel) ?_
          refine zs_callV hC (b := 0) [_, _] [] dL_shut_219 ml_L_91 mtX8_member tX8_member (by decide) (by decide) (by decide) rfl rfl (by decide) (by decide +kernel) (Nat.le_of_ble_eq_true rfl) rfl ?_
          refine ⟨G, _, _, rfl, hc, hg, fun S hc _ => ?_⟩
          rw [fmem0 hm, if_neg (fun z => z h0)]
          dsimp only [Option.toList, List.cons_append, List.nil_append]
          refine zr_istore hC dL_shut_222 (by decide) ?_
          refine zr_iload hC dL_shut_224 rfl ?_
          refine zr_iload hC dL_shut_226 rfl ?_
          refine zk_bipush hC dL_shut_228 (v := nI 16) (by decide +kernel) ?_
          refine zr_icmp_lt hC dL_shut_230 (tgt := 237) (by decide) (fun c_230 => ?_) (fun c => absurd c (not_not_intro m4_lt16))
          refine zk_iconst hC dL_shut_237 (v := nI 0) (by decide +kernel) ?_
          refine zr_icmp_ne hC dL_shut_238 (tgt := 374) (by decide) (fun c => absurd c (by decide +kernel)) (fun c_238 => ?_)
          refine zr_iload hC dL_shut_241 rfl ?_
          refine zr_if_eq hC dL_shut_243 (tgt := 281) (by decide) (fun c_243 => ?_) (fun c => absurd c (by decide +kernel))
          refine zr_iload hC dL_shut_281 rfl ?_
          refine zr_if_ne hC dL_shut_283 (tgt := 311) (by decide) (fun c => absurd c (by decide +kernel)) (fun c_283 => ?_)
          refine zr_iload hC dL_shut_286 rfl ?_
          refine zk_bipush hC dL_shut_288 (v := (-4)) (by decide +kernel) ?_
          refine zr_icmp_ne hC dL_shut_290 (tgt := 374) (by decide) (fun c => absurd c (not_not_intro rfl)) (fun c_290 => ?_)
          refine zr_aload_n hC dL_shut_293 rfl ?_
          refine zr_iload hC dL_shut_294 rfl ?_
          refine zk_iconst hC dL_shut_296 (v := nI 2) (by decide +kernel) ?_
          refine zs_callV hC (b := 0) [_, _] [] dL_shut_297 ml_L_91 mtX8_member tX8_member (by decide) (by decide) (by decide) rfl rfl (by decide) (by decide +kernel) (Nat.le_of_ble_eq_true rfl) rfl ?_
          refine ⟨G, _, _, rfl, hc, hg, fun S hc _ => ?_⟩
          rw [fmem2 hm, if_pos hs0]
          dsimp only [Option.toList, List.cons_append, List.nil_append]
          refine zr_if_eq hC dL_shut_300 (tgt := 311) (by decide) (fun c => absurd c m4_ne0) (fun c_300 => ?_)
          refine zr_aload_n hC dL_shut_303 rfl ?_
          refine zk_iconst hC dL_shut_304 (v := nI 0) (by decide +kernel) ?_
          refine zs_callV hC (b := 0) [_] [] dL_shut_305 ml_L_37 mtX8_count tX8_count (by decide) (by decide) (by decide) rfl rfl (by decide) (by decide +kernel) (Nat.le_of_ble_eq_true rfl) rfl ?_
          refine ⟨G, _, rfl, hc, hg, fun S hc _ => ?_⟩
          rw [fc_0, hs0]
          dsimp only [Option.toList, List.cons_append, List.nil_append]
          refine zr_if_ne hC dL_shut_308 (tgt := 374) (by decide) (fun c => absurd c (by decide +kernel)) (fun c_308 => ?_)
          refine zr_aload_n hC dL_shut_311 rfl ?_
          refine zr_iload hC dL_shut_312 rfl ?_
          refine zk_iconst hC dL_shut_314 (v := nI 1) (by decide +kernel) ?_
          refine zs_callV hC (b := 0) [_, _] [] dL_shut_315 ml_L_91 mtX8_member tX8_member (by decide) (by decide) (by decide) rfl rfl (by decide) (by decide +kernel) (Nat.le_of_ble_eq_true rfl) rfl ?_
          refine ⟨G, _, _, rfl, hc, hg, fun S hc _ => ?_⟩
          rw [fmem1 hm, hz]
          dsimp only [Option.toList, List.cons_append, List.nil_append]
          refine zr_if_ne hC dL_shut_318 (tgt := 325) (by decide) (fun c => absurd c (by decide +kernel)) (fun c_318 => ?_)
          refine zk_iconst hC dL_shut_321 (v := nI 1) (by decide +kernel) ?_
          refine zr_goto hC dL_shut_322 (tgt := 326) (by decide) ?_
          refine zr_iload_n hC dL_shut_326 rfl ?_
          refine zr_iload hC dL_shut_327 rfl ?_
          refine zs_callS hC [_, _] [_] dL_shut_329 ml_L_84 mtL_has tL_has (by decide) (by decide) (by decide) rfl (Nat.le_of_ble_eq_true rfl) rfl ?_
          refine ⟨e, i, rfl, he, hm, ?_⟩
          rw [hb, show zb true = nI 1 from rfl]
          dsimp only [Option.toList, List.cons_append, List.nil_append]
          refine zr_if_ne hC dL_shut_332 (tgt := 344) (by decide) (fun c_332 => ?_) (fun c => absurd c (by decide +kernel))
          refine zk_iconst hC dL_shut_344 (v := nI 0) (by decide +kernel) ?_
          refine zr_icmp_ne hC dL_shut_345 (tgt := 352) (by decide) (fun c_345 => ?_) (fun c => absurd c (by decide +kernel))
          refine zk_iconst hC dL_shut_352 (v := nI 0) (by decide +kernel) ?_
          refine zr_aload_n hC dL_shut_353 rfl ?_
          refine zk_iconst hC dL_shut_354 (v := nI 4) (by decide +kernel) ?_
          refine zs_callV hC (b := 0) [_] [_] dL_shut_355 ml_L_37 mtX8_count tX8_count (by decide) (by decide) (by decide) rfl rfl (by decide) (by decide +kernel) (Nat.le_of_ble_eq_true rfl) rfl ?_
          refine ⟨G, _, rfl, hc, hg, fun S hc _ => ?_⟩
          rw [fc_4, hk0]
          dsimp only [Option.toList, List.cons_append, List.nil_append]
          refine zr_if_ne hC dL_shut_358 (tgt := 365) (by decide) (fun c => absurd c (by decide +kernel)) (fun c_358 => ?_)
          refine zk_iconst hC dL_shut_361 (v := nI 1) (by decide +kernel) ?_
          refine zr_goto hC dL_shut_362 (tgt := 366) (by decide) ?_
          refine zn_ior hC dL_shut_366 (v := nI 1) (by decide +kernel) ?_
          refine zr_if_eq hC dL_shut_367 (tgt := 374) (by decide) (fun c => absurd c (by decide +kernel)) (fun c_367 => ?_)
          refine zk_iconst hC dL_shut_370 (v := nI 1) (by decide +kernel) ?_
          refine zr_goto hC dL_shut_371 (tgt := 375) (by decide) ?_
          refine zr_istore_n hC dL_shut_375 (by decide) ?_
          refine zn_iinc hC dL_shut_376 rfl (by decide) (zk_inc _ 1) ?_
          refine zr_goto hC dL_shut_379 (tgt := 192) (by decide) ?_
          exact zR_sub [(0, .ref 0), (1, .int (nI e)), (2, .int (nI 1)), (4, .int (nI (i + 1)))] ⟨rfl, rfl, rfl, rfl, trivial⟩ (ih (i + 1) S (by omega) hc)
        · have hev := (hev hk0 i hm)
          have hz : hby G.1 i (G.1 6 0) ≠ 0 := fun z => hev.mp z (Or.inl hb)
          by_cases hs0 : sm (G.1 0) 1 = 0
          · refine zr_iload hC dL_shut_192 rfl ?_
            refine zk_bipush hC dL_shut_194 (v := nI 16) (by decide +kernel) ?_
            refine zr_icmp_ge hC dL_shut_196 (tgt := 382) (by decide) (fun c => absurd c (nI_ge (by omega) (by omega))) (fun c_196 => ?_)
            refine zr_iload_n hC dL_shut_199 rfl ?_
            refine zr_if_eq hC dL_shut_200 (tgt := 382) (by decide) (fun c => absurd c (by decide +kernel)) (fun c_200 => ?_)
            refine zr_aload_n hC dL_shut_203 rfl ?_
            refine zk_iconst hC dL_shut_204 (v := nI 0) (by decide +kernel) ?_
            refine zs_callV hC (b := 0) [_] [] dL_shut_205 ml_L_37 mtX8_count tX8_count (by decide) (by decide) (by decide) rfl rfl (by decide) (by decide +kernel) (Nat.le_of_ble_eq_true rfl) rfl ?_
            refine ⟨G, _, rfl, hc, hg, fun S hc _ => ?_⟩
            rw [fc_0]
            dsimp only [Option.toList, List.cons_append, List.nil_append]
            refine zr_iload hC dL_shut_208 rfl ?_
            refine zs_callS hC [_, _] [] dL_shut_210 ml_L_84 mtL_has tL_has (by decide) (by decide) (by decide) rfl (Nat.le_of_ble_eq_true rfl) rfl ?_
            refine ⟨_, i, rfl, sm_lt _ _, hm, ?_⟩
            rw [gs0 hm h0]
            dsimp only [Option.toList, List.cons_append, List.nil_append]
            refine zr_istore hC dL_shut_213 (by decide) ?_
            refine zr_aload_n hC dL_shut_215 rfl ?_
            refine zr_iload hC dL_shut_216 rfl ?_
            refine zk_iconst hC dL_shut_218 (v := nI 0) (by decide +kernel) ?_
            refine zs_callV hC (b := 0) [_, _] [] dL_shut_219 ml_L_91 mtX8_member tX8_member (by decide) (by decide) (by decide) rfl rfl (by decide) (by decide +kernel) (Nat.le_of_ble_eq_true rfl) rfl ?_
            refine ⟨G, _, _, rfl, hc, hg, fun S hc _ => ?_⟩
            rw [fmem0 hm, if_neg (fun z => z h0)]
            dsimp only [Option.toList, List.cons_append, List.nil_append]
            refine zr_istore hC dL_shut_222 (by decide) ?_
            refine zr_iload hC dL_shut_224 rfl ?_
            refine zr_iload hC dL_shut_226 rfl ?_
            refine zk_bipush hC dL_shut_228 (v := nI 16) (by decide +kernel) ?_
            refine zr_icmp_lt hC dL_shut_230 (tgt := 237) (by decide) (fun c_230 => ?_) (fun c => absurd c (not_not_intro m4_lt16))
            refine zk_iconst hC dL_shut_237 (v := nI 0) (by decide +kernel) ?_
            refine zr_icmp_ne hC dL_shut_238 (tgt := 374) (by decide) (fun c => absurd c (by decide +kernel)) (fun c_238 => ?_)
            refine zr_iload hC dL_shut_241 rfl ?_
            refine zr_if_eq hC dL_shut_243 (tgt := 281) (by decide) (fun c_243 => ?_) (fun c => absurd c (by decide +kernel))
            refine zr_iload hC dL_shut_281 rfl ?_
            refine zr_if_ne hC dL_shut_283 (tgt := 311) (by decide) (fun c => absurd c (by decide +kernel)) (fun c_283 => ?_)
            refine zr_iload hC dL_shut_286 rfl ?_
            refine zk_bipush hC dL_shut_288 (v := (-4)) (by decide +kernel) ?_
            refine zr_icmp_ne hC dL_shut_290 (tgt := 374) (by decide) (fun c => absurd c (not_not_intro rfl)) (fun c_290 => ?_)
            refine zr_aload_n hC dL_shut_293 rfl ?_
            refine zr_iload hC dL_shut_294 rfl ?_
            refine zk_iconst hC dL_shut_296 (v := nI 2) (by decide +kernel) ?_
            refine zs_callV hC (b := 0) [_, _] [] dL_shut_297 ml_L_91 mtX8_member tX8_member (by decide) (by decide) (by decide) rfl rfl (by decide) (by decide +kernel) (Nat.le_of_ble_eq_true rfl) rfl ?_
            refine ⟨G, _, _, rfl, hc, hg, fun S hc _ => ?_⟩
            rw [fmem2 hm, if_pos hs0]
            dsimp only [Option.toList, List.cons_append, List.nil_append]
            refine zr_if_eq hC dL_shut_300 (tgt := 311) (by decide) (fun c => absurd c m4_ne0) (fun c_300 => ?_)
            refine zr_aload_n hC dL_shut_303 rfl ?_
            refine zk_iconst hC dL_shut_304 (v := nI 0) (by decide +kernel) ?_
            refine zs_callV hC (b := 0) [_] [] dL_shut_305 ml_L_37 mtX8_count tX8_count (by decide) (by decide) (by decide) rfl rfl (by decide) (by decide +kernel) (Nat.le_of_ble_eq_true rfl) rfl ?_
            refine ⟨G, _, rfl, hc, hg, fun S hc _ => ?_⟩
            rw [fc_0, hs0]
            dsimp only [Option.toList, List.cons_append, List.nil_append]
            refine zr_if_ne hC dL_shut_308 (tgt := 374) (by decide) (fun c => absurd c (by decide +kernel)) (fun c_308 => ?_)
            refine zr_aload_n hC dL_shut_311 rfl ?_
            refine zr_iload hC dL_shut_312 rfl ?_
            refine zk_iconst hC dL_shut_314 (v := nI 1) (by decide +kernel) ?_
            refine zs_callV hC (b := 0) [_, _] [] dL_shut_315 ml_L_91 mtX8_member tX8_member (by decide) (by decide) (by decide) rfl rfl (by decide) (by decide +kernel) (Nat.le_of_ble_eq_true rfl) rfl ?_
            refine ⟨G, _, _, rfl, hc, hg, fun S hc _ => ?_⟩
            rw [fmem1 hm]
            dsimp only [Option.toList, List.cons_append, List.nil_append]
            refine zr_if_ne hC dL_shut_318 (tgt := 325) (by decide) (fun c_318 => ?_) (fun c => absurd c (nI_ne0 (by omega) (by omega)))
            refine zk_iconst hC dL_shut_325 (v := nI 0) (by decide +kernel) ?_
            refine zr_iload_n hC dL_shut_326 rfl ?_
            refine zr_iload hC dL_shut_327 rfl ?_
            refine zs_callS hC [_, _] [_] dL_shut_329 ml_L_84 mtL_has tL_has (by decide) (by decide) (by decide) rfl (Nat.le_of_ble_eq_true rfl) rfl ?_
            refine ⟨e, i, rfl, he, hm, ?_⟩
            rw [hb, show zb true = nI 1 from rfl]
            dsimp only [Option.toList, List.cons_append, List.nil_append]
            refine zr_if_ne hC dL_shut_332 (tgt := 344) (by decide) (fun c_332 => ?_) (fun c => absurd c (by decide +kernel))
            refine zk_iconst hC dL_shut_344 (v := nI 0) (by decide +kernel) ?_
            refine zr_icmp_ne hC dL_shut_345 (tgt := 352) (by decide) (fun c => absurd c (by decide +kernel)) (fun c_345 => ?_)
            refine zk_iconst hC dL_shut_348 (v := nI 1) (by decide +kernel) ?_
            refine zr_goto hC dL_shut_349 (tgt := 353) (by decide) ?_
            refine zr_aload_n hC dL_shut_353 rfl ?_
            refine zk_iconst hC dL_shut_354 (v := nI 4) (by decide +kernel) ?_
            refine zs_callV hC (b := 0) [_] [_] dL_shut_355 ml_L_37 mtX8_count tX8_count (by decide) (by decide) (by decide) rfl rfl (by decide) (by decide +kernel) (Nat.le_of_ble_eq_true rfl) rfl ?_
            refine ⟨G, _, rfl, hc, hg, fun S hc _ => ?_⟩
            rw [fc_4]
            dsimp only [Option.toList, List.cons_append, List.nil_append]
            refine zr_if_ne hC dL_shut_358 (tgt := 365) (by decide) (fun c_358 => ?_) (fun c => absurd c (nI_ne0 (by omega) (by omega)))
            refine zk_iconst hC dL_shut_365 (v := nI 0) (by decide +kernel) ?_
            refine zn_ior hC dL_shut_366 (v := nI 1) (by decide +kernel) ?_
            refine zr_if_eq hC dL_shut_367 (tgt := 374) (by decide) (fun c => absurd c (by decide +kernel)) (fun c_367 => ?_)
            refine zk_iconst hC dL_shut_370 (v := nI 1) (by decide +kernel) ?_
            refine zr_goto hC dL_shut_371 (tgt := 375) (by decide) ?_
            refine zr_istore_n hC dL_shut_375 (by decide) ?_
            refine zn_iinc hC dL_shut_376 rfl (by decide) (zk_inc _ 1) ?_
            refine zr_goto hC dL_shut_379 (tgt := 192) (by decide) ?_
            exact zR_sub [(0, .ref 0), (1, .int (nI e)), (2, .int (nI 1)), (4, .int (nI (i + 1)))] ⟨rfl, rfl, rfl, rfl, trivial⟩ (ih (i + 1) S (by omega) hc)
          · have hn0 : hd G.1 i (key G.1 1) = false := by
              cases q : hd G.1 i (key G.1 1) with
              | false => rfl
              | true =>
                obtain ⟨c1, c2⟩ := cur.key hg.1 (v := 1) (by decide) (by decide) hs0
                have := hw.2.1.1 _ c1 i hm q
                rw [c2, h0, show bn 0 1 = false from bnf_0 5 1] at this; cases this
            refine zr_iload hC dL_shut_192 rfl ?_
            refine zk_bipush hC dL_shut_194 (v := nI 16) (by decide +kernel) ?_
            refine zr_icmp_ge hC dL_shut_196 (tgt := 382) (by decide) (fun c => absurd c (nI_ge (by omega) (by omega))) (fun c_196 => ?_)
            refine zr_iload_n hC dL_shut_199 rfl ?_
            refine zr_if_eq hC dL_shut_200 (tgt := 382) (by decide) (fun c => absurd c (by decide +kernel)) (fun c_200 => ?_)
            refine zr_aload_n hC dL_shut_203 rfl ?_
            refine zk_iconst hC dL_shut_204 (v := nI 0) (by decide +kernel) ?_
            refine zs_callV hC (b := 0) [_] [] dL_shut_205 ml_L_37 mtX8_count tX8_count (by decide) (by decide) (by decide) rfl rfl (by decide) (by decide +kernel) (Nat.le_of_ble_eq_true rfl) rfl ?_
            refine ⟨G, _, rfl, hc, hg, fun S hc _ => ?_⟩
            rw [fc_0]
            dsimp only [Option.toList, List.cons_append, List.nil_append]
            refine zr_iload hC dL_shut_208 rfl ?_
            refine zs_callS hC [_, _] [] dL_shut_210 ml_L_84 mtL_has tL_has (by decide) (by decide) (by decide) rfl (Nat.le_of_ble_eq_true rfl) rfl ?_
            refine ⟨_, i, rfl, sm_lt _ _, hm, ?_⟩
            rw [gs0 hm h0]
            dsimp only [Option.toList, List.cons_append, List.nil_append]
            refine zr_istore hC dL_shut_213 (by decide) ?_
            refine zr_aload_n hC dL_shut_215 rfl ?_
            refine zr_iload hC dL_shut_216 rfl ?_
            refine zk_iconst hC dL_shut_218 (v := nI 0) (by decide +kernel) ?_
            refine zs_callV hC (b := 0) [_, _] [] dL_shut_219 ml_L_91 mtX8_member tX8_member (by decide) (by decide) (by decide) rfl rfl (by decide) (by decide +kernel) (Nat.le_of_ble_eq_true rfl) rfl ?_
            refine ⟨G, _, _, rfl, hc, hg, fun S hc _ => ?_⟩
            rw [fmem0 hm, if_neg (fun z => z h0)]
            dsimp only [Option.toList, List.cons_append, List.nil_append]
            refine zr_istore hC dL_shut_222 (by decide) ?_
            refine zr_iload hC dL_shut_224 rfl ?_
            refine zr_iload hC dL_shut_226 rfl ?_
            refine zk_bipush hC dL_shut_228 (v := nI 16) (by decide +kernel) ?_
            refine zr_icmp_lt hC dL_shut_230 (tgt := 237) (by decide) (fun c_230 => ?_) (fun c => absurd c (not_not_intro m4_lt16))
            refine zk_iconst hC dL_shut_237 (v := nI 0) (by decide +kernel) ?_
            refine zr_icmp_ne hC dL_shut_238 (tgt := 374) (by decide) (fun c => absurd c (by decide +kernel)) (fun c_238 => ?_)
            refine zr_iload hC dL_shut_241 rfl ?_
            refine zr_if_eq hC dL_shut_243 (tgt := 281) (by decide) (fun c_243 => ?_) (fun c => absurd c (by decide +kernel))
            refine zr_iload hC dL_shut_281 rfl ?_
            refine zr_if_ne hC dL_shut_283 (tgt := 311) (by decide) (fun c => absurd c (by decide +kernel)) (fun c_283 => ?_)
            refine zr_iload hC dL_shut_286 rfl ?_
            refine zk_bipush hC dL_shut_288 (v := (-4)) (by decide +kernel) ?_
            refine zr_icmp_ne hC dL_shut_290 (tgt := 374) (by decide) (fun c => absurd c (not_not_intro rfl)) (fun c_290 => ?_)
            refine zr_aload_n hC dL_shut_293 rfl ?_
            refine zr_iload hC dL_shut_294 rfl ?_
            refine zk_iconst hC dL_shut_296 (v := nI 2) (by decide +kernel) ?_
            refine zs_callV hC (b := 0) [_, _] [] dL_shut_297 ml_L_91 mtX8_member tX8_member (by decide) (by decide) (by decide) rfl rfl (by decide) (by decide +kernel) (Nat.le_of_ble_eq_true rfl) rfl ?_
            refine ⟨G, _, _, rfl, hc, hg, fun S hc _ => ?_⟩
            rw [fmem2 hm, if_neg hs0, hn0, show zb false = nI 0 from rfl]
            dsimp only [Option.toList, List.cons_append, List.nil_append]
            refine zr_if_eq hC dL_shut_300 (tgt := 311) (by decide) (fun c_300 => ?_) (fun c => absurd c (by decide +kernel))
            refine zr_aload_n hC dL_shut_311 rfl ?_
            refine zr_iload hC dL_shut_312 rfl ?_
            refine zk_iconst hC dL_shut_314 (v := nI 1) (by decide +kernel) ?_
            refine zs_callV hC (b := 0) [_, _] [] dL_shut_315 ml_L_91 mtX8_member tX8_member (by decide) (by decide) (by decide) rfl rfl (by decide) (by decide +kernel) (Nat.le_of_ble_eq_true rfl) rfl ?_
            refine ⟨G, _, _, rfl, hc, hg, fun S hc _ => ?_⟩
            rw [fmem1 hm]
            dsimp only [Option.toList, List.cons_append, List.nil_append]
            refine zr_if_ne hC dL_shut_318 (tgt := 325) (by decide) (fun c_318 => ?_) (fun c => absurd c (nI_ne0 (by omega) (by omega)))
            refine zk_iconst hC dL_shut_325 (v := nI 0) (by decide +kernel) ?_
            refine zr_iload_n hC dL_shut_326 rfl ?_
            refine zr_iload hC dL_shut_327 rfl ?_
            refine zs_callS hC [_, _] [_] dL_shut_329 ml_L_84 mtL_has tL_has (by decide) (by decide) (by decide) rfl (Nat.le_of_ble_eq_true rfl) rfl ?_
            refine ⟨e, i, rfl, he, hm, ?_⟩
            rw [hb, show zb true = nI 1 from rfl]
            dsimp only [Option.toList, List.cons_append, List.nil_append]
            refine zr_if_ne hC dL_shut_332 (tgt := 344) (by decide) (fun c_332 => ?_) (fun c => absurd c (by decide +kernel))
            refine zk_iconst hC dL_shut_344 (v := nI 0) (by decide +kernel) ?_
            refine zr_icmp_ne hC dL_shut_345 (tgt := 352) (by decide) (fun c => absurd c (by decide +kernel)) (fun c_345 => ?_)
            refine zk_iconst hC dL_shut_348 (v := nI 1) (by decide +kernel) ?_
            refine zr_goto hC dL_shut_349 (tgt := 353) (by decide) ?_
            refine zr_aload_n hC dL_shut_353 rfl ?_
            refine zk_iconst hC dL_shut_354 (v := nI 4) (by decide +kernel) ?_
            refine zs_callV hC (b := 0) [_] [_] dL_shut_355 ml_L_37 mtX8_count tX8_count (by decide) (by decide) (by decide) rfl rfl (by decide) (by decide +kernel) (Nat.le_of_ble_eq_true rfl) rfl ?_
            refine ⟨G, _, rfl, hc, hg, fun S hc _ => ?_⟩
            rw [fc_4]
            dsimp only [Option.toList, List.cons_append, List.nil_append]
            refine zr_if_ne hC dL_shut_358 (tgt := 365) (by decide) (fun c_358 => ?_) (fun c => absurd c (nI_ne0 (by omega) (by omega)))
            refine zk_iconst hC dL_shut_365 (v := nI 0) (by decide +kernel) ?_
            refine zn_ior hC dL_shut_366 (v := nI 1) (by decide +kernel) ?_
            refine zr_if_eq hC dL_shut_367 (tgt := 374) (by decide) (fun c => absurd c (by decide +kernel)) (fun c_367 => ?_)
            refine zk_iconst hC dL_shut_370 (v := nI 1) (by decide +kernel) ?_
            refine zr_goto hC dL_shut_371 (tgt := 375) (by decide) ?_
            refine zr_istore_n hC dL_shut_375 (by decide) ?_
            refine zn_iinc hC dL_shut_376 rfl (by decide) (zk_inc _ 1) ?_
            refine zr_goto hC dL_shut_379 (tgt := 192) (by decide) ?_
            exact zR_sub [(0, .ref 0), (1, .int (nI e)), (2, .int (nI 1)), (4, .int (nI (i + 1)))] ⟨rfl, rfl, rfl, rfl, trivial⟩ (ih (i + 1) S (by omega) hc)
      · have hl := hg.1.leaf hm
        have hk0 : G.1 6 0 ≠ 0 := fun z => h0 (no_keys hg.1 z i hm)
        have hz : hby G.1 i (G.1 6 0) ≠ 0 := fun z => (hev hk0 i hm).mp z (Or.inr h0)
        refine zr_iload hC dL_shut_192 rfl ?_
        refine zk_bipush hC dL_shut_194 (v := nI 16) (by decide +kernel) ?_
        refine zr_icmp_ge hC dL_shut_196 (tgt := 382) (by decide) (fun c => absurd c (nI_ge (by omega) (by omega))) (fun c_196 => ?_)
        refine zr_iload_n hC dL_shut_199 rfl ?_
        refine zr_if_eq hC dL_shut_200 (tgt := 382) (by decide) (fun c => absurd c (by decide +kernel)) (fun c_200 => ?_)
        refine zr_aload_n hC dL_shut_203 rfl ?_
        refine zk_iconst hC dL_shut_204 (v := nI 0) (by decide +kernel) ?_
        refine zs_callV hC (b := 0) [_] [] dL_shut_205 ml_L_37 mtX8_count tX8_count (by decide) (by decide) (by decide) rfl rfl (by decide) (by decide +kernel) (Nat.le_of_ble_eq_true rfl) rfl ?_
        refine ⟨G, _, rfl, hc, hg, fun S hc _ => ?_⟩
        rw [fc_0]
        dsimp only [Option.toList, List.cons_append, List.nil_append]
        refine zr_iload hC dL_shut_208 rfl ?_
        refine zs_callS hC [_, _] [] dL_shut_210 ml_L_84 mtL_has tL_has (by decide) (by decide) (by decide) rfl (Nat.le_of_ble_eq_true rfl) rfl ?_
        refine ⟨_, i, rfl, sm_lt _ _, hm, ?_⟩
        rw [gs1 hg.1 hm h0]
        dsimp only [Option.toList, List.cons_append, List.nil_append]
        refine zr_istore hC dL_shut_213 (by decide) ?_
        refine zr_aload_n hC dL_shut_215 rfl ?_
        refine zr_iload hC dL_shut_216 rfl ?_
        refine zk_iconst hC dL_shut_218 (v := nI 0) (by decide +kernel) ?_
        refine zs_callV hC (b := 0) [_, _] [] dL_shut_219 ml_L_91 mtX8_member tX8_member (by decide) (by decide) (by decide) rfl rfl (by decide) (by decide +kernel) (Nat.le_of_ble_eq_true rfl) rfl ?_
        refine ⟨G, _, _, rfl, hc, hg, fun S hc _ => ?_⟩
        rw [fmem0 hm, if_pos h0]
        dsimp only [Option.toList, List.cons_append, List.nil_append]
        refine zr_istore hC dL_shut_222 (by decide) ?_
        refine zr_iload hC dL_shut_224 rfl ?_
        refine zr_iload hC dL_shut_226 rfl ?_
        refine zk_bipush hC dL_shut_228 (v := nI 16) (by decide +kernel) ?_
        refine zr_icmp_lt hC dL_shut_230 (tgt := 237) (by decide) (fun c => absurd c (nI_nlt (by omega) (by omega))) (fun c_230 => ?_)
        refine zk_iconst hC dL_shut_233 (v := nI 1) (by decide +kernel) ?_
        refine zr_goto hC dL_shut_234 (tgt := 238) (by decide) ?_
        refine zr_icmp_ne hC dL_shut_238 (tgt := 374) (by decide) (fun c => absurd c (by decide +kernel)) (fun c_238 => ?_)
        refine zr_iload hC dL_shut_241 rfl ?_
        refine zr_if_eq hC dL_shut_243 (tgt := 281) (by decide) (fun c => absurd c (by decide +kernel)) (fun c_243 => ?_)
        refine zr_aload_n hC dL_shut_246 rfl ?_
        refine zr_iload hC dL_shut_247 rfl ?_
        refine zk_iconst hC dL_shut_249 (v := nI 1) (by decide +kernel) ?_
        refine zs_callV hC (b := 0) [_, _] [] dL_shut_250 ml_L_78 mtX8_node tX8_node (by decide) (by decide) (by decide) rfl rfl (by decide) (by decide +kernel) (Nat.le_of_ble_eq_true rfl) rfl ?_
        refine ⟨G, _, _, rfl, hc, hg, fun S hc _ => ?_⟩
        rw [fnod1 (by omega) (by omega), sm_leaf hg.1 hm h0]
        dsimp only [Option.toList, List.cons_append, List.nil_append]
        refine zk_iconst hC dL_shut_253 (v := nI 1) (by decide +kernel) ?_
        refine zr_iload hC dL_shut_254 rfl ?_
        refine zn_ishl hC dL_shut_256 (z_shl1 i (by omega)) ?_
        refine zr_icmp_ne hC dL_shut_257 (tgt := 374) (by decide) (fun c => absurd c (not_not_intro rfl)) (fun c_257 => ?_)
        refine zr_aload_n hC dL_shut_260 rfl ?_
        refine zr_iload hC dL_shut_261 rfl ?_
        refine zk_iconst hC dL_shut_263 (v := nI 2) (by decide +kernel) ?_
        refine zs_callV hC (b := 0) [_, _] [] dL_shut_264 ml_L_91 mtX8_member tX8_member (by decide) (by decide) (by decide) rfl rfl (by decide) (by decide +kernel) (Nat.le_of_ble_eq_true rfl) rfl ?_
        refine ⟨G, _, _, rfl, hc, hg, fun S hc _ => ?_⟩
        rw [fmem2 hm, if_neg (sm_of hm (bn_root _ (hg.1.ok.lt hm) h0)), hw.grp hm h0, show zb true = nI 1 from rfl]
        dsimp only [Option.toList, List.cons_append, List.nil_append]
        refine zk_iconst hC dL_shut_267 (v := nI 1) (by decide +kernel) ?_
        refine zr_icmp_ne hC dL_shut_268 (tgt := 374) (by decide) (fun c => absurd c (by decide +kernel)) (fun c_268 => ?_)
        refine zr_aload_n hC dL_shut_271 rfl ?_
        refine zr_iload hC dL_shut_272 rfl ?_
        refine zk_iconst hC dL_shut_274 (v := nI 4) (by decide +kernel) ?_
        refine zs_callV hC (b := 0) [_, _] [] dL_shut_275 ml_L_91 mtX8_member tX8_member (by decide) (by decide) (by decide) rfl rfl (by decide) (by decide +kernel) (Nat.le_of_ble_eq_true rfl) rfl ?_
        refine ⟨G, _, _, rfl, hc, hg, fun S hc _ => ?_⟩
        rw [fmem4 hm, if_pos h0, (hw.2.1.2.2.1 i hm ⟨h0, hw.2.2.2 i hm⟩).1, Nat.sub_self]
        dsimp only [Option.toList, List.cons_append, List.nil_append]
        refine zr_if_ne hC dL_shut_278 (tgt := 374) (by decide) (fun c => absurd c (by decide +kernel)) (fun c_278 => ?_)
        refine zr_iload hC dL_shut_281 rfl ?_
        refine zr_if_ne hC dL_shut_283 (tgt := 311) (by decide) (fun c_283 => ?_) (fun c => absurd c (by decide +kernel))
        refine zr_aload_n hC dL_shut_311 rfl ?_
        refine zr_iload hC dL_shut_312 rfl ?_
        refine zk_iconst hC dL_shut_314 (v := nI 1) (by decide +kernel) ?_
        refine zs_callV hC (b := 0) [_, _] [] dL_shut_315 ml_L_91 mtX8_member tX8_member (by decide) (by decide) (by decide) rfl rfl (by decide) (by decide +kernel) (Nat.le_of_ble_eq_true rfl) rfl ?_
        refine ⟨G, _, _, rfl, hc, hg, fun S hc _ => ?_⟩
        rw [fmem1 hm]
        dsimp only [Option.toList, List.cons_append, List.nil_append]
        refine zr_if_ne hC dL_shut_318 (tgt := 325) (by decide) (fun c_318 => ?_) (fun c => absurd c (nI_ne0 (by omega) (by omega)))
        refine zk_iconst hC dL_shut_325 (v := nI 0) (by decide +kernel) ?_
        refine zr_iload_n hC dL_shut_326 rfl ?_
        refine zr_iload hC dL_shut_327 rfl ?_
        refine zs_callS hC [_, _] [_] dL_shut_329 ml_L_84 mtL_has tL_has (by decide) (by decide) (by decide) rfl (Nat.le_of_ble_eq_true rfl) rfl ?_
        refine ⟨e, i, rfl, he, hm, ?_⟩
        rw [hb, show zb true = nI 1 from rfl]
        dsimp only [Option.toList, List.cons_append, List.nil_append]
        refine zr_if_ne hC dL_shut_332 (tgt := 344) (by decide) (fun c_332 => ?_) (fun c => absurd c (by decide +kernel))
        refine zk_iconst hC dL_shut_344 (v := nI 0) (by decide +kernel) ?_
        refine zr_icmp_ne hC dL_shut_345 (tgt := 352) (by decide) (fun c => absurd c (by decide +kernel)) (fun c_345 => ?_)
        refine zk_iconst hC dL_shut_348 (v := nI 1) (by decide +kernel) ?_
        refine zr_goto hC dL_shut_349 (tgt := 353) (by decide) ?_
        refine zr_aload_n hC dL_shut_353 rfl ?_
        refine zk_iconst hC dL_shut_354 (v := nI 4) (by decide +kernel) ?_
        refine zs_callV hC (b := 0) [_] [_] dL_shut_355 ml_L_37 mtX8_count tX8_count (by decide) (by decide) (by decide) rfl rfl (by decide) (by decide +kernel) (Nat.le_of_ble_eq_true rfl) rfl ?_
        refine ⟨G, _, rfl, hc, hg, fun S hc _ => ?_⟩
        rw [fc_4]
        dsimp only [Option.toList, List.cons_append, List.nil_append]
        refine zr_if_ne hC dL_shut_358 (tgt := 365) (by decide) (fun c_358 => ?_) (fun c => absurd c (nI_ne0 (by omega) (by omega)))
        refine zk_iconst hC dL_shut_365 (v := nI 0) (by decide +kernel) ?_
        refine zn_ior hC dL_shut_366 (v := nI 1) (by decide +kernel) ?_
        refine zr_if_eq hC dL_shut_367 (tgt := 374) (by decide) (fun c => absurd c (by decide +kernel)) (fun c_367 => ?_)
        refine zk_iconst hC dL_shut_370 (v := nI 1) (by decide +kernel) ?_
        refine zr_goto hC dL_shut_371 (tgt := 375) (by decide) ?_
        refine zr_istore_n hC dL_shut_375 (by decide) ?_
        refine zn_iinc hC dL_shut_376 rfl (by decide) (zk_inc _ 1) ?_
        refine zr_goto hC dL_shut_379 (tgt := 192) (by decide) ?_
        exact zR_sub [(0, .ref 0), (1, .int (nI e)), (2, .int (nI 1)), (4, .int (nI (i + 1)))] ⟨rfl, rfl, rfl, rfl, trivial⟩ (ih (i + 1) S (by omega) hc)
set_option maxHeartbeats 1000000 in
set_option maxRecDepth 100000 in
theorem lL_sh3 {C : zCx} {τ : Nat → ClassId} {ι : Nat → Nat} (hC : zOK C τ (zrm 5 0 0) yL_shut.cls cL_shut 7) {G : zG} {i : Nat} (hg : GI G) (hi : i < G.1 6 1) (k : ∀ S lv, CG S G → zsub lv [(2, .int (nI 1))] → zR C τ ι 7 0 0 473 lv [] (zcells S)) : ∀ (n j : Nat) (S : zS), j + n = 16 → CG S G → zR C τ ι 7 0 0 394 [(0, .ref 0), (2, .int (nI 1)), (4, .int (nI i)), (5, .int (nI j))] [] (zcells S) := by
  intro n
  induction n with
  | zero =>
    intro j S hj hc
    refine zr_iload hC dL_shut_394 rfl ?_
    refine zk_bipush hC dL_shut_396 (v := nI 16) (by decide +kernel) ?_
    refine zr_icmp_ge hC dL_shut_398 (tgt := 473) (by decide) (fun c_398 => ?_) (fun c => absurd c (not_not_intro (nI_le (by omega) (by omega))))
    exact k S _ hc ⟨rfl, trivial⟩
  | succ n ih =>
    intro j S hj hc
    have hm : j < 16 := (by omega)
    have hb1 := hg.1.written
    have hb3 := wsh_le G.1 j (G.1 11 i)
    have hu := (hg.1.lets hi).2.1
    have hu9 := (hg.1.keys hu).2.2.2
    cases hd1 : hd G.1 j (G.1 11 i) with
    | true =>
      refine zr_iload hC dL_shut_394 rfl ?_
      refine zk_bipush hC dL_shut_396 (v := nI 16) (by decide +kernel) ?_
      refine zr_icmp_ge hC dL_shut_398 (tgt := 473) (by decide) (fun c => absurd c (nI_ge (by omega) (by omega))) (fun c_398 => ?_)
      refine zr_iload_n hC dL_shut_401 rfl ?_
      refine zr_if_eq hC dL_shut_402 (tgt := 473) (by decide) (fun c => absurd c (by decide +kernel)) (fun c_402 => ?_)
      refine zr_iload hC dL_shut_405 rfl ?_
      refine zr_if_lt hC dL_shut_407 (tgt := 473) (by decide) (fun c => absurd c (nI_pos (by omega))) (fun c_407 => ?_)
      refine zr_aload_n hC dL_shut_410 rfl ?_
      refine zr_iload hC dL_shut_411 rfl ?_
      refine zr_iload hC dL_shut_413 rfl ?_
      refine zs_callV hC (b := 0) [_, _] [] dL_shut_415 ml_L_98 mtX8_why tX8_why (by decide) (by decide) (by decide) rfl rfl (by decide) (by decide +kernel) (Nat.le_of_ble_eq_true rfl) rfl ?_
      refine ⟨G, _, _, rfl, hc, hg, fun S hc _ => ?_⟩
      rw [fwhy hg hm hi, wsh_1 hd1]
      dsimp only [Option.toList, List.cons_append, List.nil_append]
      refine zr_istore hC dL_shut_418 (by decide) ?_
      refine zr_iload hC dL_shut_420 rfl ?_
      refine zr_if_lt hC dL_shut_422 (tgt := 465) (by decide) (fun c => absurd c (by decide +kernel)) (fun c_422 => ?_)
      refine zr_iload hC dL_shut_425 rfl ?_
      refine zk_iconst hC dL_shut_427 (v := nI 4) (by decide +kernel) ?_
      refine zr_icmp_gt hC dL_shut_428 (tgt := 465) (by decide) (fun c => absurd c (by decide +kernel)) (fun c_428 => ?_)
      refine zr_iload hC dL_shut_431 rfl ?_
      refine zr_if_ne hC dL_shut_433 (tgt := 440) (by decide) (fun c => absurd c (by decide +kernel)) (fun c_433 => ?_)
      refine zk_iconst hC dL_shut_436 (v := nI 1) (by decide +kernel) ?_
      refine zr_goto hC dL_shut_437 (tgt := 441) (by decide) ?_
      refine zr_aload_n hC dL_shut_441 rfl ?_
      refine zr_aload_n hC dL_shut_442 rfl ?_
      refine zr_iload hC dL_shut_443 rfl ?_
      refine zk_iconst hC dL_shut_445 (v := nI 1) (by decide +kernel) ?_
      refine zs_callV hC (b := 0) [_, _] [_, _] dL_shut_446 ml_L_67 mtX8_letter tX8_letter (by decide) (by decide) (by decide) rfl rfl (by decide) (by decide +kernel) (Nat.le_of_ble_eq_true rfl) rfl ?_
      refine ⟨G, _, _, rfl, hc, hg, fun S hc _ => ?_⟩
      rw [flet1 hg hi]
      dsimp only [Option.toList, List.cons_append, List.nil_append]
      refine zk_iconst hC dL_shut_449 (v := nI 3) (by decide +kernel) ?_
      refine zs_callV hC (b := 0) [_, _] [_] dL_shut_450 ml_L_63 mtX8_key tX8_key (by decide) (by decide) (by decide) rfl rfl (by decide) (by decide +kernel) (Nat.le_of_ble_eq_true rfl) rfl ?_
      refine ⟨G, _, _, rfl, hc, hg, fun S hc _ => ?_⟩
      rw [fkey3 hg hu]
      dsimp only [Option.toList, List.cons_append, List.nil_append]
      refine zr_iload hC dL_shut_453 rfl ?_
      refine zs_callS hC [_, _] [_] dL_shut_455 ml_L_84 mtL_has tL_has (by decide) (by decide) (by decide) rfl (Nat.le_of_ble_eq_true rfl) rfl ?_
      refine ⟨_, j, rfl, hu9, hm, ?_⟩
      rw [show (G.1 9 (G.1 11 i)).testBit j = true from hd1, show zb true = nI 1 from rfl]
      dsimp only [Option.toList, List.cons_append, List.nil_append]
      refine zr_icmp_ne hC dL_shut_458 (tgt := 465) (by decide) (fun c => absurd c (by decide +kernel)) (fun c_458 => ?_)
      refine zk_iconst hC dL_shut_461 (v := nI 1) (by decide +kernel) ?_
      refine zr_goto hC dL_shut_462 (tgt := 466) (by decide) ?_
      refine zr_istore_n hC dL_shut_466 (by decide) ?_
      refine zn_iinc hC dL_shut_467 rfl (by decide) (zk_inc _ 1) ?_
      refine zr_goto hC dL_shut_470 (tgt := 394) (by decide) ?_
      exact zR_sub [(0, .ref 0), (2, .int (nI 1)), (4, .int (nI i)), (5, .int (nI (j + 1)))] ⟨rfl, rfl, rfl, rfl, trivial⟩ (ih (j + 1) S (by omega) hc)
    | false =>
      refine zr_iload hC dL_shut_394 rfl ?_
      refine zk_bipush hC dL_shut_396 (v := nI 16) (by decide +kernel) ?_
      refine zr_icmp_ge hC dL_shut_398 (tgt := 473) (by decide) (fun c => absurd c (nI_ge (by omega) (by omega))) (fun c_398 => ?_)
      refine zr_iload_n hC dL_shut_401 rfl ?_
      refine zr_if_eq hC dL_shut_402 (tgt := 473) (by decide) (fun c => absurd c (by decide +kernel)) (fun c_402 => ?_)
      refine zr_iload hC dL_shut_405 rfl ?_
      refine zr_if_lt hC dL_shut_407 (tgt := 473) (by decide) (fun c => absurd c (nI_pos (by omega))) (fun c_407 => ?_)
      refine zr_aload_n hC dL_shut_410 rfl ?_
      refine zr_iload hC dL_shut_411 rfl ?_
      refine zr_iload hC dL_shut_413 rfl ?_
      refine zs_callV hC (b := 0) [_, _] [] dL_shut_415 ml_L_98 mtX8_why tX8_why (by decide) (by decide) (by decide) rfl rfl (by decide) (by decide +kernel) (Nat.le_of_ble_eq_true rfl) rfl ?_
      refine ⟨G, _, _, rfl, hc, hg, fun S hc _ => ?_⟩
      rw [fwhy hg hm hi]
      dsimp only [Option.toList, List.cons_append, List.nil_append]
      refine zr_istore hC dL_shut_418 (by decide) ?_
      refine zr_iload hC dL_shut_420 rfl ?_
      refine zr_if_lt hC dL_shut_422 (tgt := 465) (by decide) (fun c => absurd c (nI_pos (by omega))) (fun c_422 => ?_)
      refine zr_iload hC dL_shut_425 rfl ?_
      refine zk_iconst hC dL_shut_427 (v := nI 4) (by decide +kernel) ?_
      refine zr_icmp_gt hC dL_shut_428 (tgt := 465) (by decide) (fun c => absurd c (nI_nlt (by omega) (by omega))) (fun c_428 => ?_)
      refine zr_iload hC dL_shut_431 rfl ?_
      refine zr_if_ne hC dL_shut_433 (tgt := 440) (by decide) (fun c_433 => ?_) (fun c => absurd c (nI_ne0 (by have := wsh_0 hd1; omega) (by omega)))
      refine zk_iconst hC dL_shut_440 (v := nI 0) (by decide +kernel) ?_
      refine zr_aload_n hC dL_shut_441 rfl ?_
      refine zr_aload_n hC dL_shut_442 rfl ?_
      refine zr_iload hC dL_shut_443 rfl ?_
      refine zk_iconst hC dL_shut_445 (v := nI 1) (by decide +kernel) ?_
      refine zs_callV hC (b := 0) [_, _] [_, _] dL_shut_446 ml_L_67 mtX8_letter tX8_letter (by decide) (by decide) (by decide) rfl rfl (by decide) (by decide +kernel) (Nat.le_of_ble_eq_true rfl) rfl ?_
      refine ⟨G, _, _, rfl, hc, hg, fun S hc _ => ?_⟩
      rw [flet1 hg hi]
      dsimp only [Option.toList, List.cons_append, List.nil_append]
      refine zk_iconst hC dL_shut_449 (v := nI 3) (by decide +kernel) ?_
      refine zs_callV hC (b := 0) [_, _] [_] dL_shut_450 ml_L_63 mtX8_key tX8_key (by decide) (by decide) (by decide) rfl rfl (by decide) (by decide +kernel) (Nat.le_of_ble_eq_true rfl) rfl ?_
      refine ⟨G, _, _, rfl, hc, hg, fun S hc _ => ?_⟩
      rw [fkey3 hg hu]
      dsimp only [Option.toList, List.cons_append, List.nil_append]
      refine zr_iload hC dL_shut_453 rfl ?_
      refine zs_callS hC [_, _] [_] dL_shut_455 ml_L_84 mtL_has tL_has (by decide) (by decide) (by decide) rfl (Nat.le_of_ble_eq_true rfl) rfl ?_
      refine ⟨_, j, rfl, hu9, hm, ?_⟩
      rw [show (G.1 9 (G.1 11 i)).testBit j = false from hd1, show zb false = nI 0 from rfl]
      dsimp only [Option.toList, List.cons_append, List.nil_append]
      refine zr_icmp_ne hC dL_shut_458 (tgt := 465) (by decide) (fun c => absurd c (by decide +kernel)) (fun c_458 => ?_)
      refine zk_iconst hC dL_shut_461 (v := nI 1) (by decide +kernel) ?_
      refine zr_goto hC dL_shut_462 (tgt := 466) (by decide) ?_
      refine zr_istore_n hC dL_shut_466 (by decide) ?_
      refine zn_iinc hC dL_shut_467 rfl (by decide) (zk_inc _ 1) ?_
      refine zr_goto hC dL_shut_470 (tgt := 394) (by decide) ?_
      exact zR_sub [(0, .ref 0), (2, .int (nI 1)), (4, .int (nI i)), (5, .int (nI (j + 1)))] ⟨rfl, rfl, rfl, rfl, trivial⟩ (ih (j + 1) S (by omega) hc)
def spL_shut : zSp := fun av S Q => ∃ (G : zG) (e : Nat), av = [.ref 0, .int (nI e)] ∧ e < 65536 ∧ CG S G ∧ GI G ∧ WS G.1 ∧ EV G.1 e ∧ ∀ S', CG S' G → Q (some (.int (nI 1))) S'
set_option maxHeartbeats 1000000 in
set_option maxRecDepth 100000 in
theorem tL_shut : zM yL_shut cL_shut 7 (some .boolean) 5 spL_shut := by
  refine zM.of (by decide) (by decide) (fun av S Q h => by obtain ⟨G, e, rfl, he, hc, hg, hw, hev, hQ⟩ := h; exact Nat.le_of_ble_eq_true rfl) (fun C τ ι av S Q Qr h hr hC hE => ?_)
  obtain ⟨G, e, rfl, he, hc, hg, hw, hev, hQ⟩ := h
  show zR C τ ι _ 0 0 0 [(0, .ref 0), (1, .int (nI e))] [] _
  refine zk_iconst hC dL_shut_0 (v := nI 1) (by decide +kernel) ?_
  refine zr_istore_n hC dL_shut_1 (by decide) ?_
  refine zr_ldc hC dL_shut_2 kc_L_94 ?_
  refine zr_aload_n hC dL_shut_4 rfl ?_
  refine zk_iconst hC dL_shut_5 (v := nI 0) (by decide +kernel) ?_
  refine zs_callV hC (b := 0) [_] [_] dL_shut_6 ml_L_37 mtX8_count tX8_count (by decide) (by decide) (by decide) rfl rfl (by decide) (by decide +kernel) (Nat.le_of_ble_eq_true rfl) rfl ?_
  refine ⟨G, _, rfl, hc, hg, fun S hc _ => ?_⟩
  rw [fc_0]
  dsimp only [Option.toList, List.cons_append, List.nil_append]
  refine zk_iconst hC dL_shut_9 (v := (-1)) (by decide +kernel) ?_
  refine zr_ixor hC dL_shut_10 ?_
  refine zn_iand hC dL_shut_11 (z_andn _ _) ?_
  refine zr_istore_n hC dL_shut_12 (by decide) ?_
  refine zk_iconst hC dL_shut_13 (v := nI 1) (by decide +kernel) ?_
  refine zr_istore hC dL_shut_14 (by decide) ?_
  refine zR_sub [(0, .ref 0), (1, .int (nI e)), (2, .int (nI 1)), (3, .int (nI (zan 65535 (sm (G.1 0) 1)))), (4, .int (nI 1))] ⟨rfl, rfl, rfl, rfl, rfl, trivial⟩ ?_
  refine lL_sh1 hC hg hw (fun S lv hc h => ?_) 31 1 S (by omega) (Nat.le_refl _) hc
  obtain ⟨v0, v1, v2, -⟩ := h
  refine zR_sub [(0, .ref 0), (1, .int (nI e)), (2, .int (nI 1))] ⟨v0, v1, v2, trivial⟩ ?_
  refine zk_iconst hC dL_shut_189 (v := nI 0) (by decide +kernel) ?_
  refine zr_istore hC dL_shut_190 (by decide) ?_
  refine zR_sub [(0, .ref 0), (1, .int (nI e)), (2, .int (nI 1)), (4, .int (nI 0))] ⟨rfl, rfl, rfl, rfl, trivial⟩ ?_
  refine lL_sh2 hC he hg hw hev (fun S lv hc h => ?_) 16 0 S (by omega) hc
  obtain ⟨v0, v2, -⟩ := h
  refine zR_sub [(0, .ref 0), (2, .int (nI 1))] ⟨v0, v2, trivial⟩ ?_
  have hb2 := hg.1.written
  by_cases h61 : G.1 6 1 = 0
  · refine zr_aload_n hC dL_shut_382 rfl ?_
    refine zk_iconst hC dL_shut_383 (v := nI 5) (by decide +kernel) ?_
    refine zs_callV hC (b := 0) [_] [] dL_shut_384 ml_L_37 mtX8_count tX8_count (by decide) (by decide) (by decide) rfl rfl (by decide) (by decide +kernel) (Nat.le_of_ble_eq_true rfl) rfl ?_
    refine ⟨G, _, rfl, hc, hg, fun S hc _ => ?_⟩
    rw [fc_5, h61]
    dsimp only [Option.toList, List.cons_append, List.nil_append]
    refine zk_iconst hC dL_shut_387 (v := nI 1) (by decide +kernel) ?_
    refine zn_isub hC dL_shut_388 m1_eq ?_
    refine zr_istore hC dL_shut_389 (by decide) ?_
    refine zk_iconst hC dL_shut_391 (v := nI 0) (by decide +kernel) ?_
    refine zr_istore hC dL_shut_392 (by decide) ?_
    refine zr_iload hC dL_shut_394 rfl ?_
    refine zk_bipush hC dL_shut_396 (v := nI 16) (by decide +kernel) ?_
    refine zr_icmp_ge hC dL_shut_398 (tgt := 473) (by decide) (fun c => absurd c (by decide +kernel)) (fun c_398 => ?_)
    refine zr_iload_n hC dL_shut_401 rfl ?_
    refine zr_if_eq hC dL_shut_402 (tgt := 473) (by decide) (fun c => absurd c (by decide +kernel)) (fun c_402 => ?_)
    refine zr_iload hC dL_shut_405 rfl ?_
    refine zr_if_lt hC dL_shut_407 (tgt := 473) (by decide) (fun c_407 => ?_) (fun c => absurd c (not_not_intro (by decide)))
    refine zr_iload_n hC dL_shut_473 rfl ?_
    exact zr_zreturn hC hE dL_shut_474 (Or.inr rfl) (hr _ _ (hQ _ hc))
  · refine zr_aload_n hC dL_shut_382 rfl ?_
    refine zk_iconst hC dL_shut_383 (v := nI 5) (by decide +kernel) ?_
    refine zs_callV hC (b := 0) [_] [] dL_shut_384 ml_L_37 mtX8_count tX8_count (by decide) (by decide) (by decide) rfl rfl (by decide) (by decide +kernel) (Nat.le_of_ble_eq_true rfl) rfl ?_
    refine ⟨G, _, rfl, hc, hg, fun S hc _ => ?_⟩
    rw [fc_5]
    dsimp only [Option.toList, List.cons_append, List.nil_append]
    refine zk_iconst hC dL_shut_387 (v := nI 1) (by decide +kernel) ?_
    refine zn_isub hC dL_shut_388 (pk_sub (by omega)) ?_
    refine zr_istore hC dL_shut_389 (by decide) ?_
    refine zk_iconst hC dL_shut_391 (v := nI 0) (by decide +kernel) ?_
    refine zr_istore hC dL_shut_392 (by decide) ?_
    refine zR_sub [(0, .ref 0), (2, .int (nI 1)), (4, .int (nI (G.1 6 1 - 1))), (5, .int (nI 0))] ⟨rfl, rfl, rfl, rfl, trivial⟩ ?_
    refine lL_sh3 hC hg (by omega) (fun S lv hc h => ?_) 16 0 S (by omega) hc
    obtain ⟨v2, -⟩ := h
    refine zr_iload_n hC dL_shut_473 v2 ?_
    exact zr_zreturn hC hE dL_shut_474 (Or.inr rfl) (hr _ _ (hQ _ hc))
