/-! THE CALLS OF THE MODEL: what is asked -/
theorem INV.kofm {D : zD} (h : INV D) {v : Nat} (h1 : 1 ≤ v) (h2 : v < 32) : kofm D v = kof (D 0) D v := kofm_is (fun hs => ⟨_, h.live h1 h2 hs⟩)
theorem INV.sits1 {D : zD} (h : INV D) {x : Nat} : dm (tP D 0 x) = sm (D 0) 1 := dm_ext fun m hm => by
  show (!(D 0 m == 0)) = bn (D 0 m) 1
  rcases h.leaf hm with q | q
  · rw [q]; rfl
  · rw [bn_one _ q.2 q.1]
    have : (D 0 m == 0) = false := by rw [beq_eq_false_iff_ne]; omega
    rw [this]; rfl
theorem z_pred {n : Nat} (h : n < 2147483648) : (nI n - nI 1).toInt = (n : Int) - 1 := by
  rw [Int32.toInt_sub, nI_toInt h, nI_toInt (by decide)]
  exact Int.bmod_eq_of_le (by omega) (by omega)
theorem z_pred_ge {n : Nat} (h : n < 2147483648) : 0 ≤ nI n - nI 1 ↔ n ≠ 0 := by
  rw [Int32.le_iff_toInt_le, z_pred h, show (0 : Int32).toInt = 0 by decide]
  omega
theorem z_i32 (x : Int32) : x.toInt64.toInt = x.toInt := Int32.toInt_toInt64 x
theorem z_known {x : Int32} {n : Nat} (hn : n < 2147483648) {r : Int32} (e : (r = nI 1 ∧ 0 ≤ x.toInt ∧ x.toInt < n) ∨ (r = nI 0 ∧ ¬ (0 ≤ x.toInt ∧ x.toInt < n))) : (r = nI 1 ∧ ∃ j, j < n ∧ x = nI j) ∨ (r = nI 0 ∧ (x < 0 ∨ nI n ≤ x)) := by
  rcases e with ⟨rfl, h1, h2⟩ | ⟨rfl, h⟩
  · obtain ⟨j, hj, rfl⟩ := nI_of (x := x) (by rw [Int32.lt_iff_toInt_lt]; exact fun q => absurd (show x.toInt < 0 from q) (by omega))
    rw [nI_toInt hj] at h2
    exact Or.inl ⟨rfl, j, by omega, rfl⟩
  · refine Or.inr ⟨rfl, ?_⟩
    rw [Int32.lt_iff_toInt_lt, Int32.le_iff_toInt_le, nI_toInt hn, show (0 : Int32).toInt = 0 by decide]
    omega
theorem z_in64 {v h : Int64} {n : Nat} {r : Int32} (hh : h.toInt = (n : Int) - 1) (e : (r = nI 1 ∧ ¬ v < 0 ∧ ¬ h < v) ∨ (r = nI 0 ∧ (v < 0 ∨ h < v))) : (r = nI 1 ∧ 0 ≤ v.toInt ∧ v.toInt < n) ∨ (r = nI 0 ∧ ¬ (0 ≤ v.toInt ∧ v.toInt < n)) := by
  rw [fa_lt64, fa_lt64, hh, show (0 : Int64).toInt = 0 by decide] at e
  rcases e with ⟨rfl, e1, e2⟩ | ⟨rfl, e⟩
  · exact Or.inl ⟨rfl, by omega, by omega⟩
  · exact Or.inr ⟨rfl, by omega⟩
theorem lbI_pos {n : Nat} (h : n ≠ 0) : lbI n = nI (n - 1) := by
  cases n with
  | zero => exact absurd rfl h
  | succ n => rfl
set_option maxHeartbeats 4000000 in
set_option maxRecDepth 100000 in
theorem l9_held {C : zCx} {τ : Nat → ClassId} {ι : Nat → Nat} (hC : zOK C τ (zrm 2 0 0) yX9_held.cls cX9_held 4) {S : zS} {D : zD} {m : Nat} (hM : MW (S.1 246) D) (hm : m < 16) (k : ∀ lv, zlk 2 lv = some (.int (nI (hby D m (D 6 0)))) → zR C τ ι 4 0 0 37 lv [] (zcells S)) : ∀ (d i : Nat), i + d = D 6 0 → zR C τ ι 4 0 0 4 [(0, .ref 245), (1, .int (nI m)), (2, .int (nI (hby D m i))), (3, .int (nI i))] [] (zcells S) := by
  intro d
  induction d with
  | zero =>
    intro i hi
    refine zr_iload_n hC dX9_held_4 rfl ?_
    refine zr_aload_n hC dX9_held_5 rfl ?_
    refine zs_getr hC dX9_held_6 fl_X9_7 (a := 245) (r := 246) rfl (by decide) ?_
    refine zk_iconst hC dX9_held_9 (v := nI 0) (by decide +kernel) ?_
    refine zv_iald hC dX9_held_10 (a := 246) (n := 752) rfl (by decide) (by decide) (j := 0) rfl (by decide) (hM.1.1.1) ?_
    refine zr_icmp_ge hC dX9_held_11 (tgt := 37) (by decide) (fun c_11 => ?_) (fun c => absurd c (not_not_intro (nI_le (by omega) (by have := hM.made; omega))))
    exact k _ (by rw [show D 6 0 = i by omega]; rfl)
  | succ d ih =>
    intro i hi
    refine zr_iload_n hC dX9_held_4 rfl ?_
    refine zr_aload_n hC dX9_held_5 rfl ?_
    refine zs_getr hC dX9_held_6 fl_X9_7 (a := 245) (r := 246) rfl (by decide) ?_
    refine zk_iconst hC dX9_held_9 (v := nI 0) (by decide +kernel) ?_
    refine zv_iald hC dX9_held_10 (a := 246) (n := 752) rfl (by decide) (by decide) (j := 0) rfl (by decide) (hM.1.1.1) ?_
    refine zr_icmp_ge hC dX9_held_11 (tgt := 37) (by decide) (fun c => absurd c (nI_ge (by omega) (by have := hM.made; omega))) (fun c_11 => ?_)
    refine zr_iload_n hC dX9_held_14 rfl ?_
    refine zr_aload_n hC dX9_held_15 rfl ?_
    refine zr_iload_n hC dX9_held_16 rfl ?_
    refine zr_iload_n hC dX9_held_17 rfl ?_
    refine zs_callV hC (b := 245) [_, _] [_] dX9_held_18 ml_X9_117 mtX9_holds tX9_holds (by decide) (by decide) (by decide) rfl rfl (by decide) (by decide +kernel) (Nat.le_of_ble_eq_true rfl) rfl ?_
    refine ⟨m, i, D, rfl, hm, by omega, hM, fun r e => ?_⟩
    rcases e with ⟨rfl, hx⟩ | ⟨rfl, hx⟩
    · dsimp only [Option.toList, List.cons_append, List.nil_append]
      refine zr_if_eq hC dX9_held_21 (tgt := 28) (by decide) (fun c => absurd c (by decide +kernel)) (fun c_21 => ?_)
      refine zk_iconst hC dX9_held_24 (v := nI 1) (by decide +kernel) ?_
      refine zr_goto hC dX9_held_25 (tgt := 29) (by decide) ?_
      refine zn_iadd hC dX9_held_29 (nI_add _ _) ?_
      refine zr_istore_n hC dX9_held_30 (by decide) ?_
      refine zn_iinc hC dX9_held_31 rfl (by decide) (zk_inc _ 1) ?_
      refine zr_goto hC dX9_held_34 (tgt := 4) (by decide) ?_
      exact zR_sub [(0, .ref 245), (1, .int (nI m)), (2, .int (nI (hby D m (i + 1)))), (3, .int (nI (i + 1)))] ⟨rfl, rfl, zlk_eq rfl (by simp [hby, hx]), rfl, trivial⟩ (ih (i + 1) (by omega))
    · dsimp only [Option.toList, List.cons_append, List.nil_append]
      refine zr_if_eq hC dX9_held_21 (tgt := 28) (by decide) (fun c_21 => ?_) (fun c => absurd c (by decide +kernel))
      refine zk_iconst hC dX9_held_28 (v := nI 0) (by decide +kernel) ?_
      refine zn_iadd hC dX9_held_29 (nI_add _ _) ?_
      refine zr_istore_n hC dX9_held_30 (by decide) ?_
      refine zn_iinc hC dX9_held_31 rfl (by decide) (zk_inc _ 1) ?_
      refine zr_goto hC dX9_held_34 (tgt := 4) (by decide) ?_
      exact zR_sub [(0, .ref 245), (1, .int (nI m)), (2, .int (nI (hby D m (i + 1)))), (3, .int (nI (i + 1)))] ⟨rfl, rfl, zlk_eq rfl (by simp [hby, hx]), rfl, trivial⟩ (ih (i + 1) (by omega))
def spX9_held : zSp := fun av S Q => ∃ (m : Nat) (D : zD), av = [.ref 245, .int (nI m)] ∧ m < 16 ∧ MW (S.1 246) D ∧ Q (some (.int (nI (hby D m (D 6 0))))) S
set_option maxHeartbeats 4000000 in
set_option maxRecDepth 100000 in
theorem tX9_held : zM yX9_held cX9_held 4 (some .int) 2 spX9_held := by
  refine zM.of (by decide) (by decide) (fun av S Q h => by obtain ⟨m, D, rfl, hm, hM, hQ⟩ := h; exact Nat.le_of_ble_eq_true rfl) (fun C τ ι av S Q Qr h hr hC hE => ?_)
  obtain ⟨m, D, rfl, hm, hM, hQ⟩ := h
  show zR C τ ι _ 0 0 0 [(0, .ref 245), (1, .int (nI m))] [] _
  refine zk_iconst hC dX9_held_0 (v := nI 0) (by decide +kernel) ?_
  refine zr_istore_n hC dX9_held_1 (by decide) ?_
  refine zk_iconst hC dX9_held_2 (v := nI 0) (by decide +kernel) ?_
  refine zr_istore_n hC dX9_held_3 (by decide) ?_
  refine zR_sub [(0, .ref 245), (1, .int (nI m)), (2, .int (nI (hby D m 0))), (3, .int (nI 0))] ⟨rfl, rfl, rfl, rfl, trivial⟩ (l9_held hC hM hm (fun lv h2 => ?_) (D 6 0) 0 (by omega))
  refine zr_iload_n hC dX9_held_37 h2 ?_
  exact zr_ireturn hC hE dX9_held_38 (hr _ _ hQ)
def spX9_lacking : zSp := fun av S Q => ∃ (D : zD), av = [.ref 245] ∧ MW (S.1 246) D ∧ INV D ∧ Q (some (.int (if sm (D 0) 1 = 0 then nI 0 else nI (zan (sm (D 0) 1) (D 9 (key D 1)))))) S
set_option maxHeartbeats 4000000 in
set_option maxRecDepth 100000 in
theorem tX9_lacking : zM yX9_lacking cX9_lacking 2 (some .int) 3 spX9_lacking := by
  refine zM.of (by decide) (by decide) (fun av S Q h => by obtain ⟨D, rfl, hM, hI, hQ⟩ := h; exact Nat.le_of_ble_eq_true rfl) (fun C τ ι av S Q Qr h hr hC hE => ?_)
  obtain ⟨D, rfl, hM, hI, hQ⟩ := h
  show zR C τ ι _ 0 0 0 [(0, .ref 245)] [] _
  refine zr_aload_n hC dX9_lacking_0 rfl ?_
  refine zk_iconst hC dX9_lacking_1 (v := nI 1) (by decide +kernel) ?_
  refine zs_callV hC (b := 245) [_] [] dX9_lacking_2 ml_X9_140 mtX9_keyOf tX9_keyOf (by decide) (by decide) (by decide) rfl rfl (by decide) (by decide +kernel) (Nat.le_of_ble_eq_true rfl) rfl ?_
  refine ⟨1, D, rfl, by decide, hM, ?_⟩
  rw [hI.kofm (by decide) (by decide)]
  dsimp only [Option.toList, List.cons_append, List.nil_append]
  by_cases hs : sm (D 0) 1 = 0
  · rw [show kof (D 0) D 1 = -4 from if_pos hs]
    rw [if_pos hs] at hQ
    refine zr_istore_n hC dX9_lacking_5 (by decide) ?_
    refine zr_iload_n hC dX9_lacking_6 rfl ?_
    refine zr_if_ge hC dX9_lacking_7 (tgt := 14) (by decide) (fun c => absurd c (by decide)) (fun c_7 => ?_)
    refine zk_iconst hC dX9_lacking_10 (v := nI 0) (by decide +kernel) ?_
    refine zr_goto hC dX9_lacking_11 (tgt := 33) (by decide) ?_
    exact zr_ireturn hC hE dX9_lacking_33 (hr _ _ (hQ))
  · rw [show kof (D 0) D 1 = nI (key D 1) from if_neg hs]
    rw [if_neg hs] at hQ
    have hk : key D 1 < D 6 0 := hI.root hs
    refine zr_istore_n hC dX9_lacking_5 (by decide) ?_
    refine zr_iload_n hC dX9_lacking_6 rfl ?_
    refine zr_if_ge hC dX9_lacking_7 (tgt := 14) (by decide) (fun c_7 => ?_) (fun c => absurd c (not_not_intro (nI_pos' (by have := hI.made; omega))))
    refine zr_aload_n hC dX9_lacking_14 rfl ?_
    refine zk_iconst hC dX9_lacking_15 (v := nI 0) (by decide +kernel) ?_
    refine zk_iconst hC dX9_lacking_16 (v := nI 0) (by decide +kernel) ?_
    refine zs_callV hC (b := 245) [_, _] [] dX9_lacking_17 ml_X9_108 mtX9_those tX9_those (by decide) (by decide) (by decide) rfl rfl (by decide) (by decide +kernel) (Nat.le_of_ble_eq_true rfl) rfl ?_
    refine ⟨0, 0, D, rfl, Or.inl rfl, by decide, hM, ?_⟩
    rw [hI.sits1]
    dsimp only [Option.toList, List.cons_append, List.nil_append]
    refine zr_aload_n hC dX9_lacking_20 rfl ?_
    refine zs_getr hC dX9_lacking_21 fl_X9_7 (a := 245) (r := 246) rfl (by decide) ?_
    refine zk_sipush hC dX9_lacking_24 (v := nI 330) (by decide +kernel) ?_
    refine zr_iload_n hC dX9_lacking_27 rfl ?_
    refine zn_iadd hC dX9_lacking_28 (nI_add _ _) ?_
    refine zv_iald hC dX9_lacking_29 (a := 246) (n := 752) rfl (by decide) (by decide) (j := 330 + key D 1) rfl (by have := hI.made; omega) (hM.hold hk) ?_
    refine zk_iconst hC dX9_lacking_30 (v := (-1)) (by decide +kernel) ?_
    refine zr_ixor hC dX9_lacking_31 ?_
    refine zn_iand hC dX9_lacking_32 (z_andn _ _) ?_
    exact zr_ireturn hC hE dX9_lacking_33 (hr _ _ (hQ))
def spX9_count : zSp := fun av S Q => ∃ (G : zG) (w : Int32), av = [.ref 245, .int w] ∧ MG S G ∧ GI G ∧ ∀ S', MG S' G → zfm S S' → Q (some (.int (fCount w G))) S'
set_option maxHeartbeats 4000000 in
set_option maxRecDepth 100000 in
theorem tX9_count : zM yX9_count cX9_count 2 (some .int) 4 spX9_count := by
  refine zM.of (by decide) (by decide) (fun av S Q h => by obtain ⟨G, w, rfl, hMG, hGI, hQ⟩ := h; exact Nat.le_of_ble_eq_true rfl) (fun C τ ι av S Q Qr h hr hC hE => ?_)
  obtain ⟨G, w, rfl, hMG, hGI, hQ⟩ := h
  show zR C τ ι _ 0 0 0 [(0, .ref 245), (1, .int w)] [] _
  rcases z_sw9 w with hw | rfl | rfl | rfl | rfl | rfl | rfl | rfl | rfl | rfl
  · simp only [fCount, mm_no hw] at hQ
    refine zr_iload_n hC dX9_count_0 rfl ?_
    refine zr_tableOut hC dX9_count_1 (tgt := 111) (z_out hw (by decide)) (by decide) ?_
    refine zk_iconst hC dX9_count_111 (v := (-1)) (by decide +kernel) ?_
    exact zr_ireturn hC hE dX9_count_112 (hr _ _ (hQ _ hMG zfm.rf))
  · simp only [fCount, mm_yes (show 0 < 9 by decide) (show 9 < 2147483648 by decide), aCount] at hQ
    refine zr_iload_n hC dX9_count_0 rfl ?_
    refine zr_tableIn hC dX9_count_1 (off := 51) (tgt := 52) (by decide +kernel) (by decide +kernel) (by decide +kernel) (by decide) ?_
    refine zr_aload_n hC dX9_count_52 rfl ?_
    refine zk_iconst hC dX9_count_53 (v := nI 0) (by decide +kernel) ?_
    refine zk_iconst hC dX9_count_54 (v := nI 0) (by decide +kernel) ?_
    refine zs_callV hC (b := 245) [_, _] [] dX9_count_55 ml_X9_108 mtX9_those tX9_those (by decide) (by decide) (by decide) rfl rfl (by decide) (by decide +kernel) (Nat.le_of_ble_eq_true rfl) rfl ?_
    refine ⟨0, 0, G.1, rfl, Or.inl rfl, by decide, hMG.1, ?_⟩
    rw [hGI.1.sits1]
    dsimp only [Option.toList, List.cons_append, List.nil_append]
    exact zr_ireturn hC hE dX9_count_58 (hr _ _ (hQ _ hMG zfm.rf))
  · simp only [fCount, mm_yes (show 1 < 9 by decide) (show 9 < 2147483648 by decide), aCount] at hQ
    refine zr_iload_n hC dX9_count_0 rfl ?_
    refine zr_tableIn hC dX9_count_1 (off := 58) (tgt := 59) (by decide +kernel) (by decide +kernel) (by decide +kernel) (by decide) ?_
    refine zr_aload_n hC dX9_count_59 rfl ?_
    refine zk_iconst hC dX9_count_60 (v := nI 3) (by decide +kernel) ?_
    refine zk_iconst hC dX9_count_61 (v := nI 1) (by decide +kernel) ?_
    refine zs_callV hC (b := 245) [_, _] [] dX9_count_62 ml_X9_108 mtX9_those tX9_those (by decide) (by decide) (by decide) rfl rfl (by decide) (by decide +kernel) (Nat.le_of_ble_eq_true rfl) rfl ?_
    refine ⟨3, 1, G.1, rfl, Or.inr (Or.inr rfl), by decide, hMG.1, ?_⟩
    dsimp only [Option.toList, List.cons_append, List.nil_append]
    exact zr_ireturn hC hE dX9_count_65 (hr _ _ (hQ _ hMG zfm.rf))
  · simp only [fCount, mm_yes (show 2 < 9 by decide) (show 9 < 2147483648 by decide), aCount] at hQ
    refine zr_iload_n hC dX9_count_0 rfl ?_
    refine zr_tableIn hC dX9_count_1 (off := 65) (tgt := 66) (by decide +kernel) (by decide +kernel) (by decide +kernel) (by decide) ?_
    refine zr_aload_n hC dX9_count_66 rfl ?_
    refine zk_iconst hC dX9_count_67 (v := nI 3) (by decide +kernel) ?_
    refine zk_iconst hC dX9_count_68 (v := nI 2) (by decide +kernel) ?_
    refine zs_callV hC (b := 245) [_, _] [] dX9_count_69 ml_X9_108 mtX9_those tX9_those (by decide) (by decide) (by decide) rfl rfl (by decide) (by decide +kernel) (Nat.le_of_ble_eq_true rfl) rfl ?_
    refine ⟨3, 2, G.1, rfl, Or.inr (Or.inr rfl), by decide, hMG.1, ?_⟩
    dsimp only [Option.toList, List.cons_append, List.nil_append]
    exact zr_ireturn hC hE dX9_count_72 (hr _ _ (hQ _ hMG zfm.rf))
  · simp only [fCount, mm_yes (show 3 < 9 by decide) (show 9 < 2147483648 by decide), aCount] at hQ
    refine zr_iload_n hC dX9_count_0 rfl ?_
    refine zr_tableIn hC dX9_count_1 (off := 72) (tgt := 73) (by decide +kernel) (by decide +kernel) (by decide +kernel) (by decide) ?_
    refine zr_aload_n hC dX9_count_73 rfl ?_
    refine zk_iconst hC dX9_count_74 (v := nI 1) (by decide +kernel) ?_
    refine zk_iconst hC dX9_count_75 (v := nI 1) (by decide +kernel) ?_
    refine zs_callV hC (b := 245) [_, _] [] dX9_count_76 ml_X9_108 mtX9_those tX9_those (by decide) (by decide) (by decide) rfl rfl (by decide) (by decide +kernel) (Nat.le_of_ble_eq_true rfl) rfl ?_
    refine ⟨1, 1, G.1, rfl, Or.inr (Or.inl rfl), by decide, hMG.1, ?_⟩
    dsimp only [Option.toList, List.cons_append, List.nil_append]
    exact zr_ireturn hC hE dX9_count_79 (hr _ _ (hQ _ hMG zfm.rf))
  · simp only [fCount, mm_yes (show 4 < 9 by decide) (show 9 < 2147483648 by decide), aCount] at hQ
    refine zr_iload_n hC dX9_count_0 rfl ?_
    refine zr_tableIn hC dX9_count_1 (off := 79) (tgt := 80) (by decide +kernel) (by decide +kernel) (by decide +kernel) (by decide) ?_
    refine zr_aload_n hC dX9_count_80 rfl ?_
    refine zs_getr hC dX9_count_81 fl_X9_7 (a := 245) (r := 246) rfl (by decide) ?_
    refine zk_iconst hC dX9_count_84 (v := nI 0) (by decide +kernel) ?_
    refine zv_iald hC dX9_count_85 (a := 246) (n := 752) rfl (by decide) (by decide) (j := 0) rfl (by decide) (hMG.1.1.1.1) ?_
    exact zr_ireturn hC hE dX9_count_86 (hr _ _ (hQ _ hMG zfm.rf))
  · simp only [fCount, mm_yes (show 5 < 9 by decide) (show 9 < 2147483648 by decide), aCount] at hQ
    refine zr_iload_n hC dX9_count_0 rfl ?_
    refine zr_tableIn hC dX9_count_1 (off := 86) (tgt := 87) (by decide +kernel) (by decide +kernel) (by decide +kernel) (by decide) ?_
    refine zr_aload_n hC dX9_count_87 rfl ?_
    refine zs_getr hC dX9_count_88 fl_X9_7 (a := 245) (r := 246) rfl (by decide) ?_
    refine zk_iconst hC dX9_count_91 (v := nI 1) (by decide +kernel) ?_
    refine zv_iald hC dX9_count_92 (a := 246) (n := 752) rfl (by decide) (by decide) (j := 1) rfl (by decide) (hMG.1.1.1.2.1) ?_
    exact zr_ireturn hC hE dX9_count_93 (hr _ _ (hQ _ hMG zfm.rf))
  · simp only [fCount, mm_yes (show 6 < 9 by decide) (show 9 < 2147483648 by decide), aCount] at hQ
    refine zr_iload_n hC dX9_count_0 rfl ?_
    refine zr_tableIn hC dX9_count_1 (off := 93) (tgt := 94) (by decide +kernel) (by decide +kernel) (by decide +kernel) (by decide) ?_
    refine zr_aload_n hC dX9_count_94 rfl ?_
    refine zs_getr hC dX9_count_95 fl_X9_7 (a := 245) (r := 246) rfl (by decide) ?_
    refine zk_iconst hC dX9_count_98 (v := nI 2) (by decide +kernel) ?_
    refine zv_iald hC dX9_count_99 (a := 246) (n := 752) rfl (by decide) (by decide) (j := 2) rfl (by decide) (hMG.1.1.1.2.2.1) ?_
    exact zr_ireturn hC hE dX9_count_100 (hr _ _ (hQ _ hMG zfm.rf))
  · simp only [fCount, mm_yes (show 7 < 9 by decide) (show 9 < 2147483648 by decide), aCount] at hQ
    refine zr_iload_n hC dX9_count_0 rfl ?_
    refine zr_tableIn hC dX9_count_1 (off := 100) (tgt := 101) (by decide +kernel) (by decide +kernel) (by decide +kernel) (by decide) ?_
    refine zr_aload_n hC dX9_count_101 rfl ?_
    refine zs_callV hC (b := 245) [] [] dX9_count_102 ml_X9_166 mtX9_lacking tX9_lacking (by decide) (by decide) (by decide) rfl rfl (by decide) (by decide +kernel) (Nat.le_of_ble_eq_true rfl) rfl ?_
    refine ⟨G.1, rfl, hMG.1, hGI.1, ?_⟩
    dsimp only [Option.toList, List.cons_append, List.nil_append]
    exact zr_ireturn hC hE dX9_count_105 (hr _ _ (hQ _ hMG zfm.rf))
  · simp only [fCount, mm_yes (show 8 < 9 by decide) (show 9 < 2147483648 by decide), aCount] at hQ
    refine zr_iload_n hC dX9_count_0 rfl ?_
    refine zr_tableIn hC dX9_count_1 (off := 105) (tgt := 106) (by decide +kernel) (by decide +kernel) (by decide +kernel) (by decide) ?_
    refine zr_aload_n hC dX9_count_106 rfl ?_
    refine zv_geti hC dX9_count_107 fl_X9_169 (a := 245) rfl (by decide) (hMG.2.1.1) ?_
    exact zr_ireturn hC hE dX9_count_110 (hr _ _ (hQ _ hMG zfm.rf))
def spX9_member : zSp := fun av S Q => ∃ (G : zG) (x : Int32) (w : Int32), av = [.ref 245, .int x, .int w] ∧ MG S G ∧ GI G ∧ ∀ S', MG S' G → zfm S S' → Q (some (.int (fMember x w G))) S'
set_option maxHeartbeats 4000000 in
set_option maxRecDepth 100000 in
theorem tX9_member : zM yX9_member cX9_member 4 (some .int) 3 spX9_member := by
  refine zM.of (by decide) (by decide) (fun av S Q h => by obtain ⟨G, x, w, rfl, hMG, hGI, hQ⟩ := h; exact Nat.le_of_ble_eq_true rfl) (fun C τ ι av S Q Qr h hr hC hE => ?_)
  obtain ⟨G, x, w, rfl, hMG, hGI, hQ⟩ := h
  show zR C τ ι _ 0 0 0 [(0, .ref 245), (1, .int x), (2, .int w)] [] _
  refine zr_iload_n hC dX9_member_0 rfl ?_
  refine zs_callS hC [_] [] dX9_member_1 ml_X9_98 mtX9_isMember tX9_isMember (by decide) (by decide) (by decide) rfl (Nat.le_of_ble_eq_true rfl) rfl ?_
  refine ⟨x, rfl, fun r e => ?_⟩
  rcases e with ⟨rfl, m, hm, rfl⟩ | ⟨rfl, hx⟩
  · dsimp only [Option.toList, List.cons_append, List.nil_append]
    refine zr_if_ne hC dX9_member_4 (tgt := 9) (by decide) (fun c_4 => ?_) (fun c => absurd c (by decide +kernel))
    refine zr_aload_n hC dX9_member_9 rfl ?_
    refine zk_iconst hC dX9_member_10 (v := nI 1) (by decide +kernel) ?_
    refine zs_callV hC (b := 245) [_] [] dX9_member_11 ml_X9_140 mtX9_keyOf tX9_keyOf (by decide) (by decide) (by decide) rfl rfl (by decide) (by decide +kernel) (Nat.le_of_ble_eq_true rfl) rfl ?_
    refine ⟨1, G.1, rfl, by decide, hMG.1, ?_⟩
    rw [hGI.1.kofm (by decide) (by decide)]
    dsimp only [Option.toList, List.cons_append, List.nil_append]
    by_cases hs : sm (G.1 0) 1 = 0
    · rw [show kof (G.1 0) G.1 1 = -4 from if_pos hs]
      refine zr_istore_n hC dX9_member_14 (by decide) ?_
      rcases z_sw6 w with hw | rfl | rfl | rfl | rfl | rfl | rfl
      · simp only [fMember, mm_yes hm (show 16 < 2147483648 by decide), mm_no hw] at hQ
        refine zr_iload_n hC dX9_member_15 rfl ?_
        refine zr_tableOut hC dX9_member_16 (tgt := 147) (z_out hw (by decide)) (by decide) ?_
        refine zk_iconst hC dX9_member_147 (v := (-1)) (by decide +kernel) ?_
        exact zr_ireturn hC hE dX9_member_148 (hr _ _ (hQ _ hMG zfm.rf))
      · simp only [fMember, mm_yes hm (show 16 < 2147483648 by decide), mm_yes (show 0 < 6 by decide) (show 6 < 2147483648 by decide), aMember, if_pos hs] at hQ
        refine zr_iload_n hC dX9_member_15 rfl ?_
        refine zr_tableIn hC dX9_member_16 (off := 40) (tgt := 56) (by decide +kernel) (by decide +kernel) (by decide +kernel) (by decide) ?_
        refine zr_aload_n hC dX9_member_56 rfl ?_
        refine zr_iload_n hC dX9_member_57 rfl ?_
        refine zs_callV hC (b := 245) [_] [] dX9_member_58 ml_X9_68 mtX9_sits tX9_sits (by decide) (by decide) (by decide) rfl rfl (by decide) (by decide +kernel) (Nat.le_of_ble_eq_true rfl) rfl ?_
        refine ⟨m, G.1, rfl, hm, hMG.1, fun r e => ?_⟩
        rcases e with ⟨rfl, hx⟩ | ⟨rfl, hx⟩
        · rw [if_pos hx] at hQ
          dsimp only [Option.toList, List.cons_append, List.nil_append]
          refine zr_if_eq hC dX9_member_61 (tgt := 73) (by decide) (fun c => absurd c (by decide +kernel)) (fun c_61 => ?_)
          refine zr_aload_n hC dX9_member_64 rfl ?_
          refine zr_iload_n hC dX9_member_65 rfl ?_
          refine zk_iconst hC dX9_member_66 (v := nI 0) (by decide +kernel) ?_
          refine zs_callV hC (b := 245) [_, _] [] dX9_member_67 ml_X9_64 mtX9_of tX9_of (by decide) (by decide) (by decide) rfl rfl (by decide) (by decide +kernel) (Nat.le_of_ble_eq_true rfl) rfl ?_
          refine ⟨m, 0, rfl, hm, by decide, ?_⟩
          rw [show S.1 246 (4 + 6 * m + 0) = nI (G.1 0 m) from MW.mem hMG.1 hm (by decide)]
          dsimp only [Option.toList, List.cons_append, List.nil_append]
          refine zr_goto hC dX9_member_70 (tgt := 75) (by decide) ?_
          exact zr_ireturn hC hE dX9_member_75 (hr _ _ (hQ _ hMG zfm.rf))
        · rw [if_neg (not_not_intro hx)] at hQ
          dsimp only [Option.toList, List.cons_append, List.nil_append]
          refine zr_if_eq hC dX9_member_61 (tgt := 73) (by decide) (fun c_61 => ?_) (fun c => absurd c (by decide +kernel))
          refine zk_bipush hC dX9_member_73 (v := (-4)) (by decide +kernel) ?_
          exact zr_ireturn hC hE dX9_member_75 (hr _ _ (hQ _ hMG zfm.rf))
      · simp only [fMember, mm_yes hm (show 16 < 2147483648 by decide), mm_yes (show 1 < 6 by decide) (show 6 < 2147483648 by decide), aMember, if_pos hs] at hQ
        refine zr_iload_n hC dX9_member_15 rfl ?_
        refine zr_tableIn hC dX9_member_16 (off := 60) (tgt := 76) (by decide +kernel) (by decide +kernel) (by decide +kernel) (by decide) ?_
        refine zr_aload_n hC dX9_member_76 rfl ?_
        refine zr_iload_n hC dX9_member_77 rfl ?_
        refine zs_callV hC (b := 245) [_] [] dX9_member_78 ml_X9_172 mtX9_held tX9_held (by decide) (by decide) (by decide) rfl rfl (by decide) (by decide +kernel) (Nat.le_of_ble_eq_true rfl) rfl ?_
        refine ⟨m, G.1, rfl, hm, hMG.1, ?_⟩
        dsimp only [Option.toList, List.cons_append, List.nil_append]
        exact zr_ireturn hC hE dX9_member_81 (hr _ _ (hQ _ hMG zfm.rf))
      · simp only [fMember, mm_yes hm (show 16 < 2147483648 by decide), mm_yes (show 2 < 6 by decide) (show 6 < 2147483648 by decide), aMember, if_pos hs] at hQ
        refine zr_iload_n hC dX9_member_15 rfl ?_
        refine zr_tableIn hC dX9_member_16 (off := 66) (tgt := 82) (by decide +kernel) (by decide +kernel) (by decide +kernel) (by decide) ?_
        refine zr_iload_n hC dX9_member_82 rfl ?_
        refine zr_if_ge hC dX9_member_83 (tgt := 91) (by decide) (fun c => absurd c (by decide)) (fun c_83 => ?_)
        refine zk_bipush hC dX9_member_86 (v := (-4)) (by decide +kernel) ?_
        refine zr_goto hC dX9_member_88 (tgt := 105) (by decide) ?_
        exact zr_ireturn hC hE dX9_member_105 (hr _ _ (hQ _ hMG zfm.rf))
      · simp only [fMember, mm_yes hm (show 16 < 2147483648 by decide), mm_yes (show 3 < 6 by decide) (show 6 < 2147483648 by decide), aMember, if_pos hs] at hQ
        refine zr_iload_n hC dX9_member_15 rfl ?_
        refine zr_tableIn hC dX9_member_16 (off := 90) (tgt := 106) (by decide +kernel) (by decide +kernel) (by decide +kernel) (by decide) ?_
        refine zr_aload_n hC dX9_member_106 rfl ?_
        refine zr_iload_n hC dX9_member_107 rfl ?_
        refine zk_iconst hC dX9_member_108 (v := nI 1) (by decide +kernel) ?_
        refine zs_callV hC (b := 245) [_, _] [] dX9_member_109 ml_X9_64 mtX9_of tX9_of (by decide) (by decide) (by decide) rfl rfl (by decide) (by decide +kernel) (Nat.le_of_ble_eq_true rfl) rfl ?_
        refine ⟨m, 1, rfl, hm, by decide, ?_⟩
        rw [show S.1 246 (4 + 6 * m + 1) = nI (G.1 2 m) from MW.mem hMG.1 hm (by decide)]
        dsimp only [Option.toList, List.cons_append, List.nil_append]
        exact zr_ireturn hC hE dX9_member_112 (hr _ _ (hQ _ hMG zfm.rf))
      · simp only [fMember, mm_yes hm (show 16 < 2147483648 by decide), mm_yes (show 4 < 6 by decide) (show 6 < 2147483648 by decide), aMember, if_pos hs] at hQ
        refine zr_iload_n hC dX9_member_15 rfl ?_
        refine zr_tableIn hC dX9_member_16 (off := 97) (tgt := 113) (by decide +kernel) (by decide +kernel) (by decide +kernel) (by decide) ?_
        refine zr_aload_n hC dX9_member_113 rfl ?_
        refine zr_iload_n hC dX9_member_114 rfl ?_
        refine zs_callV hC (b := 245) [_] [] dX9_member_115 ml_X9_68 mtX9_sits tX9_sits (by decide) (by decide) (by decide) rfl rfl (by decide) (by decide +kernel) (Nat.le_of_ble_eq_true rfl) rfl ?_
        refine ⟨m, G.1, rfl, hm, hMG.1, fun r e => ?_⟩
        rcases e with ⟨rfl, hx⟩ | ⟨rfl, hx⟩
        · rw [if_pos hx] at hQ
          dsimp only [Option.toList, List.cons_append, List.nil_append]
          refine zr_if_eq hC dX9_member_118 (tgt := 137) (by decide) (fun c => absurd c (by decide +kernel)) (fun c_118 => ?_)
          refine zr_aload_n hC dX9_member_121 rfl ?_
          refine zs_getr hC dX9_member_122 fl_X9_7 (a := 245) (r := 246) rfl (by decide) ?_
          refine zk_iconst hC dX9_member_125 (v := nI 1) (by decide +kernel) ?_
          refine zv_iald hC dX9_member_126 (a := 246) (n := 752) rfl (by decide) (by decide) (j := 1) rfl (by decide) (hMG.1.1.1.2.1) ?_
          refine zr_aload_n hC dX9_member_127 rfl ?_
          refine zr_iload_n hC dX9_member_128 rfl ?_
          refine zk_iconst hC dX9_member_129 (v := nI 2) (by decide +kernel) ?_
          refine zs_callV hC (b := 245) [_, _] [_] dX9_member_130 ml_X9_64 mtX9_of tX9_of (by decide) (by decide) (by decide) rfl rfl (by decide) (by decide +kernel) (Nat.le_of_ble_eq_true rfl) rfl ?_
          refine ⟨m, 2, rfl, hm, by decide, ?_⟩
          rw [show S.1 246 (4 + 6 * m + 2) = nI (G.1 3 m) from MW.mem hMG.1 hm (by decide)]
          dsimp only [Option.toList, List.cons_append, List.nil_append]
          refine zn_isub hC dX9_member_133 (pk_sub (hGI.1.read hm hx)) ?_
          refine zr_goto hC dX9_member_134 (tgt := 139) (by decide) ?_
          exact zr_ireturn hC hE dX9_member_139 (hr _ _ (hQ _ hMG zfm.rf))
        · rw [if_neg (not_not_intro hx)] at hQ
          dsimp only [Option.toList, List.cons_append, List.nil_append]
          refine zr_if_eq hC dX9_member_118 (tgt := 137) (by decide) (fun c_118 => ?_) (fun c => absurd c (by decide +kernel))
          refine zk_bipush hC dX9_member_137 (v := (-4)) (by decide +kernel) ?_
          exact zr_ireturn hC hE dX9_member_139 (hr _ _ (hQ _ hMG zfm.rf))
      · simp only [fMember, mm_yes hm (show 16 < 2147483648 by decide), mm_yes (show 5 < 6 by decide) (show 6 < 2147483648 by decide), aMember, if_pos hs] at hQ
        refine zr_iload_n hC dX9_member_15 rfl ?_
        refine zr_tableIn hC dX9_member_16 (off := 124) (tgt := 140) (by decide +kernel) (by decide +kernel) (by decide +kernel) (by decide) ?_
        refine zr_aload_n hC dX9_member_140 rfl ?_
        refine zr_iload_n hC dX9_member_141 rfl ?_
        refine zk_iconst hC dX9_member_142 (v := nI 3) (by decide +kernel) ?_
        refine zs_callV hC (b := 245) [_, _] [] dX9_member_143 ml_X9_64 mtX9_of tX9_of (by decide) (by decide) (by decide) rfl rfl (by decide) (by decide +kernel) (Nat.le_of_ble_eq_true rfl) rfl ?_
        refine ⟨m, 3, rfl, hm, by decide, ?_⟩
        rw [show S.1 246 (4 + 6 * m + 3) = nI (G.1 1 m) from MW.mem hMG.1 hm (by decide)]
        dsimp only [Option.toList, List.cons_append, List.nil_append]
        exact zr_ireturn hC hE dX9_member_146 (hr _ _ (hQ _ hMG zfm.rf))
    · rw [show kof (G.1 0) G.1 1 = nI (key G.1 1) from if_neg hs]
      have hk : key G.1 1 < G.1 6 0 := hGI.1.root hs
      refine zr_istore_n hC dX9_member_14 (by decide) ?_
      rcases z_sw6 w with hw | rfl | rfl | rfl | rfl | rfl | rfl
      · simp only [fMember, mm_yes hm (show 16 < 2147483648 by decide), mm_no hw] at hQ
        refine zr_iload_n hC dX9_member_15 rfl ?_
        refine zr_tableOut hC dX9_member_16 (tgt := 147) (z_out hw (by decide)) (by decide) ?_
        refine zk_iconst hC dX9_member_147 (v := (-1)) (by decide +kernel) ?_
        exact zr_ireturn hC hE dX9_member_148 (hr _ _ (hQ _ hMG zfm.rf))
      · simp only [fMember, mm_yes hm (show 16 < 2147483648 by decide), mm_yes (show 0 < 6 by decide) (show 6 < 2147483648 by decide), aMember, if_neg hs] at hQ
        refine zr_iload_n hC dX9_member_15 rfl ?_
        refine zr_tableIn hC dX9_member_16 (off := 40) (tgt := 56) (by decide +kernel) (by decide +kernel) (by decide +kernel) (by decide) ?_
        refine zr_aload_n hC dX9_member_56 rfl ?_
        refine zr_iload_n hC dX9_member_57 rfl ?_
        refine zs_callV hC (b := 245) [_] [] dX9_member_58 ml_X9_68 mtX9_sits tX9_sits (by decide) (by decide) (by decide) rfl rfl (by decide) (by decide +kernel) (Nat.le_of_ble_eq_true rfl) rfl ?_
        refine ⟨m, G.1, rfl, hm, hMG.1, fun r e => ?_⟩
        rcases e with ⟨rfl, hx⟩ | ⟨rfl, hx⟩
        · rw [if_pos hx] at hQ
          dsimp only [Option.toList, List.cons_append, List.nil_append]
          refine zr_if_eq hC dX9_member_61 (tgt := 73) (by decide) (fun c => absurd c (by decide +kernel)) (fun c_61 => ?_)
          refine zr_aload_n hC dX9_member_64 rfl ?_
          refine zr_iload_n hC dX9_member_65 rfl ?_
          refine zk_iconst hC dX9_member_66 (v := nI 0) (by decide +kernel) ?_
          refine zs_callV hC (b := 245) [_, _] [] dX9_member_67 ml_X9_64 mtX9_of tX9_of (by decide) (by decide) (by decide) rfl rfl (by decide) (by decide +kernel) (Nat.le_of_ble_eq_true rfl) rfl ?_
          refine ⟨m, 0, rfl, hm, by decide, ?_⟩
          rw [show S.1 246 (4 + 6 * m + 0) = nI (G.1 0 m) from MW.mem hMG.1 hm (by decide)]
          dsimp only [Option.toList, List.cons_append, List.nil_append]
          refine zr_goto hC dX9_member_70 (tgt := 75) (by decide) ?_
          exact zr_ireturn hC hE dX9_member_75 (hr _ _ (hQ _ hMG zfm.rf))
        · rw [if_neg (not_not_intro hx)] at hQ
          dsimp only [Option.toList, List.cons_append, List.nil_append]
          refine zr_if_eq hC dX9_member_61 (tgt := 73) (by decide) (fun c_61 => ?_) (fun c => absurd c (by decide +kernel))
          refine zk_bipush hC dX9_member_73 (v := (-4)) (by decide +kernel) ?_
          exact zr_ireturn hC hE dX9_member_75 (hr _ _ (hQ _ hMG zfm.rf))
      · simp only [fMember, mm_yes hm (show 16 < 2147483648 by decide), mm_yes (show 1 < 6 by decide) (show 6 < 2147483648 by decide), aMember, if_neg hs] at hQ
        refine zr_iload_n hC dX9_member_15 rfl ?_
        refine zr_tableIn hC dX9_member_16 (off := 60) (tgt := 76) (by decide +kernel) (by decide +kernel) (by decide +kernel) (by decide) ?_
        refine zr_aload_n hC dX9_member_76 rfl ?_
        refine zr_iload_n hC dX9_member_77 rfl ?_
        refine zs_callV hC (b := 245) [_] [] dX9_member_78 ml_X9_172 mtX9_held tX9_held (by decide) (by decide) (by decide) rfl rfl (by decide) (by decide +kernel) (Nat.le_of_ble_eq_true rfl) rfl ?_
        refine ⟨m, G.1, rfl, hm, hMG.1, ?_⟩
        dsimp only [Option.toList, List.cons_append, List.nil_append]
        exact zr_ireturn hC hE dX9_member_81 (hr _ _ (hQ _ hMG zfm.rf))
      · simp only [fMember, mm_yes hm (show 16 < 2147483648 by decide), mm_yes (show 2 < 6 by decide) (show 6 < 2147483648 by decide), aMember, if_neg hs] at hQ
        refine zr_iload_n hC dX9_member_15 rfl ?_
        refine zr_tableIn hC dX9_member_16 (off := 66) (tgt := 82) (by decide +kernel) (by decide +kernel) (by decide +kernel) (by decide) ?_
        refine zr_iload_n hC dX9_member_82 rfl ?_
        refine zr_if_ge hC dX9_member_83 (tgt := 91) (by decide) (fun c_83 => ?_) (fun c => absurd c (not_not_intro (nI_pos' (by have := hGI.1.made; omega))))
        refine zr_aload_n hC dX9_member_91 rfl ?_
        refine zr_iload_n hC dX9_member_92 rfl ?_
        refine zr_iload_n hC dX9_member_93 rfl ?_
        refine zs_callV hC (b := 245) [_, _] [] dX9_member_94 ml_X9_117 mtX9_holds tX9_holds (by decide) (by decide) (by decide) rfl rfl (by decide) (by decide +kernel) (Nat.le_of_ble_eq_true rfl) rfl ?_
        refine ⟨m, _, G.1, rfl, hm, hk, hMG.1, fun r e => ?_⟩
        rcases e with ⟨rfl, hx⟩ | ⟨rfl, hx⟩
        · rw [show hd G.1 m (key G.1 1) = true from hx] at hQ
          dsimp only [Option.toList, List.cons_append, List.nil_append]
          refine zr_if_eq hC dX9_member_97 (tgt := 104) (by decide) (fun c => absurd c (by decide +kernel)) (fun c_97 => ?_)
          refine zk_iconst hC dX9_member_100 (v := nI 1) (by decide +kernel) ?_
          refine zr_goto hC dX9_member_101 (tgt := 105) (by decide) ?_
          exact zr_ireturn hC hE dX9_member_105 (hr _ _ (hQ _ hMG zfm.rf))
        · rw [show hd G.1 m (key G.1 1) = false from hx] at hQ
          dsimp only [Option.toList, List.cons_append, List.nil_append]
          refine zr_if_eq hC dX9_member_97 (tgt := 104) (by decide) (fun c_97 => ?_) (fun c => absurd c (by decide +kernel))
          refine zk_iconst hC dX9_member_104 (v := nI 0) (by decide +kernel) ?_
          exact zr_ireturn hC hE dX9_member_105 (hr _ _ (hQ _ hMG zfm.rf))
      · simp only [fMember, mm_yes hm (show 16 < 2147483648 by decide), mm_yes (show 3 < 6 by decide) (show 6 < 2147483648 by decide), aMember, if_neg hs] at hQ
        refine zr_iload_n hC dX9_member_15 rfl ?_
        refine zr_tableIn hC dX9_member_16 (off := 90) (tgt := 106) (by decide +kernel) (by decide +kernel) (by decide +kernel) (by decide) ?_
        refine zr_aload_n hC dX9_member_106 rfl ?_
        refine zr_iload_n hC dX9_member_107 rfl ?_
        refine zk_iconst hC dX9_member_108 (v := nI 1) (by decide +kernel) ?_
        refine zs_callV hC (b := 245) [_, _] [] dX9_member_109 ml_X9_64 mtX9_of tX9_of (by decide) (by decide) (by decide) rfl rfl (by decide) (by decide +kernel) (Nat.le_of_ble_eq_true rfl) rfl ?_
        refine ⟨m, 1, rfl, hm, by decide, ?_⟩
        rw [show S.1 246 (4 + 6 * m + 1) = nI (G.1 2 m) from MW.mem hMG.1 hm (by decide)]
        dsimp only [Option.toList, List.cons_append, List.nil_append]
        exact zr_ireturn hC hE dX9_member_112 (hr _ _ (hQ _ hMG zfm.rf))
      · simp only [fMember, mm_yes hm (show 16 < 2147483648 by decide), mm_yes (show 4 < 6 by decide) (show 6 < 2147483648 by decide), aMember, if_neg hs] at hQ
        refine zr_iload_n hC dX9_member_15 rfl ?_
        refine zr_tableIn hC dX9_member_16 (off := 97) (tgt := 113) (by decide +kernel) (by decide +kernel) (by decide +kernel) (by decide) ?_
        refine zr_aload_n hC dX9_member_113 rfl ?_
        refine zr_iload_n hC dX9_member_114 rfl ?_
        refine zs_callV hC (b := 245) [_] [] dX9_member_115 ml_X9_68 mtX9_sits tX9_sits (by decide) (by decide) (by decide) rfl rfl (by decide) (by decide +kernel) (Nat.le_of_ble_eq_true rfl) rfl ?_
        refine ⟨m, G.1, rfl, hm, hMG.1, fun r e => ?_⟩
        rcases e with ⟨rfl, hx⟩ | ⟨rfl, hx⟩
        · rw [if_pos hx] at hQ
          dsimp only [Option.toList, List.cons_append, List.nil_append]
          refine zr_if_eq hC dX9_member_118 (tgt := 137) (by decide) (fun c => absurd c (by decide +kernel)) (fun c_118 => ?_)
          refine zr_aload_n hC dX9_member_121 rfl ?_
          refine zs_getr hC dX9_member_122 fl_X9_7 (a := 245) (r := 246) rfl (by decide) ?_
          refine zk_iconst hC dX9_member_125 (v := nI 1) (by decide +kernel) ?_
          refine zv_iald hC dX9_member_126 (a := 246) (n := 752) rfl (by decide) (by decide) (j := 1) rfl (by decide) (hMG.1.1.1.2.1) ?_
          refine zr_aload_n hC dX9_member_127 rfl ?_
          refine zr_iload_n hC dX9_member_128 rfl ?_
          refine zk_iconst hC dX9_member_129 (v := nI 2) (by decide +kernel) ?_
          refine zs_callV hC (b := 245) [_, _] [_] dX9_member_130 ml_X9_64 mtX9_of tX9_of (by decide) (by decide) (by decide) rfl rfl (by decide) (by decide +kernel) (Nat.le_of_ble_eq_true rfl) rfl ?_
          refine ⟨m, 2, rfl, hm, by decide, ?_⟩
          rw [show S.1 246 (4 + 6 * m + 2) = nI (G.1 3 m) from MW.mem hMG.1 hm (by decide)]
          dsimp only [Option.toList, List.cons_append, List.nil_append]
          refine zn_isub hC dX9_member_133 (pk_sub (hGI.1.read hm hx)) ?_
          refine zr_goto hC dX9_member_134 (tgt := 139) (by decide) ?_
          exact zr_ireturn hC hE dX9_member_139 (hr _ _ (hQ _ hMG zfm.rf))
        · rw [if_neg (not_not_intro hx)] at hQ
          dsimp only [Option.toList, List.cons_append, List.nil_append]
          refine zr_if_eq hC dX9_member_118 (tgt := 137) (by decide) (fun c_118 => ?_) (fun c => absurd c (by decide +kernel))
          refine zk_bipush hC dX9_member_137 (v := (-4)) (by decide +kernel) ?_
          exact zr_ireturn hC hE dX9_member_139 (hr _ _ (hQ _ hMG zfm.rf))
      · simp only [fMember, mm_yes hm (show 16 < 2147483648 by decide), mm_yes (show 5 < 6 by decide) (show 6 < 2147483648 by decide), aMember, if_neg hs] at hQ
        refine zr_iload_n hC dX9_member_15 rfl ?_
        refine zr_tableIn hC dX9_member_16 (off := 124) (tgt := 140) (by decide +kernel) (by decide +kernel) (by decide +kernel) (by decide) ?_
        refine zr_aload_n hC dX9_member_140 rfl ?_
        refine zr_iload_n hC dX9_member_141 rfl ?_
        refine zk_iconst hC dX9_member_142 (v := nI 3) (by decide +kernel) ?_
        refine zs_callV hC (b := 245) [_, _] [] dX9_member_143 ml_X9_64 mtX9_of tX9_of (by decide) (by decide) (by decide) rfl rfl (by decide) (by decide +kernel) (Nat.le_of_ble_eq_true rfl) rfl ?_
        refine ⟨m, 3, rfl, hm, by decide, ?_⟩
        rw [show S.1 246 (4 + 6 * m + 3) = nI (G.1 1 m) from MW.mem hMG.1 hm (by decide)]
        dsimp only [Option.toList, List.cons_append, List.nil_append]
        exact zr_ireturn hC hE dX9_member_146 (hr _ _ (hQ _ hMG zfm.rf))
  · simp only [fMember, mm_no hx] at hQ
    dsimp only [Option.toList, List.cons_append, List.nil_append]
    refine zr_if_ne hC dX9_member_4 (tgt := 9) (by decide) (fun c => absurd c (by decide +kernel)) (fun c_4 => ?_)
    refine zk_iconst hC dX9_member_7 (v := (-1)) (by decide +kernel) ?_
    exact zr_ireturn hC hE dX9_member_8 (hr _ _ (hQ _ hMG zfm.rf))
def spX9_node : zSp := fun av S Q => ∃ (G : zG) (x : Int32) (w : Int32), av = [.ref 245, .int x, .int w] ∧ MG S G ∧ GI G ∧ ∀ S', MG S' G → zfm S S' → Q (some (.int (fNode x w G))) S'
set_option maxHeartbeats 4000000 in
set_option maxRecDepth 100000 in
theorem tX9_node : zM yX9_node cX9_node 4 (some .int) 3 spX9_node := by
  refine zM.of (by decide) (by decide) (fun av S Q h => by obtain ⟨G, x, w, rfl, hMG, hGI, hQ⟩ := h; exact Nat.le_of_ble_eq_true rfl) (fun C τ ι av S Q Qr h hr hC hE => ?_)
  obtain ⟨G, x, w, rfl, hMG, hGI, hQ⟩ := h
  show zR C τ ι _ 0 0 0 [(0, .ref 245), (1, .int x), (2, .int w)] [] _
  refine zr_iload_n hC dX9_node_0 rfl ?_
  refine zr_i2l hC dX9_node_1 ?_
  refine zr_lconst hC dX9_node_2 ?_
  refine zr_ldc2 hC dX9_node_3 kl_X9_175 ?_
  refine zs_callS hC [_, _, _] [] dX9_node_6 ml_X9_60 mtX9_in tX9_in (by decide) (by decide) (by decide) rfl (Nat.le_of_ble_eq_true rfl) rfl ?_
  refine ⟨_, _, _, rfl, fun r e => ?_⟩
  obtain ⟨w1, w2⟩ := z_one (x := x) (lo := nI 1) (hi := nI 31) rfl (show Int64.ofNat 1 = _ by decide +kernel) (show (31 : Int64) = _ by decide +kernel)
  have e : (r = nI 1 ∧ ¬ x < nI 1 ∧ ¬ nI 31 < x) ∨ (r = nI 0 ∧ (x < nI 1 ∨ nI 31 < x)) := by
    rcases e with ⟨e, e1, e2⟩ | ⟨e, e1⟩
    · exact Or.inl ⟨e, fun q => e1 (w1.mpr q), fun q => e2 (w2.mpr q)⟩
    · exact Or.inr ⟨e, e1.imp w1.mp w2.mp⟩
  rcases e with ⟨rfl, e1, e2⟩ | ⟨rfl, e1⟩
  · obtain ⟨v, v1, v2, rfl⟩ := rg_in e1 e2 (by decide) (by decide)
    dsimp only [Option.toList, List.cons_append, List.nil_append]
    refine zr_if_ne hC dX9_node_9 (tgt := 14) (by decide) (fun c_9 => ?_) (fun c => absurd c (by decide +kernel))
    refine zr_aload_n hC dX9_node_14 rfl ?_
    refine zr_iload_n hC dX9_node_15 rfl ?_
    refine zs_callV hC (b := 245) [_] [] dX9_node_16 ml_X9_140 mtX9_keyOf tX9_keyOf (by decide) (by decide) (by decide) rfl rfl (by decide) (by decide +kernel) (Nat.le_of_ble_eq_true rfl) rfl ?_
    refine ⟨v, G.1, rfl, by omega, hMG.1, ?_⟩
    rw [hGI.1.kofm v1 (by omega)]
    dsimp only [Option.toList, List.cons_append, List.nil_append]
    by_cases hs : sm (G.1 0) v = 0
    · rw [show kof (G.1 0) G.1 v = -4 from if_pos hs]
      refine zr_istore_n hC dX9_node_19 (by decide) ?_
      rcases z_sw3 w with hw | rfl | rfl | rfl
      · simp only [fNode, rg_yes v1 v2 (show 31 < 2147483648 by decide), mm_no hw] at hQ
        refine zr_iload_n hC dX9_node_20 rfl ?_
        refine zr_tableOut hC dX9_node_21 (tgt := 76) (z_out hw (by decide)) (by decide) ?_
        refine zk_iconst hC dX9_node_76 (v := (-1)) (by decide +kernel) ?_
        exact zr_ireturn hC hE dX9_node_77 (hr _ _ (hQ _ hMG zfm.rf))
      · simp only [fNode, rg_yes v1 v2 (show 31 < 2147483648 by decide), mm_yes (show 0 < 3 by decide) (show 3 < 2147483648 by decide), aNode, kof, if_pos hs] at hQ
        refine zr_iload_n hC dX9_node_20 rfl ?_
        refine zr_tableIn hC dX9_node_21 (off := 27) (tgt := 48) (by decide +kernel) (by decide +kernel) (by decide +kernel) (by decide) ?_
        refine zr_iload_n hC dX9_node_48 rfl ?_
        exact zr_ireturn hC hE dX9_node_49 (hr _ _ (hQ _ hMG zfm.rf))
      · simp only [fNode, rg_yes v1 v2 (show 31 < 2147483648 by decide), mm_yes (show 1 < 3 by decide) (show 3 < 2147483648 by decide), aNode, kof, if_pos hs] at hQ
        refine zr_iload_n hC dX9_node_20 rfl ?_
        refine zr_tableIn hC dX9_node_21 (off := 29) (tgt := 50) (by decide +kernel) (by decide +kernel) (by decide +kernel) (by decide) ?_
        refine zr_aload_n hC dX9_node_50 rfl ?_
        refine zr_iload_n hC dX9_node_51 rfl ?_
        refine zs_callV hC (b := 245) [_] [] dX9_node_52 ml_X9_84 mtX9_beneath tX9_beneath (by decide) (by decide) (by decide) rfl rfl (by decide) (by decide +kernel) (Nat.le_of_ble_eq_true rfl) rfl ?_
        refine ⟨v, G.1, rfl, by omega, hMG.1, ?_⟩
        dsimp only [Option.toList, List.cons_append, List.nil_append]
        exact zr_ireturn hC hE dX9_node_55 (hr _ _ (hQ _ hMG zfm.rf))
      · simp only [fNode, rg_yes v1 v2 (show 31 < 2147483648 by decide), mm_yes (show 2 < 3 by decide) (show 3 < 2147483648 by decide), aNode, kof, if_pos hs] at hQ
        refine zr_iload_n hC dX9_node_20 rfl ?_
        refine zr_tableIn hC dX9_node_21 (off := 35) (tgt := 56) (by decide +kernel) (by decide +kernel) (by decide +kernel) (by decide) ?_
        refine zr_iload_n hC dX9_node_56 rfl ?_
        refine zr_if_ge hC dX9_node_57 (tgt := 65) (by decide) (fun c => absurd c (by decide)) (fun c_57 => ?_)
        refine zk_bipush hC dX9_node_60 (v := (-4)) (by decide +kernel) ?_
        refine zr_goto hC dX9_node_62 (tgt := 75) (by decide) ?_
        exact zr_ireturn hC hE dX9_node_75 (hr _ _ (hQ _ hMG zfm.rf))
    · rw [show kof (G.1 0) G.1 v = nI (key G.1 v) from if_neg hs]
      have hk : key G.1 v < G.1 6 0 := (hGI.1.live v1 (by omega) hs).1
      refine zr_istore_n hC dX9_node_19 (by decide) ?_
      rcases z_sw3 w with hw | rfl | rfl | rfl
      · simp only [fNode, rg_yes v1 v2 (show 31 < 2147483648 by decide), mm_no hw] at hQ
        refine zr_iload_n hC dX9_node_20 rfl ?_
        refine zr_tableOut hC dX9_node_21 (tgt := 76) (z_out hw (by decide)) (by decide) ?_
        refine zk_iconst hC dX9_node_76 (v := (-1)) (by decide +kernel) ?_
        exact zr_ireturn hC hE dX9_node_77 (hr _ _ (hQ _ hMG zfm.rf))
      · simp only [fNode, rg_yes v1 v2 (show 31 < 2147483648 by decide), mm_yes (show 0 < 3 by decide) (show 3 < 2147483648 by decide), aNode, kof, if_neg hs] at hQ
        refine zr_iload_n hC dX9_node_20 rfl ?_
        refine zr_tableIn hC dX9_node_21 (off := 27) (tgt := 48) (by decide +kernel) (by decide +kernel) (by decide +kernel) (by decide) ?_
        refine zr_iload_n hC dX9_node_48 rfl ?_
        exact zr_ireturn hC hE dX9_node_49 (hr _ _ (hQ _ hMG zfm.rf))
      · simp only [fNode, rg_yes v1 v2 (show 31 < 2147483648 by decide), mm_yes (show 1 < 3 by decide) (show 3 < 2147483648 by decide), aNode, kof, if_neg hs] at hQ
        refine zr_iload_n hC dX9_node_20 rfl ?_
        refine zr_tableIn hC dX9_node_21 (off := 29) (tgt := 50) (by decide +kernel) (by decide +kernel) (by decide +kernel) (by decide) ?_
        refine zr_aload_n hC dX9_node_50 rfl ?_
        refine zr_iload_n hC dX9_node_51 rfl ?_
        refine zs_callV hC (b := 245) [_] [] dX9_node_52 ml_X9_84 mtX9_beneath tX9_beneath (by decide) (by decide) (by decide) rfl rfl (by decide) (by decide +kernel) (Nat.le_of_ble_eq_true rfl) rfl ?_
        refine ⟨v, G.1, rfl, by omega, hMG.1, ?_⟩
        dsimp only [Option.toList, List.cons_append, List.nil_append]
        exact zr_ireturn hC hE dX9_node_55 (hr _ _ (hQ _ hMG zfm.rf))
      · simp only [fNode, rg_yes v1 v2 (show 31 < 2147483648 by decide), mm_yes (show 2 < 3 by decide) (show 3 < 2147483648 by decide), aNode, kof, if_neg hs] at hQ
        refine zr_iload_n hC dX9_node_20 rfl ?_
        refine zr_tableIn hC dX9_node_21 (off := 35) (tgt := 56) (by decide +kernel) (by decide +kernel) (by decide +kernel) (by decide) ?_
        refine zr_iload_n hC dX9_node_56 rfl ?_
        refine zr_if_ge hC dX9_node_57 (tgt := 65) (by decide) (fun c_57 => ?_) (fun c => absurd c (not_not_intro (nI_pos' (by have := hGI.1.made; omega))))
        refine zr_aload_n hC dX9_node_65 rfl ?_
        refine zs_getr hC dX9_node_66 fl_X9_7 (a := 245) (r := 246) rfl (by decide) ?_
        refine zk_sipush hC dX9_node_69 (v := nI 330) (by decide +kernel) ?_
        refine zr_iload_n hC dX9_node_72 rfl ?_
        refine zn_iadd hC dX9_node_73 (nI_add _ _) ?_
        refine zv_iald hC dX9_node_74 (a := 246) (n := 752) rfl (by decide) (by decide) (j := 330 + key G.1 v) rfl (by have := hGI.1.made; omega) (hMG.1.hold hk) ?_
        exact zr_ireturn hC hE dX9_node_75 (hr _ _ (hQ _ hMG zfm.rf))
  · simp only [fNode, rg_no e1] at hQ
    dsimp only [Option.toList, List.cons_append, List.nil_append]
    refine zr_if_ne hC dX9_node_9 (tgt := 14) (by decide) (fun c => absurd c (by decide +kernel)) (fun c_9 => ?_)
    refine zk_iconst hC dX9_node_12 (v := (-1)) (by decide +kernel) ?_
    exact zr_ireturn hC hE dX9_node_13 (hr _ _ (hQ _ hMG zfm.rf))
def spX9_isKey : zSp := fun av S Q => ∃ (x : Int32) (D : zD), av = [.ref 245, .int x] ∧ MW (S.1 246) D ∧ ∀ r, (r = nI 1 ∧ ∃ j, j < D 6 0 ∧ x = nI j) ∨ (r = nI 0 ∧ (x < 0 ∨ nI (D 6 0) ≤ x)) → Q (some (.int r)) S
set_option maxHeartbeats 4000000 in
set_option maxRecDepth 100000 in
theorem tX9_isKey : zM yX9_isKey cX9_isKey 2 (some .boolean) 1 spX9_isKey := by
  refine zM.of (by decide) (by decide) (fun av S Q h => by obtain ⟨x, D, rfl, hM, hQ⟩ := h; exact Nat.le_of_ble_eq_true rfl) (fun C τ ι av S Q Qr h hr hC hE => ?_)
  obtain ⟨x, D, rfl, hM, hQ⟩ := h
  show zR C τ ι _ 0 0 0 [(0, .ref 245), (1, .int x)] [] _
  refine zr_iload_n hC dX9_isKey_0 rfl ?_
  refine zr_i2l hC dX9_isKey_1 ?_
  refine zr_lconst hC dX9_isKey_2 ?_
  refine zr_aload_n hC dX9_isKey_3 rfl ?_
  refine zs_getr hC dX9_isKey_4 fl_X9_7 (a := 245) (r := 246) rfl (by decide) ?_
  refine zk_iconst hC dX9_isKey_7 (v := nI 0) (by decide +kernel) ?_
  refine zv_iald hC dX9_isKey_8 (a := 246) (n := 752) rfl (by decide) (by decide) (j := 0) rfl (by decide) (hM.1.1.1) ?_
  refine zk_iconst hC dX9_isKey_9 (v := nI 1) (by decide +kernel) ?_
  refine zr_isub hC dX9_isKey_10 ?_
  refine zr_i2l hC dX9_isKey_11 ?_
  refine zs_callS hC [_, _, _] [] dX9_isKey_12 ml_X9_60 mtX9_in tX9_in (by decide) (by decide) (by decide) rfl (Nat.le_of_ble_eq_true rfl) rfl ?_
  refine ⟨_, _, _, rfl, fun r e => ?_⟩
  have hn : D 6 0 < 2147483648 := by have := hM.made; omega
  have e := z_known hn (by have e2 := z_in64 (n := D 6 0) ((z_i32 _).trans (z_pred hn)) e; rwa [z_i32] at e2)
  rcases e with ⟨rfl, hx⟩ | ⟨rfl, hx⟩
  · dsimp only [Option.toList, List.cons_append, List.nil_append]
    exact zr_zreturn hC hE dX9_isKey_15 (by first | exact Or.inl rfl | exact Or.inr rfl) (hr _ _ (hQ _ (by first | exact Or.inl ⟨rfl, hx⟩ | exact Or.inr ⟨rfl, hx⟩)))
  · dsimp only [Option.toList, List.cons_append, List.nil_append]
    exact zr_zreturn hC hE dX9_isKey_15 (by first | exact Or.inl rfl | exact Or.inr rfl) (hr _ _ (hQ _ (by first | exact Or.inl ⟨rfl, hx⟩ | exact Or.inr ⟨rfl, hx⟩)))
def spX9_isLetter : zSp := fun av S Q => ∃ (v : Int64) (D : zD), av = [.ref 245, .long v] ∧ MW (S.1 246) D ∧ ∀ r, (r = nI 1 ∧ 0 ≤ v.toInt ∧ v.toInt < D 6 1) ∨ (r = nI 0 ∧ ¬ (0 ≤ v.toInt ∧ v.toInt < D 6 1)) → Q (some (.int r)) S
set_option maxHeartbeats 4000000 in
set_option maxRecDepth 100000 in
theorem tX9_isLetter : zM yX9_isLetter cX9_isLetter 3 (some .boolean) 1 spX9_isLetter := by
  refine zM.of (by decide) (by decide) (fun av S Q h => by obtain ⟨v, D, rfl, hM, hQ⟩ := h; exact Nat.le_of_ble_eq_true rfl) (fun C τ ι av S Q Qr h hr hC hE => ?_)
  obtain ⟨v, D, rfl, hM, hQ⟩ := h
  show zR C τ ι _ 0 0 0 [(0, .ref 245), (1, .long v)] [] _
  refine zr_lload_n hC dX9_isLetter_0 rfl ?_
  refine zr_lconst hC dX9_isLetter_1 ?_
  refine zr_aload_n hC dX9_isLetter_2 rfl ?_
  refine zs_getr hC dX9_isLetter_3 fl_X9_7 (a := 245) (r := 246) rfl (by decide) ?_
  refine zk_iconst hC dX9_isLetter_6 (v := nI 1) (by decide +kernel) ?_
  refine zv_iald hC dX9_isLetter_7 (a := 246) (n := 752) rfl (by decide) (by decide) (j := 1) rfl (by decide) (hM.1.1.2.1) ?_
  refine zk_iconst hC dX9_isLetter_8 (v := nI 1) (by decide +kernel) ?_
  refine zr_isub hC dX9_isLetter_9 ?_
  refine zr_i2l hC dX9_isLetter_10 ?_
  refine zs_callS hC [_, _, _] [] dX9_isLetter_11 ml_X9_60 mtX9_in tX9_in (by decide) (by decide) (by decide) rfl (Nat.le_of_ble_eq_true rfl) rfl ?_
  refine ⟨_, _, _, rfl, fun r e => ?_⟩
  have hn : D 6 1 < 2147483648 := by have := hM.writ; omega
  have e := z_in64 (n := D 6 1) ((z_i32 _).trans (z_pred hn)) e
  rcases e with ⟨rfl, hx⟩ | ⟨rfl, hx⟩
  · dsimp only [Option.toList, List.cons_append, List.nil_append]
    exact zr_zreturn hC hE dX9_isLetter_14 (by first | exact Or.inl rfl | exact Or.inr rfl) (hr _ _ (hQ _ (by first | exact Or.inl ⟨rfl, hx⟩ | exact Or.inr ⟨rfl, hx⟩)))
  · dsimp only [Option.toList, List.cons_append, List.nil_append]
    exact zr_zreturn hC hE dX9_isLetter_14 (by first | exact Or.inl rfl | exact Or.inr rfl) (hr _ _ (hQ _ (by first | exact Or.inl ⟨rfl, hx⟩ | exact Or.inr ⟨rfl, hx⟩)))
def spX9_key : zSp := fun av S Q => ∃ (G : zG) (x : Int32) (w : Int32), av = [.ref 245, .int x, .int w] ∧ MG S G ∧ GI G ∧ ∀ S', MG S' G → zfm S S' → Q (some (.int (fKey x w G))) S'
set_option maxHeartbeats 4000000 in
set_option maxRecDepth 100000 in
theorem tX9_key : zM yX9_key cX9_key 3 (some .int) 3 spX9_key := by
  refine zM.of (by decide) (by decide) (fun av S Q h => by obtain ⟨G, x, w, rfl, hMG, hGI, hQ⟩ := h; exact Nat.le_of_ble_eq_true rfl) (fun C τ ι av S Q Qr h hr hC hE => ?_)
  obtain ⟨G, x, w, rfl, hMG, hGI, hQ⟩ := h
  show zR C τ ι _ 0 0 0 [(0, .ref 245), (1, .int x), (2, .int w)] [] _
  refine zr_aload_n hC dX9_key_0 rfl ?_
  refine zr_iload_n hC dX9_key_1 rfl ?_
  refine zs_callV hC (b := 245) [_] [] dX9_key_2 ml_X9_177 mtX9_isKey tX9_isKey (by decide) (by decide) (by decide) rfl rfl (by decide) (by decide +kernel) (Nat.le_of_ble_eq_true rfl) rfl ?_
  refine ⟨x, G.1, rfl, hMG.1, fun r e => ?_⟩
  rcases e with ⟨rfl, k, hk, rfl⟩ | ⟨rfl, hx⟩
  · have h60 := hGI.1.made
    dsimp only [Option.toList, List.cons_append, List.nil_append]
    refine zr_if_ne hC dX9_key_5 (tgt := 10) (by decide) (fun c_5 => ?_) (fun c => absurd c (by decide +kernel))
    rcases z_sw4 w with hw | rfl | rfl | rfl | rfl
    · simp only [fKey, mm_yes hk (show G.1 6 0 < 2147483648 by omega), mm_no hw] at hQ
      refine zr_iload_n hC dX9_key_10 rfl ?_
      refine zr_tableOut hC dX9_key_11 (tgt := 82) (z_out hw (by decide)) (by decide) ?_
      refine zk_iconst hC dX9_key_82 (v := (-1)) (by decide +kernel) ?_
      exact zr_ireturn hC hE dX9_key_83 (hr _ _ (hQ _ hMG zfm.rf))
    · simp only [fKey, mm_yes hk (show G.1 6 0 < 2147483648 by omega), mm_yes (show 0 < 4 by decide) (show 4 < 2147483648 by decide), aKey] at hQ
      refine zr_iload_n hC dX9_key_10 rfl ?_
      refine zr_tableIn hC dX9_key_11 (off := 29) (tgt := 40) (by decide +kernel) (by decide +kernel) (by decide +kernel) (by decide) ?_
      refine zr_aload_n hC dX9_key_40 rfl ?_
      refine zr_iload_n hC dX9_key_41 rfl ?_
      refine zs_callV hC (b := 245) [_] [] dX9_key_42 ml_X9_80 mtX9_nodeOf tX9_nodeOf (by decide) (by decide) (by decide) rfl rfl (by decide) (by decide +kernel) (Nat.le_of_ble_eq_true rfl) rfl ?_
      refine ⟨k, G.1, rfl, hk, hMG.1, ?_⟩
      dsimp only [Option.toList, List.cons_append, List.nil_append]
      exact zr_ireturn hC hE dX9_key_45 (hr _ _ (hQ _ hMG zfm.rf))
    · simp only [fKey, mm_yes hk (show G.1 6 0 < 2147483648 by omega), mm_yes (show 1 < 4 by decide) (show 4 < 2147483648 by decide), aKey] at hQ
      refine zr_iload_n hC dX9_key_10 rfl ?_
      refine zr_tableIn hC dX9_key_11 (off := 35) (tgt := 46) (by decide +kernel) (by decide +kernel) (by decide +kernel) (by decide) ?_
      refine zr_aload_n hC dX9_key_46 rfl ?_
      refine zr_iload_n hC dX9_key_47 rfl ?_
      refine zs_callV hC (b := 245) [_] [] dX9_key_48 ml_X9_180 mtX9_batchOf tX9_batchOf (by decide) (by decide) (by decide) rfl rfl (by decide) (by decide +kernel) (Nat.le_of_ble_eq_true rfl) rfl ?_
      refine ⟨k, G.1, rfl, hk, hMG.1, ?_⟩
      dsimp only [Option.toList, List.cons_append, List.nil_append]
      exact zr_ireturn hC hE dX9_key_51 (hr _ _ (hQ _ hMG zfm.rf))
    · simp only [fKey, mm_yes hk (show G.1 6 0 < 2147483648 by omega), mm_yes (show 2 < 4 by decide) (show 4 < 2147483648 by decide), aKey] at hQ
      refine zr_iload_n hC dX9_key_10 rfl ?_
      refine zr_tableIn hC dX9_key_11 (off := 41) (tgt := 52) (by decide +kernel) (by decide +kernel) (by decide +kernel) (by decide) ?_
      refine zr_aload_n hC dX9_key_52 rfl ?_
      refine zr_aload_n hC dX9_key_53 rfl ?_
      refine zr_iload_n hC dX9_key_54 rfl ?_
      refine zs_callV hC (b := 245) [_] [_] dX9_key_55 ml_X9_80 mtX9_nodeOf tX9_nodeOf (by decide) (by decide) (by decide) rfl rfl (by decide) (by decide +kernel) (Nat.le_of_ble_eq_true rfl) rfl ?_
      refine ⟨k, G.1, rfl, hk, hMG.1, ?_⟩
      dsimp only [Option.toList, List.cons_append, List.nil_append]
      refine zs_callV hC (b := 245) [_] [] dX9_key_58 ml_X9_140 mtX9_keyOf tX9_keyOf (by decide) (by decide) (by decide) rfl rfl (by decide) (by decide +kernel) (Nat.le_of_ble_eq_true rfl) rfl ?_
      refine ⟨_, G.1, rfl, by have := (hGI.1.keys hk).2.1; omega, hMG.1, ?_⟩
      rw [hGI.1.kofm (hGI.1.keys hk).1 (hGI.1.keys hk).2.1]
      dsimp only [Option.toList, List.cons_append, List.nil_append]
      refine zr_iload_n hC dX9_key_61 rfl ?_
      refine zr_icmp_ne hC dX9_key_62 (tgt := 69) (by decide) (fun c_62 => ?_) (fun c_62 => ?_)
      · rw [if_neg c_62] at hQ
        refine zk_iconst hC dX9_key_69 (v := nI 0) (by decide +kernel) ?_
        exact zr_ireturn hC hE dX9_key_70 (hr _ _ (hQ _ hMG zfm.rf))
      · rw [if_pos c_62] at hQ
        refine zk_iconst hC dX9_key_65 (v := nI 1) (by decide +kernel) ?_
        refine zr_goto hC dX9_key_66 (tgt := 70) (by decide) ?_
        exact zr_ireturn hC hE dX9_key_70 (hr _ _ (hQ _ hMG zfm.rf))
    · simp only [fKey, mm_yes hk (show G.1 6 0 < 2147483648 by omega), mm_yes (show 3 < 4 by decide) (show 4 < 2147483648 by decide), aKey] at hQ
      refine zr_iload_n hC dX9_key_10 rfl ?_
      refine zr_tableIn hC dX9_key_11 (off := 60) (tgt := 71) (by decide +kernel) (by decide +kernel) (by decide +kernel) (by decide) ?_
      refine zr_aload_n hC dX9_key_71 rfl ?_
      refine zs_getr hC dX9_key_72 fl_X9_7 (a := 245) (r := 246) rfl (by decide) ?_
      refine zk_sipush hC dX9_key_75 (v := nI 330) (by decide +kernel) ?_
      refine zr_iload_n hC dX9_key_78 rfl ?_
      refine zn_iadd hC dX9_key_79 (nI_add _ _) ?_
      refine zv_iald hC dX9_key_80 (a := 246) (n := 752) rfl (by decide) (by decide) (j := 330 + k) rfl (by omega) (hMG.1.hold hk) ?_
      exact zr_ireturn hC hE dX9_key_81 (hr _ _ (hQ _ hMG zfm.rf))
  · simp only [fKey, mm_no hx] at hQ
    dsimp only [Option.toList, List.cons_append, List.nil_append]
    refine zr_if_ne hC dX9_key_5 (tgt := 10) (by decide) (fun c => absurd c (by decide +kernel)) (fun c_5 => ?_)
    refine zk_iconst hC dX9_key_8 (v := (-1)) (by decide +kernel) ?_
    exact zr_ireturn hC hE dX9_key_9 (hr _ _ (hQ _ hMG zfm.rf))
def spX9_letter : zSp := fun av S Q => ∃ (G : zG) (x : Int32) (w : Int32), av = [.ref 245, .int x, .int w] ∧ MG S G ∧ GI G ∧ ∀ S', MG S' G → zfm S S' → Q (some (.int (fLetter x w G))) S'
set_option maxHeartbeats 4000000 in
set_option maxRecDepth 100000 in
theorem tX9_letter : zM yX9_letter cX9_letter 3 (some .int) 2 spX9_letter := by
  refine zM.of (by decide) (by decide) (fun av S Q h => by obtain ⟨G, x, w, rfl, hMG, hGI, hQ⟩ := h; exact Nat.le_of_ble_eq_true rfl) (fun C τ ι av S Q Qr h hr hC hE => ?_)
  obtain ⟨G, x, w, rfl, hMG, hGI, hQ⟩ := h
  show zR C τ ι _ 0 0 0 [(0, .ref 245), (1, .int x), (2, .int w)] [] _
  refine zr_aload_n hC dX9_letter_0 rfl ?_
  refine zr_iload_n hC dX9_letter_1 rfl ?_
  refine zr_i2l hC dX9_letter_2 ?_
  refine zs_callV hC (b := 245) [_] [] dX9_letter_3 ml_X9_183 mtX9_isLetter tX9_isLetter (by decide) (by decide) (by decide) rfl rfl (by decide) (by decide +kernel) (Nat.le_of_ble_eq_true rfl) rfl ?_
  refine ⟨_, G.1, rfl, hMG.1, fun r e => ?_⟩
  have h61 := hGI.1.written
  have e := z_known (x := x) (n := G.1 6 1) (by omega) (by rwa [z_i32] at e)
  rcases e with ⟨rfl, k, hk, rfl⟩ | ⟨rfl, hx⟩
  · dsimp only [Option.toList, List.cons_append, List.nil_append]
    refine zr_if_ne hC dX9_letter_6 (tgt := 11) (by decide) (fun c_6 => ?_) (fun c => absurd c (by decide +kernel))
    rcases z_sw3 w with hw | rfl | rfl | rfl
    · simp only [fLetter, mm_yes hk (show G.1 6 1 < 2147483648 by omega), mm_no hw] at hQ
      refine zr_iload_n hC dX9_letter_11 rfl ?_
      refine zr_tableOut hC dX9_letter_12 (tgt := 71) (z_out hw (by decide)) (by decide) ?_
      refine zk_iconst hC dX9_letter_71 (v := (-1)) (by decide +kernel) ?_
      exact zr_ireturn hC hE dX9_letter_72 (hr _ _ (hQ _ hMG zfm.rf))
    · simp only [fLetter, mm_yes hk (show G.1 6 1 < 2147483648 by omega), mm_yes (show 0 < 3 by decide) (show 3 < 2147483648 by decide), aLetter] at hQ
      refine zr_iload_n hC dX9_letter_11 rfl ?_
      refine zr_tableIn hC dX9_letter_12 (off := 28) (tgt := 40) (by decide +kernel) (by decide +kernel) (by decide +kernel) (by decide) ?_
      refine zr_aload_n hC dX9_letter_40 rfl ?_
      refine zr_iload_n hC dX9_letter_41 rfl ?_
      refine zs_callV hC (b := 245) [_] [] dX9_letter_42 ml_X9_120 mtX9_inOf tX9_inOf (by decide) (by decide) (by decide) rfl rfl (by decide) (by decide +kernel) (Nat.le_of_ble_eq_true rfl) rfl ?_
      refine ⟨k, G.1, rfl, hk, hMG.1, ?_⟩
      dsimp only [Option.toList, List.cons_append, List.nil_append]
      exact zr_ireturn hC hE dX9_letter_45 (hr _ _ (hQ _ hMG zfm.rf))
    · simp only [fLetter, mm_yes hk (show G.1 6 1 < 2147483648 by omega), mm_yes (show 1 < 3 by decide) (show 3 < 2147483648 by decide), aLetter] at hQ
      refine zr_iload_n hC dX9_letter_11 rfl ?_
      refine zr_tableIn hC dX9_letter_12 (off := 34) (tgt := 46) (by decide +kernel) (by decide +kernel) (by decide +kernel) (by decide) ?_
      refine zr_aload_n hC dX9_letter_46 rfl ?_
      refine zr_iload_n hC dX9_letter_47 rfl ?_
      refine zs_callV hC (b := 245) [_] [] dX9_letter_48 ml_X9_114 mtX9_underOf tX9_underOf (by decide) (by decide) (by decide) rfl rfl (by decide) (by decide +kernel) (Nat.le_of_ble_eq_true rfl) rfl ?_
      refine ⟨k, G.1, rfl, hk, hMG.1, ?_⟩
      dsimp only [Option.toList, List.cons_append, List.nil_append]
      exact zr_ireturn hC hE dX9_letter_51 (hr _ _ (hQ _ hMG zfm.rf))
    · simp only [fLetter, mm_yes hk (show G.1 6 1 < 2147483648 by omega), mm_yes (show 2 < 3 by decide) (show 3 < 2147483648 by decide), aLetter] at hQ
      refine zr_iload_n hC dX9_letter_11 rfl ?_
      refine zr_tableIn hC dX9_letter_12 (off := 40) (tgt := 52) (by decide +kernel) (by decide +kernel) (by decide +kernel) (by decide) ?_
      refine zr_aload_n hC dX9_letter_52 rfl ?_
      refine zr_iload_n hC dX9_letter_53 rfl ?_
      refine zs_callV hC (b := 245) [_] [] dX9_letter_54 ml_X9_187 mtX9_batchOfLetter tX9_batchOfLetter (by decide) (by decide) (by decide) rfl rfl (by decide) (by decide +kernel) (Nat.le_of_ble_eq_true rfl) rfl ?_
      have h12 := (hMG.1.letb hk).2.2
      refine ⟨k, G.1, rfl, hk, hMG.1, ?_⟩
      dsimp only [Option.toList, List.cons_append, List.nil_append]
      refine zr_if_ge hC dX9_letter_57 (tgt := 65) (by decide) (fun c_57 => ?_) (fun c_57 => ?_)
      · rw [z_pred_ge (by omega)] at c_57
        rw [lbI_pos c_57] at hQ
        refine zr_aload_n hC dX9_letter_65 rfl ?_
        refine zr_iload_n hC dX9_letter_66 rfl ?_
        refine zs_callV hC (b := 245) [_] [] dX9_letter_67 ml_X9_187 mtX9_batchOfLetter tX9_batchOfLetter (by decide) (by decide) (by decide) rfl rfl (by decide) (by decide +kernel) (Nat.le_of_ble_eq_true rfl) rfl ?_
        refine ⟨k, G.1, rfl, hk, hMG.1, ?_⟩
        rw [pk_sub (by omega)]
        dsimp only [Option.toList, List.cons_append, List.nil_append]
        exact zr_ireturn hC hE dX9_letter_70 (hr _ _ (hQ _ hMG zfm.rf))
      · rw [z_pred_ge (by omega)] at c_57
        rw [show G.1 12 k = 0 by omega] at hQ
        refine zk_bipush hC dX9_letter_60 (v := (-4)) (by decide +kernel) ?_
        refine zr_goto hC dX9_letter_62 (tgt := 70) (by decide) ?_
        exact zr_ireturn hC hE dX9_letter_70 (hr _ _ (hQ _ hMG zfm.rf))
  · simp only [fLetter, mm_no hx] at hQ
    dsimp only [Option.toList, List.cons_append, List.nil_append]
    refine zr_if_ne hC dX9_letter_6 (tgt := 11) (by decide) (fun c => absurd c (by decide +kernel)) (fun c_6 => ?_)
    refine zk_iconst hC dX9_letter_9 (v := (-1)) (by decide +kernel) ?_
    exact zr_ireturn hC hE dX9_letter_10 (hr _ _ (hQ _ hMG zfm.rf))
def spX9_why : zSp := fun av S Q => ∃ (G : zG) (x : Int32) (i : Int32), av = [.ref 245, .int x, .int i] ∧ MG S G ∧ GI G ∧ ∀ S', MG S' G → zfm S S' → Q (some (.int (fWhy x i G))) S'
set_option maxHeartbeats 4000000 in
set_option maxRecDepth 100000 in
theorem tX9_why : zM yX9_why cX9_why 4 (some .int) 2 spX9_why := by
  refine zM.of (by decide) (by decide) (fun av S Q h => by obtain ⟨G, x, i, rfl, hMG, hGI, hQ⟩ := h; exact Nat.le_of_ble_eq_true rfl) (fun C τ ι av S Q Qr h hr hC hE => ?_)
  obtain ⟨G, x, i, rfl, hMG, hGI, hQ⟩ := h
  show zR C τ ι _ 0 0 0 [(0, .ref 245), (1, .int x), (2, .int i)] [] _
  refine zr_iload_n hC dX9_why_0 rfl ?_
  refine zs_callS hC [_] [] dX9_why_1 ml_X9_98 mtX9_isMember tX9_isMember (by decide) (by decide) (by decide) rfl (Nat.le_of_ble_eq_true rfl) rfl ?_
  refine ⟨x, rfl, fun r e => ?_⟩
  rcases e with ⟨rfl, m, hm, rfl⟩ | ⟨rfl, hx⟩
  · dsimp only [Option.toList, List.cons_append, List.nil_append]
    refine zr_if_eq hC dX9_why_4 (tgt := 16) (by decide) (fun c => absurd c (by decide +kernel)) (fun c_4 => ?_)
    refine zr_aload_n hC dX9_why_7 rfl ?_
    refine zr_iload_n hC dX9_why_8 rfl ?_
    refine zr_i2l hC dX9_why_9 ?_
    refine zs_callV hC (b := 245) [_] [] dX9_why_10 ml_X9_183 mtX9_isLetter tX9_isLetter (by decide) (by decide) (by decide) rfl rfl (by decide) (by decide +kernel) (Nat.le_of_ble_eq_true rfl) rfl ?_
    refine ⟨_, G.1, rfl, hMG.1, fun r e => ?_⟩
    have h61 := hGI.1.written
    have e := z_known (x := i) (n := G.1 6 1) (by omega) (by rwa [z_i32] at e)
    rcases e with ⟨rfl, k, hk, rfl⟩ | ⟨rfl, hx⟩
    · dsimp only [Option.toList, List.cons_append, List.nil_append]
      refine zr_if_ne hC dX9_why_13 (tgt := 18) (by decide) (fun c_13 => ?_) (fun c => absurd c (by decide +kernel))
      simp only [fWhy, mm_yes hm (show 16 < 2147483648 by decide), mm_yes hk (show G.1 6 1 < 2147483648 by omega)] at hQ
      have hu := (hGI.1.lets hk).2.1
      have hu8 := (hGI.1.keys hu).2.2.1
      have h62 := hGI.1.batches
      have hcm := hGI.1.came hm
      refine zr_aload_n hC dX9_why_18 rfl ?_
      refine zr_iload_n hC dX9_why_19 rfl ?_
      refine zs_callV hC (b := 245) [_] [] dX9_why_20 ml_X9_114 mtX9_underOf tX9_underOf (by decide) (by decide) (by decide) rfl rfl (by decide) (by decide +kernel) (Nat.le_of_ble_eq_true rfl) rfl ?_
      refine ⟨k, G.1, rfl, hk, hMG.1, ?_⟩
      dsimp only [Option.toList, List.cons_append, List.nil_append]
      refine zr_istore_n hC dX9_why_23 (by decide) ?_
      refine zr_aload_n hC dX9_why_24 rfl ?_
      refine zr_iload_n hC dX9_why_25 rfl ?_
      refine zr_iload_n hC dX9_why_26 rfl ?_
      refine zs_callV hC (b := 245) [_, _] [] dX9_why_27 ml_X9_117 mtX9_holds tX9_holds (by decide) (by decide) (by decide) rfl rfl (by decide) (by decide +kernel) (Nat.le_of_ble_eq_true rfl) rfl ?_
      refine ⟨m, _, G.1, rfl, hm, hu, hMG.1, fun r e => ?_⟩
      rcases e with ⟨rfl, hx⟩ | ⟨rfl, hx⟩
      · rw [show wsh G.1 m (G.1 11 k) = 0 from if_pos hx] at hQ
        dsimp only [Option.toList, List.cons_append, List.nil_append]
        refine zr_if_eq hC dX9_why_30 (tgt := 35) (by decide) (fun c => absurd c (by decide +kernel)) (fun c_30 => ?_)
        refine zk_iconst hC dX9_why_33 (v := nI 0) (by decide +kernel) ?_
        exact zr_ireturn hC hE dX9_why_34 (hr _ _ (hQ _ hMG zfm.rf))
      · rw [wsh, if_neg (show ¬ hd G.1 m (G.1 11 k) = true by rw [hx]; decide)] at hQ
        dsimp only [Option.toList, List.cons_append, List.nil_append]
        refine zr_if_eq hC dX9_why_30 (tgt := 35) (by decide) (fun c_30 => ?_) (fun c => absurd c (by decide +kernel))
        refine zr_aload_n hC dX9_why_35 rfl ?_
        refine zr_iload_n hC dX9_why_36 rfl ?_
        refine zk_iconst hC dX9_why_37 (v := nI 4) (by decide +kernel) ?_
        refine zs_callV hC (b := 245) [_, _] [] dX9_why_38 ml_X9_64 mtX9_of tX9_of (by decide) (by decide) (by decide) rfl rfl (by decide) (by decide +kernel) (Nat.le_of_ble_eq_true rfl) rfl ?_
        refine ⟨m, 4, rfl, hm, by decide, ?_⟩
        rw [show S.1 246 (4 + 6 * m + 4) = nI (G.1 4 m) from MW.mem hMG.1 hm (by decide)]
        dsimp only [Option.toList, List.cons_append, List.nil_append]
        refine zr_if_ne hC dX9_why_41 (tgt := 46) (by decide) (fun c_41 => ?_) (fun c_41 => ?_)
        · rw [z_ne0 (by omega)] at c_41
          rw [if_neg c_41] at hQ
          refine zr_aload_n hC dX9_why_46 rfl ?_
          refine zr_iload_n hC dX9_why_47 rfl ?_
          refine zs_callV hC (b := 245) [_] [] dX9_why_48 ml_X9_180 mtX9_batchOf tX9_batchOf (by decide) (by decide) (by decide) rfl rfl (by decide) (by decide +kernel) (Nat.le_of_ble_eq_true rfl) rfl ?_
          refine ⟨_, G.1, rfl, hu, hMG.1, ?_⟩
          dsimp only [Option.toList, List.cons_append, List.nil_append]
          refine zr_aload_n hC dX9_why_51 rfl ?_
          refine zr_iload_n hC dX9_why_52 rfl ?_
          refine zk_iconst hC dX9_why_53 (v := nI 4) (by decide +kernel) ?_
          refine zs_callV hC (b := 245) [_, _] [_] dX9_why_54 ml_X9_64 mtX9_of tX9_of (by decide) (by decide) (by decide) rfl rfl (by decide) (by decide +kernel) (Nat.le_of_ble_eq_true rfl) rfl ?_
          refine ⟨m, 4, rfl, hm, by decide, ?_⟩
          rw [show S.1 246 (4 + 6 * m + 4) = nI (G.1 4 m) from MW.mem hMG.1 hm (by decide)]
          dsimp only [Option.toList, List.cons_append, List.nil_append]
          refine zk_iconst hC dX9_why_57 (v := nI 1) (by decide +kernel) ?_
          refine zn_isub hC dX9_why_58 (pk_sub (by omega)) ?_
          refine zr_icmp_ge hC dX9_why_59 (tgt := 64) (by decide) (fun c_59 => ?_) (fun c_59 => ?_)
          · rw [nI_leI (by omega) (by omega)] at c_59
            rw [if_neg (by omega)] at hQ
            refine zr_aload_n hC dX9_why_64 rfl ?_
            refine zr_iload_n hC dX9_why_65 rfl ?_
            refine zs_callV hC (b := 245) [_] [] dX9_why_66 ml_X9_68 mtX9_sits tX9_sits (by decide) (by decide) (by decide) rfl rfl (by decide) (by decide +kernel) (Nat.le_of_ble_eq_true rfl) rfl ?_
            refine ⟨m, G.1, rfl, hm, hMG.1, fun r e => ?_⟩
            rcases e with ⟨rfl, hx⟩ | ⟨rfl, hx⟩
            · rw [if_neg (fun q => hx q.1)] at hQ
              dsimp only [Option.toList, List.cons_append, List.nil_append]
              refine zr_if_ne hC dX9_why_69 (tgt := 92) (by decide) (fun c_69 => ?_) (fun c => absurd c (by decide +kernel))
              refine zk_iconst hC dX9_why_92 (v := nI 4) (by decide +kernel) ?_
              exact zr_ireturn hC hE dX9_why_93 (hr _ _ (hQ _ hMG zfm.rf))
            · dsimp only [Option.toList, List.cons_append, List.nil_append]
              refine zr_if_ne hC dX9_why_69 (tgt := 92) (by decide) (fun c => absurd c (by decide +kernel)) (fun c_69 => ?_)
              refine zr_aload_n hC dX9_why_72 rfl ?_
              refine zr_iload_n hC dX9_why_73 rfl ?_
              refine zs_callV hC (b := 245) [_] [] dX9_why_74 ml_X9_180 mtX9_batchOf tX9_batchOf (by decide) (by decide) (by decide) rfl rfl (by decide) (by decide +kernel) (Nat.le_of_ble_eq_true rfl) rfl ?_
              refine ⟨_, G.1, rfl, hu, hMG.1, ?_⟩
              dsimp only [Option.toList, List.cons_append, List.nil_append]
              refine zr_aload_n hC dX9_why_77 rfl ?_
              refine zr_iload_n hC dX9_why_78 rfl ?_
              refine zk_iconst hC dX9_why_79 (v := nI 5) (by decide +kernel) ?_
              refine zs_callV hC (b := 245) [_, _] [_] dX9_why_80 ml_X9_64 mtX9_of tX9_of (by decide) (by decide) (by decide) rfl rfl (by decide) (by decide +kernel) (Nat.le_of_ble_eq_true rfl) rfl ?_
              refine ⟨m, 5, rfl, hm, by decide, ?_⟩
              rw [show S.1 246 (4 + 6 * m + 5) = nI (G.1 5 m) from MW.mem hMG.1 hm (by decide)]
              dsimp only [Option.toList, List.cons_append, List.nil_append]
              refine zk_iconst hC dX9_why_83 (v := nI 1) (by decide +kernel) ?_
              refine zn_isub hC dX9_why_84 (pk_sub (by have := hcm.2.2 c_41 hx; omega)) ?_
              refine zr_icmp_lt hC dX9_why_85 (tgt := 92) (by decide) (fun c_85 => ?_) (fun c_85 => ?_)
              · rw [nI_ltI (by omega) (by omega)] at c_85
                rw [if_neg (fun q => by have := hcm.2.2 c_41 hx; omega)] at hQ
                refine zk_iconst hC dX9_why_92 (v := nI 4) (by decide +kernel) ?_
                exact zr_ireturn hC hE dX9_why_93 (hr _ _ (hQ _ hMG zfm.rf))
              · rw [z_nlt (by omega) (by omega)] at c_85
                rw [if_pos ⟨hx, by omega⟩] at hQ
                refine zk_iconst hC dX9_why_88 (v := nI 3) (by decide +kernel) ?_
                refine zr_goto hC dX9_why_89 (tgt := 93) (by decide) ?_
                exact zr_ireturn hC hE dX9_why_93 (hr _ _ (hQ _ hMG zfm.rf))
          · rw [z_nle (by omega) (by omega)] at c_59
            rw [if_pos (by omega)] at hQ
            refine zk_iconst hC dX9_why_62 (v := nI 2) (by decide +kernel) ?_
            exact zr_ireturn hC hE dX9_why_63 (hr _ _ (hQ _ hMG zfm.rf))
        · rw [z_ne0 (by omega)] at c_41
          rw [if_pos c_41] at hQ
          refine zk_iconst hC dX9_why_44 (v := nI 1) (by decide +kernel) ?_
          exact zr_ireturn hC hE dX9_why_45 (hr _ _ (hQ _ hMG zfm.rf))
    · simp only [fWhy, mm_yes hm (show 16 < 2147483648 by decide), mm_no hx] at hQ
      dsimp only [Option.toList, List.cons_append, List.nil_append]
      refine zr_if_ne hC dX9_why_13 (tgt := 18) (by decide) (fun c => absurd c (by decide +kernel)) (fun c_13 => ?_)
      refine zk_iconst hC dX9_why_16 (v := (-1)) (by decide +kernel) ?_
      exact zr_ireturn hC hE dX9_why_17 (hr _ _ (hQ _ hMG zfm.rf))
  · simp only [fWhy, mm_no hx] at hQ
    dsimp only [Option.toList, List.cons_append, List.nil_append]
    refine zr_if_eq hC dX9_why_4 (tgt := 16) (by decide) (fun c_4 => ?_) (fun c => absurd c (by decide +kernel))
    refine zk_iconst hC dX9_why_16 (v := (-1)) (by decide +kernel) ?_
    exact zr_ireturn hC hE dX9_why_17 (hr _ _ (hQ _ hMG zfm.rf))
