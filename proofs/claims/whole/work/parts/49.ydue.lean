/-! THE CALLS OF THE MODEL: what would be told -/
theorem mvL_none (lf : Nat → Nat) : ∀ n, mvL (fun _ => false) lf n = (lf, fun _ => false, 0)
  | 0 => rfl
  | n + 1 => by
    have h := mvL_none lf n
    show stL (fun _ => false) n (mvL (fun _ => false) lf n) = _
    rw [h]
    rfl
theorem mvC_none (x : zM3) : ∀ n, mvC (fun _ => false) x n = x
  | 0 => rfl
  | n + 1 => by
    have h := mvC_none x n
    show stC (fun _ => false) n (mvC (fun _ => false) x n) = _
    rw [h]
    rfl
theorem ltr_0 (lf : Nat → Nat) : ∀ n, ltr lf 0 n = 0
  | 0 => rfl
  | n + 1 => by
    unfold ltr
    rw [ltr_0 lf n, Nat.zero_testBit]
    rfl
theorem sgs_none {x : (Nat → Nat) × Nat} {L K : Nat → Bool} (hL : ∀ m, m < 16 → L m = false) (hK : ∀ m, m < 16 → K m = false) : sgs x L K = x := by
  have e : mv x.1 L K = (x.1, fun _ => false, 0) := by
    rw [mv_cong (P' := fun _ => false) (K' := fun _ => false) hL hK]
    unfold mv
    rw [mvL_none, mvC_none]
  unfold sgs
  rw [e, ltr_0]
  rfl
theorem pow_bit {i m : Nat} (hi : i < 16) (hm : m < 16) : bt (nI (2 ^ i)) m = (m == i) := by
  rw [bt_nI _ _ (by omega), Nat.testBit_two_pow]
  by_cases e : m = i
  · subst e; simp
  · have e2 : ¬ i = m := fun q => e q.symm
    simp [e, e2]
theorem pow_bit2 {f : Nat → Nat} {c i m : Nat} (hi : i < 16) (hm : m < 16) (h : f i = c) : bt (nI (2 ^ i)) m = (m == i && f m == c) := by
  rw [pow_bit hi hm]
  by_cases e : m = i
  · subst e; simp [h]
  · rw [beq_eq_false_iff_ne.mpr e]; rfl
theorem one_no {f : Nat → Nat} {c i : Nat} (h : f i ≠ c) (m : Nat) : (m == i && f m == c) = false := by
  by_cases e : m = i
  · subst e; simp [h]
  · rw [beq_eq_false_iff_ne.mpr e]; rfl
theorem z_rem16 {i : Nat} (h : i < 16) : nI i - nI i / nI 16 * nI 16 = nI i := by
  rw [z_rem (by omega) (by decide) (by decide), Nat.mod_eq_of_lt h]
theorem z_rem16b {i : Nat} (h : i < 16) : nI (16 + i) - nI (16 + i) / nI 16 * nI 16 = nI i := by
  rw [z_rem (by omega) (by decide) (by decide)]
  exact congrArg nI (by omega)
theorem z_swne {w : Int32} (h : w < 0 ∨ nI 2 ≤ w) : ¬ w = 0 ∧ ¬ w = nI 1 := ⟨fun q => by rw [q] at h; exact absurd h (by decide), fun q => by rw [q] at h; exact absurd h (by decide)⟩
set_option maxHeartbeats 4000000 in
set_option maxRecDepth 100000 in
theorem l9_sgL {C : zCx} {τ : Nat → ClassId} {ι : Nat → Nat} (hC : zOK C τ (zrm 4 0 0) yX9_due.cls cX9_due 7) {S0 : zS} {D : zD} {w : Int32} (hI : INV D) (k : ∀ S, SE S (sgL D 16).1 → zfrm 247 250 S0 S → zR C τ ι 7 0 0 39 [(0, .ref 245), (1, .int w), (2, .int (nI (cms D))), (3, .int (nI (lvs D))), (4, .int (nI (sgL D 16).2)), (5, .int (nI 16))] [] (zcells S)) : ∀ (d i : Nat) (S : zS), i + d = 16 → SE S (sgL D i).1 → zfrm 247 250 S0 S → zR C τ ι 7 0 0 39 [(0, .ref 245), (1, .int w), (2, .int (nI (cms D))), (3, .int (nI (lvs D))), (4, .int (nI (sgL D i).2)), (5, .int (nI i))] [] (zcells S) := by
  intro d
  induction d with
  | zero =>
    intro i S hi hS hF
    obtain rfl : i = 16 := (by omega)
    exact k S hS hF
  | succ d ih =>
    intro i S hi hS hF
    have hP := sgL_I hI i (by omega)
    refine zr_iload hC dX9_due_39 rfl ?_
    refine zk_bipush hC dX9_due_41 (v := nI 32) (by decide +kernel) ?_
    refine zr_icmp_ge hC dX9_due_43 (tgt := 122) (by decide) (fun c => absurd c (nI_ge (by omega) (by omega))) (fun c_43 => ?_)
    refine zr_iload hC dX9_due_46 rfl ?_
    refine zk_bipush hC dX9_due_48 (v := nI 16) (by decide +kernel) ?_
    refine zn_irem hC dX9_due_50 (by decide +kernel) (z_rem16 (by omega)) ?_
    refine zr_istore hC dX9_due_51 (by decide) ?_
    refine zr_iload hC dX9_due_53 rfl ?_
    refine zk_bipush hC dX9_due_55 (v := nI 16) (by decide +kernel) ?_
    refine zr_icmp_ge hC dX9_due_57 (tgt := 64) (by decide) (fun c => absurd c (nI_ge (by omega) (by omega))) (fun c_57 => ?_)
    refine zr_iload_n hC dX9_due_60 rfl ?_
    refine zr_goto hC dX9_due_61 (tgt := 65) (by decide) ?_
    refine zr_iload hC dX9_due_65 rfl ?_
    refine zs_callS hC [_, _] [] dX9_due_67 ml_X9_72 mtX9_has tX9_has (by decide) (by decide) (by decide) rfl (Nat.le_of_ble_eq_true rfl) rfl ?_
    refine ⟨_, i, rfl, by omega, fun r e => ?_⟩
    rw [dm_bt (by omega)] at e
    have e : (r = nI 1 ∧ D 1 i = 2) ∨ (r = nI 0 ∧ D 1 i ≠ 2) := e.imp (fun q => ⟨q.1, beq_iff_eq.mp q.2⟩) (fun q => ⟨q.1, beq_eq_false_iff_ne.mp q.2⟩)
    rcases e with ⟨rfl, hx⟩ | ⟨rfl, hx⟩
    · dsimp only [Option.toList, List.cons_append, List.nil_append]
      refine zr_if_eq hC dX9_due_70 (tgt := 116) (by decide) (fun c => absurd c (by decide +kernel)) (fun c_70 => ?_)
      refine zr_aload_n hC dX9_due_73 rfl ?_
      refine zr_iload hC dX9_due_74 rfl ?_
      refine zk_bipush hC dX9_due_76 (v := nI 16) (by decide +kernel) ?_
      refine zr_icmp_ge hC dX9_due_78 (tgt := 88) (by decide) (fun c => absurd c (nI_ge (by omega) (by omega))) (fun c_78 => ?_)
      refine zk_iconst hC dX9_due_81 (v := nI 1) (by decide +kernel) ?_
      refine zr_iload hC dX9_due_82 rfl ?_
      refine zn_ishl hC dX9_due_84 (z_shl1 i (by omega)) ?_
      refine zr_goto hC dX9_due_85 (tgt := 89) (by decide) ?_
      refine zr_iload hC dX9_due_89 rfl ?_
      refine zk_bipush hC dX9_due_91 (v := nI 16) (by decide +kernel) ?_
      refine zr_icmp_ge hC dX9_due_93 (tgt := 100) (by decide) (fun c => absurd c (nI_ge (by omega) (by omega))) (fun c_93 => ?_)
      refine zk_iconst hC dX9_due_96 (v := nI 0) (by decide +kernel) ?_
      refine zr_goto hC dX9_due_97 (tgt := 104) (by decide) ?_
      refine zs_callV hC (b := 245) [_, _] [] dX9_due_104 ml_X9_133 mtX9_shifts tX9_shifts (by decide) (by decide) (by decide) rfl rfl (by decide) (by decide +kernel) (Nat.le_of_ble_eq_true rfl) rfl ?_
      refine ⟨_, _, _, rfl, hS, hP.1, hP.2.1, fun m hm q => ?_, fun m hm q => ?_, ?_⟩
      · rw [pow_bit (by omega) hm, beq_iff_eq] at q
        subst q
        rw [hP.2.2 m hm, if_neg (fun z => by omega)]
        have := hI.told hm
        rcases hI.leaf hm with z | z <;> omega
      · rw [no_bit hm] at q; cases q
      rw [mv_cong (P' := fun j => j == i && D 1 j == 2) (K' := fun _ => false) (fun m hm => pow_bit2 (by omega) hm hx) (fun m hm => no_bit hm)]
      intro S2 hs1 hc1 hf1
      dsimp only [Option.toList, List.nil_append]
      refine zr_iload hC dX9_due_107 rfl ?_
      refine zr_aload_n hC dX9_due_109 rfl ?_
      refine zs_callV hC (b := 245) [] [_] dX9_due_110 ml_X9_195 mtX9_letters tX9_letters (by decide) (by decide) (by decide) rfl rfl (by decide) (by decide +kernel) (Nat.le_of_ble_eq_true rfl) rfl ?_
      refine ⟨_, _, rfl, hs1, fun m hm => (sgL_I hI (i + 1) (by omega)).1.lt hm, hc1, ?_⟩
      dsimp only [Option.toList, List.cons_append, List.nil_append]
      refine zn_iadd hC dX9_due_113 (nI_add _ _) ?_
      refine zr_istore hC dX9_due_114 (by decide) ?_
      refine zn_iinc hC dX9_due_116 rfl (by decide) (zk_inc _ 1) ?_
      refine zr_goto hC dX9_due_119 (tgt := 39) (by decide) ?_
      exact zR_sub [(0, .ref 245), (1, .int w), (2, .int (nI (cms D))), (3, .int (nI (lvs D))), (4, .int (nI (sgL D (i + 1)).2)), (5, .int (nI (i + 1)))] ⟨rfl, rfl, rfl, rfl, rfl, zlk_eq rfl (by omega), trivial⟩ (ih (i + 1) S2 (by omega) hs1 (hF.tr hf1))
    · dsimp only [Option.toList, List.cons_append, List.nil_append]
      refine zr_if_eq hC dX9_due_70 (tgt := 116) (by decide) (fun c_70 => ?_) (fun c => absurd c (by decide +kernel))
      refine zn_iinc hC dX9_due_116 rfl (by decide) (zk_inc _ 1) ?_
      refine zr_goto hC dX9_due_119 (tgt := 39) (by decide) ?_
      have e1 : sgL D (i + 1) = sgL D i := sgs_none (fun m _ => one_no hx m) (fun _ _ => rfl)
      exact zR_sub [(0, .ref 245), (1, .int w), (2, .int (nI (cms D))), (3, .int (nI (lvs D))), (4, .int (nI (sgL D (i + 1)).2)), (5, .int (nI (i + 1)))] ⟨rfl, rfl, rfl, rfl, by rw [e1]; rfl, zlk_eq rfl (by omega), trivial⟩ (ih (i + 1) S (by omega) (by rw [e1]; exact hS) hF)
set_option maxHeartbeats 4000000 in
set_option maxRecDepth 100000 in
theorem l9_sgC {C : zCx} {τ : Nat → ClassId} {ι : Nat → Nat} (hC : zOK C τ (zrm 4 0 0) yX9_due.cls cX9_due 7) {S0 : zS} {D : zD} {w : Int32} (hI : INV D) (k : ∀ S, SE S (sgC D 16).1 → zfrm 247 250 S0 S → zR C τ ι 7 0 0 39 [(0, .ref 245), (1, .int w), (2, .int (nI (cms D))), (3, .int (nI (lvs D))), (4, .int (nI (sgC D 16).2)), (5, .int (nI (16 + 16)))] [] (zcells S)) : ∀ (d i : Nat) (S : zS), i + d = 16 → SE S (sgC D i).1 → zfrm 247 250 S0 S → zR C τ ι 7 0 0 39 [(0, .ref 245), (1, .int w), (2, .int (nI (cms D))), (3, .int (nI (lvs D))), (4, .int (nI (sgC D i).2)), (5, .int (nI (16 + i)))] [] (zcells S) := by
  intro d
  induction d with
  | zero =>
    intro i S hi hS hF
    obtain rfl : i = 16 := (by omega)
    exact k S hS hF
  | succ d ih =>
    intro i S hi hS hF
    have hP := sgC_I hI i (by omega)
    refine zr_iload hC dX9_due_39 rfl ?_
    refine zk_bipush hC dX9_due_41 (v := nI 32) (by decide +kernel) ?_
    refine zr_icmp_ge hC dX9_due_43 (tgt := 122) (by decide) (fun c => absurd c (nI_ge (by omega) (by omega))) (fun c_43 => ?_)
    refine zr_iload hC dX9_due_46 rfl ?_
    refine zk_bipush hC dX9_due_48 (v := nI 16) (by decide +kernel) ?_
    refine zn_irem hC dX9_due_50 (by decide +kernel) (z_rem16b (by omega)) ?_
    refine zr_istore hC dX9_due_51 (by decide) ?_
    refine zr_iload hC dX9_due_53 rfl ?_
    refine zk_bipush hC dX9_due_55 (v := nI 16) (by decide +kernel) ?_
    refine zr_icmp_ge hC dX9_due_57 (tgt := 64) (by decide) (fun c_57 => ?_) (fun c => absurd c (not_not_intro (nI_le (by omega) (by omega))))
    refine zr_iload_n hC dX9_due_64 rfl ?_
    refine zr_iload hC dX9_due_65 rfl ?_
    refine zs_callS hC [_, _] [] dX9_due_67 ml_X9_72 mtX9_has tX9_has (by decide) (by decide) (by decide) rfl (Nat.le_of_ble_eq_true rfl) rfl ?_
    refine ⟨_, i, rfl, by omega, fun r e => ?_⟩
    rw [dm_bt (by omega)] at e
    have e : (r = nI 1 ∧ D 1 i = 1) ∨ (r = nI 0 ∧ D 1 i ≠ 1) := e.imp (fun q => ⟨q.1, beq_iff_eq.mp q.2⟩) (fun q => ⟨q.1, beq_eq_false_iff_ne.mp q.2⟩)
    rcases e with ⟨rfl, hx⟩ | ⟨rfl, hx⟩
    · dsimp only [Option.toList, List.cons_append, List.nil_append]
      refine zr_if_eq hC dX9_due_70 (tgt := 116) (by decide) (fun c => absurd c (by decide +kernel)) (fun c_70 => ?_)
      refine zr_aload_n hC dX9_due_73 rfl ?_
      refine zr_iload hC dX9_due_74 rfl ?_
      refine zk_bipush hC dX9_due_76 (v := nI 16) (by decide +kernel) ?_
      refine zr_icmp_ge hC dX9_due_78 (tgt := 88) (by decide) (fun c_78 => ?_) (fun c => absurd c (not_not_intro (nI_le (by omega) (by omega))))
      refine zk_iconst hC dX9_due_88 (v := nI 0) (by decide +kernel) ?_
      refine zr_iload hC dX9_due_89 rfl ?_
      refine zk_bipush hC dX9_due_91 (v := nI 16) (by decide +kernel) ?_
      refine zr_icmp_ge hC dX9_due_93 (tgt := 100) (by decide) (fun c_93 => ?_) (fun c => absurd c (not_not_intro (nI_le (by omega) (by omega))))
      refine zk_iconst hC dX9_due_100 (v := nI 1) (by decide +kernel) ?_
      refine zr_iload hC dX9_due_101 rfl ?_
      refine zn_ishl hC dX9_due_103 (z_shl1 i (by omega)) ?_
      refine zs_callV hC (b := 245) [_, _] [] dX9_due_104 ml_X9_133 mtX9_shifts tX9_shifts (by decide) (by decide) (by decide) rfl rfl (by decide) (by decide +kernel) (Nat.le_of_ble_eq_true rfl) rfl ?_
      refine ⟨_, _, _, rfl, hS, hP.1, hP.2.1, fun m hm q => ?_, fun m hm q => ?_, ?_⟩
      · rw [no_bit hm] at q; cases q
      · rw [pow_bit (by omega) hm, beq_iff_eq] at q
        subst q
        rw [hP.2.2 m hm (Nat.le_refl m), if_neg (by omega)]
        have := hI.told hm
        omega
      rw [mv_cong (P' := fun _ => false) (K' := fun j => j == i && D 1 j == 1) (fun m hm => no_bit hm) (fun m hm => pow_bit2 (by omega) hm hx)]
      intro S2 hs1 hc1 hf1
      dsimp only [Option.toList, List.nil_append]
      refine zr_iload hC dX9_due_107 rfl ?_
      refine zr_aload_n hC dX9_due_109 rfl ?_
      refine zs_callV hC (b := 245) [] [_] dX9_due_110 ml_X9_195 mtX9_letters tX9_letters (by decide) (by decide) (by decide) rfl rfl (by decide) (by decide +kernel) (Nat.le_of_ble_eq_true rfl) rfl ?_
      refine ⟨_, _, rfl, hs1, fun m hm => (sgC_I hI (i + 1) (by omega)).1.lt hm, hc1, ?_⟩
      dsimp only [Option.toList, List.cons_append, List.nil_append]
      refine zn_iadd hC dX9_due_113 (nI_add _ _) ?_
      refine zr_istore hC dX9_due_114 (by decide) ?_
      refine zn_iinc hC dX9_due_116 rfl (by decide) (zk_inc _ 1) ?_
      refine zr_goto hC dX9_due_119 (tgt := 39) (by decide) ?_
      exact zR_sub [(0, .ref 245), (1, .int w), (2, .int (nI (cms D))), (3, .int (nI (lvs D))), (4, .int (nI (sgC D (i + 1)).2)), (5, .int (nI (16 + (i + 1))))] ⟨rfl, rfl, rfl, rfl, rfl, zlk_eq rfl (by omega), trivial⟩ (ih (i + 1) S2 (by omega) hs1 (hF.tr hf1))
    · dsimp only [Option.toList, List.cons_append, List.nil_append]
      refine zr_if_eq hC dX9_due_70 (tgt := 116) (by decide) (fun c_70 => ?_) (fun c => absurd c (by decide +kernel))
      refine zn_iinc hC dX9_due_116 rfl (by decide) (zk_inc _ 1) ?_
      refine zr_goto hC dX9_due_119 (tgt := 39) (by decide) ?_
      have e1 : sgC D (i + 1) = sgC D i := sgs_none (fun _ _ => rfl) (fun m _ => one_no hx m)
      exact zR_sub [(0, .ref 245), (1, .int w), (2, .int (nI (cms D))), (3, .int (nI (lvs D))), (4, .int (nI (sgC D (i + 1)).2)), (5, .int (nI (16 + (i + 1))))] ⟨rfl, rfl, rfl, rfl, by rw [e1]; rfl, zlk_eq rfl (by omega), trivial⟩ (ih (i + 1) S (by omega) (by rw [e1]; exact hS) hF)
def spX9_due : zSp := fun av S Q => ∃ (G : zG) (w : Int32), av = [.ref 245, .int w] ∧ MG S G ∧ GI G ∧ ∀ S', MG S' G → zfm S S' → Q (some (.int (fDue w G))) S'
set_option maxHeartbeats 4000000 in
set_option maxRecDepth 100000 in
theorem tX9_due : zM yX9_due cX9_due 7 (some .int) 4 spX9_due := by
  refine zM.of (by decide) (by decide) (fun av S Q h => by obtain ⟨G, w, rfl, hMG, hGI, hQ⟩ := h; exact Nat.le_of_ble_eq_true rfl) (fun C τ ι av S Q Qr h hr hC hE => ?_)
  obtain ⟨G, w, rfl, hMG, hGI, hQ⟩ := h
  show zR C τ ι _ 0 0 0 [(0, .ref 245), (1, .int w)] [] _
  rcases z_sw2 w with hw | rfl | rfl
  · simp only [fDue, mm_no hw] at hQ
    obtain ⟨hw0, hw1⟩ := z_swne hw
    refine zr_aload_n hC dX9_due_0 rfl ?_
    refine zk_iconst hC dX9_due_1 (v := nI 3) (by decide +kernel) ?_
    refine zk_iconst hC dX9_due_2 (v := nI 1) (by decide +kernel) ?_
    refine zs_callV hC (b := 245) [_, _] [] dX9_due_3 ml_X9_108 mtX9_those tX9_those (by decide) (by decide) (by decide) rfl rfl (by decide) (by decide +kernel) (Nat.le_of_ble_eq_true rfl) rfl ?_
    refine ⟨3, 1, G.1, rfl, Or.inr (Or.inr rfl), by decide, hMG.1, ?_⟩
    dsimp only [Option.toList, List.cons_append, List.nil_append]
    refine zr_istore_n hC dX9_due_6 (by decide) ?_
    refine zr_aload_n hC dX9_due_7 rfl ?_
    refine zk_iconst hC dX9_due_8 (v := nI 3) (by decide +kernel) ?_
    refine zk_iconst hC dX9_due_9 (v := nI 2) (by decide +kernel) ?_
    refine zs_callV hC (b := 245) [_, _] [] dX9_due_10 ml_X9_108 mtX9_those tX9_those (by decide) (by decide) (by decide) rfl rfl (by decide) (by decide +kernel) (Nat.le_of_ble_eq_true rfl) rfl ?_
    refine ⟨3, 2, G.1, rfl, Or.inr (Or.inr rfl), by decide, hMG.1, ?_⟩
    dsimp only [Option.toList, List.cons_append, List.nil_append]
    refine zr_istore_n hC dX9_due_13 (by decide) ?_
    refine zr_aload_n hC dX9_due_14 rfl ?_
    refine zs_callV hC (b := 245) [] [] dX9_due_15 ml_X9_130 mtX9_takesSeats tX9_takesSeats (by decide) (by decide) (by decide) rfl rfl (by decide) (by decide +kernel) (Nat.le_of_ble_eq_true rfl) rfl ?_
    refine ⟨G.1, rfl, hMG.1, fun S1 hs1 hf1 => ?_⟩
    dsimp only [Option.toList, List.nil_append]
    refine zr_iload_n hC dX9_due_18 rfl ?_
    refine zr_if_ne hC dX9_due_19 (tgt := 33) (by decide) (fun c_19 => ?_) (fun c => absurd c hw0)
    refine zk_iconst hC dX9_due_33 (v := nI 0) (by decide +kernel) ?_
    refine zr_istore hC dX9_due_34 (by decide) ?_
    refine zk_iconst hC dX9_due_36 (v := nI 0) (by decide +kernel) ?_
    refine zr_istore hC dX9_due_37 (by decide) ?_
    refine zR_sub [(0, .ref 245), (1, .int (w)), (2, .int (nI (cms G.1))), (3, .int (nI (lvs G.1))), (4, .int (nI (sgL G.1 0).2)), (5, .int (nI (0)))] ⟨rfl, rfl, rfl, rfl, rfl, rfl, trivial⟩ (l9_sgL (S0 := S1) (w := w) hC hGI.1 (fun S2 hs2 h1 => ?_) 16 0 S1 rfl hs1 zfrm.rf)
    refine zR_sub [(0, .ref 245), (1, .int (w)), (2, .int (nI (cms G.1))), (3, .int (nI (lvs G.1))), (4, .int (nI (sgC G.1 0).2)), (5, .int (nI (16 + 0)))] ⟨rfl, rfl, rfl, rfl, rfl, rfl, trivial⟩ (l9_sgC (S0 := S2) (w := w) hC hGI.1 (fun S3 hs3 h2 => ?_) 16 0 S2 rfl hs2 zfrm.rf)
    refine zr_iload hC dX9_due_39 rfl ?_
    refine zk_bipush hC dX9_due_41 (v := nI 32) (by decide +kernel) ?_
    refine zr_icmp_ge hC dX9_due_43 (tgt := 122) (by decide) (fun c_43 => ?_) (fun c => absurd c (not_not_intro (nI_le (by decide) (by decide))))
    refine zr_iload_n hC dX9_due_122 rfl ?_
    refine zk_iconst hC dX9_due_123 (v := nI 1) (by decide +kernel) ?_
    refine zr_icmp_ne hC dX9_due_124 (tgt := 132) (by decide) (fun c_124 => ?_) (fun c => absurd c hw1)
    refine zk_iconst hC dX9_due_132 (v := (-1)) (by decide +kernel) ?_
    exact zr_ireturn hC hE dX9_due_133 (hr _ _ (hQ _ (hMG.scr ((hf1.up (by decide) (by decide)).tr (h1.tr h2)) (by decide)) (((hf1.up (by decide) (by decide)).tr (h1.tr h2) : zfrm 247 250 S S3).m (by decide))))
  · simp only [fDue, mm_yes (show 0 < 2 by decide) (show 2 < 2147483648 by decide)] at hQ
    refine zr_aload_n hC dX9_due_0 rfl ?_
    refine zk_iconst hC dX9_due_1 (v := nI 3) (by decide +kernel) ?_
    refine zk_iconst hC dX9_due_2 (v := nI 1) (by decide +kernel) ?_
    refine zs_callV hC (b := 245) [_, _] [] dX9_due_3 ml_X9_108 mtX9_those tX9_those (by decide) (by decide) (by decide) rfl rfl (by decide) (by decide +kernel) (Nat.le_of_ble_eq_true rfl) rfl ?_
    refine ⟨3, 1, G.1, rfl, Or.inr (Or.inr rfl), by decide, hMG.1, ?_⟩
    dsimp only [Option.toList, List.cons_append, List.nil_append]
    refine zr_istore_n hC dX9_due_6 (by decide) ?_
    refine zr_aload_n hC dX9_due_7 rfl ?_
    refine zk_iconst hC dX9_due_8 (v := nI 3) (by decide +kernel) ?_
    refine zk_iconst hC dX9_due_9 (v := nI 2) (by decide +kernel) ?_
    refine zs_callV hC (b := 245) [_, _] [] dX9_due_10 ml_X9_108 mtX9_those tX9_those (by decide) (by decide) (by decide) rfl rfl (by decide) (by decide +kernel) (Nat.le_of_ble_eq_true rfl) rfl ?_
    refine ⟨3, 2, G.1, rfl, Or.inr (Or.inr rfl), by decide, hMG.1, ?_⟩
    dsimp only [Option.toList, List.cons_append, List.nil_append]
    refine zr_istore_n hC dX9_due_13 (by decide) ?_
    refine zr_aload_n hC dX9_due_14 rfl ?_
    refine zs_callV hC (b := 245) [] [] dX9_due_15 ml_X9_130 mtX9_takesSeats tX9_takesSeats (by decide) (by decide) (by decide) rfl rfl (by decide) (by decide +kernel) (Nat.le_of_ble_eq_true rfl) rfl ?_
    refine ⟨G.1, rfl, hMG.1, fun S1 hs1 hf1 => ?_⟩
    dsimp only [Option.toList, List.nil_append]
    refine zr_iload_n hC dX9_due_18 rfl ?_
    refine zr_if_ne hC dX9_due_19 (tgt := 33) (by decide) (fun c => absurd c (by decide +kernel)) (fun c_19 => ?_)
    refine zr_aload_n hC dX9_due_22 rfl ?_
    refine zr_iload_n hC dX9_due_23 rfl ?_
    refine zr_iload_n hC dX9_due_24 rfl ?_
    refine zs_callV hC (b := 245) [_, _] [] dX9_due_25 ml_X9_133 mtX9_shifts tX9_shifts (by decide) (by decide) (by decide) rfl rfl (by decide) (by decide +kernel) (Nat.le_of_ble_eq_true rfl) rfl ?_
    refine ⟨nI (lvs G.1), nI (cms G.1), G.1 0, rfl, hs1, hGI.1.ok, hGI.1.inj, fun m hm q => ?_, fun m hm q => ?_, ?_⟩
    · rw [dm_bt hm, beq_iff_eq] at q
      have := hGI.1.told hm
      rcases hGI.1.leaf hm with z | z <;> omega
    · rw [dm_bt hm, beq_iff_eq] at q
      have := hGI.1.told hm
      omega
    rw [mv_bits]
    intro S2 hs2 hc2 hf2
    dsimp only [Option.toList, List.nil_append]
    refine zr_aload_n hC dX9_due_28 rfl ?_
    refine zs_callV hC (b := 245) [] [] dX9_due_29 ml_X9_195 mtX9_letters tX9_letters (by decide) (by decide) (by decide) rfl rfl (by decide) (by decide +kernel) (Nat.le_of_ble_eq_true rfl) rfl ?_
    refine ⟨_, _, rfl, hs2, fun m hm => (mvD_F hGI.1).1.lt hm, hc2, ?_⟩
    dsimp only [Option.toList, List.cons_append, List.nil_append]
    exact zr_ireturn hC hE dX9_due_32 (hr _ _ (hQ _ (hMG.scr ((hf1.up (by decide) (by decide)).tr hf2) (by decide)) (((hf1.up (by decide) (by decide)).tr hf2 : zfrm 247 250 S S2).m (by decide))))
  · simp only [fDue, mm_yes (show 1 < 2 by decide) (show 2 < 2147483648 by decide)] at hQ
    have hw0 : ¬ nI 1 = 0 := by decide
    refine zr_aload_n hC dX9_due_0 rfl ?_
    refine zk_iconst hC dX9_due_1 (v := nI 3) (by decide +kernel) ?_
    refine zk_iconst hC dX9_due_2 (v := nI 1) (by decide +kernel) ?_
    refine zs_callV hC (b := 245) [_, _] [] dX9_due_3 ml_X9_108 mtX9_those tX9_those (by decide) (by decide) (by decide) rfl rfl (by decide) (by decide +kernel) (Nat.le_of_ble_eq_true rfl) rfl ?_
    refine ⟨3, 1, G.1, rfl, Or.inr (Or.inr rfl), by decide, hMG.1, ?_⟩
    dsimp only [Option.toList, List.cons_append, List.nil_append]
    refine zr_istore_n hC dX9_due_6 (by decide) ?_
    refine zr_aload_n hC dX9_due_7 rfl ?_
    refine zk_iconst hC dX9_due_8 (v := nI 3) (by decide +kernel) ?_
    refine zk_iconst hC dX9_due_9 (v := nI 2) (by decide +kernel) ?_
    refine zs_callV hC (b := 245) [_, _] [] dX9_due_10 ml_X9_108 mtX9_those tX9_those (by decide) (by decide) (by decide) rfl rfl (by decide) (by decide +kernel) (Nat.le_of_ble_eq_true rfl) rfl ?_
    refine ⟨3, 2, G.1, rfl, Or.inr (Or.inr rfl), by decide, hMG.1, ?_⟩
    dsimp only [Option.toList, List.cons_append, List.nil_append]
    refine zr_istore_n hC dX9_due_13 (by decide) ?_
    refine zr_aload_n hC dX9_due_14 rfl ?_
    refine zs_callV hC (b := 245) [] [] dX9_due_15 ml_X9_130 mtX9_takesSeats tX9_takesSeats (by decide) (by decide) (by decide) rfl rfl (by decide) (by decide +kernel) (Nat.le_of_ble_eq_true rfl) rfl ?_
    refine ⟨G.1, rfl, hMG.1, fun S1 hs1 hf1 => ?_⟩
    dsimp only [Option.toList, List.nil_append]
    refine zr_iload_n hC dX9_due_18 rfl ?_
    refine zr_if_ne hC dX9_due_19 (tgt := 33) (by decide) (fun c_19 => ?_) (fun c => absurd c hw0)
    refine zk_iconst hC dX9_due_33 (v := nI 0) (by decide +kernel) ?_
    refine zr_istore hC dX9_due_34 (by decide) ?_
    refine zk_iconst hC dX9_due_36 (v := nI 0) (by decide +kernel) ?_
    refine zr_istore hC dX9_due_37 (by decide) ?_
    refine zR_sub [(0, .ref 245), (1, .int (nI 1)), (2, .int (nI (cms G.1))), (3, .int (nI (lvs G.1))), (4, .int (nI (sgL G.1 0).2)), (5, .int (nI (0)))] ⟨rfl, rfl, rfl, rfl, rfl, rfl, trivial⟩ (l9_sgL (S0 := S1) (w := nI 1) hC hGI.1 (fun S2 hs2 h1 => ?_) 16 0 S1 rfl hs1 zfrm.rf)
    refine zR_sub [(0, .ref 245), (1, .int (nI 1)), (2, .int (nI (cms G.1))), (3, .int (nI (lvs G.1))), (4, .int (nI (sgC G.1 0).2)), (5, .int (nI (16 + 0)))] ⟨rfl, rfl, rfl, rfl, rfl, rfl, trivial⟩ (l9_sgC (S0 := S2) (w := nI 1) hC hGI.1 (fun S3 hs3 h2 => ?_) 16 0 S2 rfl hs2 zfrm.rf)
    refine zr_iload hC dX9_due_39 rfl ?_
    refine zk_bipush hC dX9_due_41 (v := nI 32) (by decide +kernel) ?_
    refine zr_icmp_ge hC dX9_due_43 (tgt := 122) (by decide) (fun c_43 => ?_) (fun c => absurd c (not_not_intro (nI_le (by decide) (by decide))))
    refine zr_iload_n hC dX9_due_122 rfl ?_
    refine zk_iconst hC dX9_due_123 (v := nI 1) (by decide +kernel) ?_
    refine zr_icmp_ne hC dX9_due_124 (tgt := 132) (by decide) (fun c => absurd c (not_not_intro rfl)) (fun c_124 => ?_)
    refine zr_iload hC dX9_due_127 rfl ?_
    refine zr_goto hC dX9_due_129 (tgt := 133) (by decide) ?_
    exact zr_ireturn hC hE dX9_due_133 (hr _ _ (hQ _ (hMG.scr ((hf1.up (by decide) (by decide)).tr (h1.tr h2)) (by decide)) (((hf1.up (by decide) (by decide)).tr (h1.tr h2) : zfrm 247 250 S S3).m (by decide))))
