theorem zlk_eq {lv : List (Nat × Value)} {i a b : Nat} (h1 : zlk i lv = some (.int (nI a))) (h : a = b) : zlk i lv = some (.int (nI b)) := by rw [h1, h]
/-- down to where fewer sit -/
def emd (lf : Nat → Nat) : Nat → Nat → Nat
  | 0, u => u
  | n + 1, u => emd lf n (if pcn 16 (sm lf (2 * u + 1)) < pcn 16 (sm lf (2 * u)) then 2 * u + 1 else 2 * u)
theorem pcn_le (x : Nat) : ∀ n, pcn n x ≤ n
  | 0 => Nat.le_refl 0
  | n + 1 => by
    have := pcn_le x n
    unfold pcn
    split <;> omega
theorem emd_in (lf : Nat → Nat) : ∀ n u, 16 ≤ u * 2 ^ n → u * 2 ^ n + 2 ^ n ≤ 32 → 16 ≤ emd lf n u ∧ emd lf n u < 32
  | 0, u, h1, h2 => by simp [emd] at *; omega
  | n + 1, u, h1, h2 => by
    rw [Nat.pow_succ] at h1 h2
    unfold emd
    have e1 : (2 * u) * 2 ^ n = u * (2 ^ n * 2) := by rw [Nat.mul_comm 2 u, Nat.mul_assoc, Nat.mul_comm 2]
    have e2 : (2 * u + 1) * 2 ^ n = u * (2 ^ n * 2) + 2 ^ n := by rw [Nat.add_mul, e1, Nat.one_mul]
    split
    · exact emd_in lf n (2 * u + 1) (by rw [e2]; omega) (by rw [e2]; omega)
    · exact emd_in lf n (2 * u) (by rw [e1]; omega) (by rw [e1]; omega)
abbrev emp (lf : Nat → Nat) : Nat := emd lf 4 1
theorem emp_in (lf : Nat → Nat) : 16 ≤ emp lf ∧ emp lf < 32 := emd_in lf 4 1 (by decide) (by decide)
/-- a leaf for one that comes -/
def nlf (lf : Nat → Nat) (fr : Nat → Bool) : Nat := if dmn fr 32 = 0 then emp lf else fa_first fr 32
abbrev zM3 : Type := (Nat → Nat) × (Nat → Bool) × Nat
def stL (P : Nat → Bool) (m : Nat) (x : zM3) : zM3 := if P m then (fup x.1 m 0, fun j => x.2.1 j || j == x.1 m, x.2.2 ||| pth (x.1 m / 2)) else x
def stC (P : Nat → Bool) (m : Nat) (x : zM3) : zM3 := if P m then (fup x.1 m (nlf x.1 x.2.1), fun j => x.2.1 j && !(j == nlf x.1 x.2.1), x.2.2 ||| pth (nlf x.1 x.2.1)) else x
def mvL (P : Nat → Bool) (lf : Nat → Nat) : Nat → zM3
  | 0 => (lf, fun _ => false, 0)
  | n + 1 => stL P n (mvL P lf n)
def mvC (P : Nat → Bool) (x : zM3) : Nat → zM3
  | 0 => x
  | n + 1 => stC P n (mvC P x n)
/-- leaving ones stand up, then coming ones sit: where all sit then, and the set of changed nodes -/
def mv (lf : Nat → Nat) (L K : Nat → Bool) : zM3 := mvC K (mvL L lf 16) 16
/-- how many letters tell the changed nodes' keys -/
def ltr (lf : Nat → Nat) (ch : Nat) : Nat → Nat
  | 0 => 0
  | n + 1 => ltr lf ch n + (if ch.testBit (n + 1) then (if sm lf (2 * (n + 1)) = 0 then 0 else 1) + (if sm lf (2 * (n + 1) + 1) = 0 then 0 else 1) else 0)
theorem nlf_in {lf : Nat → Nat} {fr : Nat → Bool} (hf : ∀ j, j < 32 → fr j = true → 16 ≤ j) : 16 ≤ nlf lf fr ∧ nlf lf fr < 32 := by
  unfold nlf
  split
  · exact emp_in lf
  next h =>
    have h1 : ¬ ∀ m, m < 32 → fr m = false := fun q => h (dmn_zero.mpr q)
    have h2 : fa_first fr 32 < 32 := by
      apply Nat.lt_of_not_le
      intro h3
      exact h1 fun m hm => fa_first_no fr 32 m (Nat.lt_of_lt_of_le hm h3)
    exact ⟨hf _ h2 (fa_first_yes fr 32 h2), h2⟩
theorem ltr_le (lf : Nat → Nat) (ch : Nat) : ∀ n, ltr lf ch n ≤ 2 * n
  | 0 => Nat.le_refl 0
  | n + 1 => by
    have := ltr_le lf ch n
    unfold ltr
    repeat' split
    all_goals omega
set_option maxHeartbeats 4000000 in
set_option maxRecDepth 100000 in
theorem l5_emptiest_2 {C : zCx} {τ : Nat → ClassId} {ι : Nat → Nat} (hC : zOK C τ (zrm 1 0 0) yX5_emptiestLeaf.cls cX5_emptiestLeaf 4) {S : zS} {lf : Nat → Nat} (hS : SR S 2 lf) : ∀ (n u : Nat), 16 ≤ u * 2 ^ n → u * 2 ^ n + 2 ^ n ≤ 32 → (∀ lv, zlk 1 lv = some (.int (nI (emd lf n u))) → zR C τ ι 4 0 0 46 lv [] (zcells S)) → zR C τ ι 4 0 0 2 [(0, .ref 2), (1, .int (nI u))] [] (zcells S) := by
  intro n
  induction n with
  | zero =>
    intro u h1 h2 k
    simp only [Nat.pow_zero, Nat.mul_one] at h1 h2
    refine zr_iload_n hC dX5_emptiestLeaf_2 rfl ?_
    refine zk_bipush hC dX5_emptiestLeaf_3 (v := nI 16) (by decide +kernel) ?_
    refine zr_icmp_ge hC dX5_emptiestLeaf_5 (tgt := 46) (by decide) (fun c_5 => ?_) (fun c => absurd c (not_not_intro (nI_le (by omega) (by omega))))
    exact k _ rfl
  | succ n ih =>
    intro u h1 h2 k
    rw [Nat.pow_succ] at h1 h2
    have hp := Nat.two_pow_pos n
    have e1 : (2 * u) * 2 ^ n = u * (2 ^ n * 2) := by rw [Nat.mul_comm 2 u, Nat.mul_assoc, Nat.mul_comm 2]
    have e2 : (2 * u + 1) * 2 ^ n = u * (2 ^ n * 2) + 2 ^ n := by rw [Nat.add_mul, e1, Nat.one_mul]
    have hu : u < 16 := by
      apply Nat.lt_of_not_le
      intro hu
      have h3 : 16 * (2 ^ n * 2) ≤ u * (2 ^ n * 2) := Nat.mul_le_mul_right _ hu
      omega
    have hu1 : 1 ≤ u := by
      apply Nat.lt_of_not_le
      intro hu
      have : u = 0 := by omega
      subst this
      omega
    refine zr_iload_n hC dX5_emptiestLeaf_2 rfl ?_
    refine zk_bipush hC dX5_emptiestLeaf_3 (v := nI 16) (by decide +kernel) ?_
    refine zr_icmp_ge hC dX5_emptiestLeaf_5 (tgt := 46) (by decide) (fun c => absurd c (nI_ge (by omega) (by omega))) (fun c_5 => ?_)
    refine zk_iconst hC dX5_emptiestLeaf_8 (v := nI 2) (by decide +kernel) ?_
    refine zr_iload_n hC dX5_emptiestLeaf_9 rfl ?_
    refine zn_imul hC dX5_emptiestLeaf_10 (pk_mul _ _) ?_
    refine zr_istore_n hC dX5_emptiestLeaf_11 (by decide) ?_
    refine zr_iload_n hC dX5_emptiestLeaf_12 rfl ?_
    refine zk_iconst hC dX5_emptiestLeaf_13 (v := nI 1) (by decide +kernel) ?_
    refine zn_iadd hC dX5_emptiestLeaf_14 (nI_add _ _) ?_
    refine zr_istore_n hC dX5_emptiestLeaf_15 (by decide) ?_
    refine zr_aload_n hC dX5_emptiestLeaf_16 rfl ?_
    refine zs_getr hC dX5_emptiestLeaf_17 fl_X5_15 (a := 2) (r := 4) rfl (by decide) ?_
    refine zr_iload_n hC dX5_emptiestLeaf_20 rfl ?_
    refine zs_iald hC dX5_emptiestLeaf_21 (a := 4) (n := 32) rfl (by decide) (by decide) (j := 2 * u + 1) rfl (by omega) ?_
    rw [hS.2.1 (2 * u + 1) (by omega) (by omega)]
    refine zs_callS hC [_] [] dX5_emptiestLeaf_22 ml_X5_59 mtJ6_bitCount_0f7a4 tJ6_bitCount_0f7a4 (by decide) (by decide) (by decide) rfl (Nat.le_of_ble_eq_true rfl) rfl ?_
    refine ⟨_, rfl, sm_lt _ _, ?_⟩
    dsimp only [Option.toList, List.cons_append, List.nil_append]
    refine zr_aload_n hC dX5_emptiestLeaf_25 rfl ?_
    refine zs_getr hC dX5_emptiestLeaf_26 fl_X5_15 (a := 2) (r := 4) rfl (by decide) ?_
    refine zr_iload_n hC dX5_emptiestLeaf_29 rfl ?_
    refine zs_iald hC dX5_emptiestLeaf_30 (a := 4) (n := 32) rfl (by decide) (by decide) (j := 2 * u) rfl (by omega) ?_
    rw [hS.2.1 (2 * u) (by omega) (by omega)]
    refine zs_callS hC [_] [_] dX5_emptiestLeaf_31 ml_X5_59 mtJ6_bitCount_0f7a4 tJ6_bitCount_0f7a4 (by decide) (by decide) (by decide) rfl (Nat.le_of_ble_eq_true rfl) rfl ?_
    refine ⟨_, rfl, sm_lt _ _, ?_⟩
    dsimp only [Option.toList, List.cons_append, List.nil_append]
    refine zr_icmp_ge hC dX5_emptiestLeaf_34 (tgt := 41) (by decide) (fun c_34 => ?_) (fun c_34 => ?_)
    · rw [nI_leI (Nat.lt_of_le_of_lt (pcn_le _ _) (by decide)) (Nat.lt_of_le_of_lt (pcn_le _ _) (by decide))] at c_34
      refine zr_iload_n hC dX5_emptiestLeaf_41 rfl ?_
      refine zr_istore_n hC dX5_emptiestLeaf_42 (by decide) ?_
      refine zr_goto hC dX5_emptiestLeaf_43 (tgt := 2) (by decide) ?_
      refine zR_sub [(0, .ref 2), (1, .int (nI (2 * u)))] ⟨rfl, rfl, trivial⟩ ?_
      refine ih (2 * u) (by rw [e1]; omega) (by rw [e1]; omega) (fun lv hlv => k lv ?_)
      rw [hlv, emd, if_neg (by omega)]
    · rw [nI_leI (Nat.lt_of_le_of_lt (pcn_le _ _) (by decide)) (Nat.lt_of_le_of_lt (pcn_le _ _) (by decide))] at c_34
      refine zr_iload_n hC dX5_emptiestLeaf_37 rfl ?_
      refine zr_goto hC dX5_emptiestLeaf_38 (tgt := 42) (by decide) ?_
      refine zr_istore_n hC dX5_emptiestLeaf_42 (by decide) ?_
      refine zr_goto hC dX5_emptiestLeaf_43 (tgt := 2) (by decide) ?_
      refine zR_sub [(0, .ref 2), (1, .int (nI (2 * u + 1)))] ⟨rfl, rfl, trivial⟩ ?_
      refine ih (2 * u + 1) (by rw [e2]; omega) (by rw [e2]; omega) (fun lv hlv => k lv ?_)
      rw [hlv, emd, if_pos (by omega)]
set_option maxHeartbeats 4000000 in
set_option maxRecDepth 100000 in
theorem l5_emptiest_232 {C : zCx} {τ : Nat → ClassId} {ι : Nat → Nat} (hC : zOK C τ (zrm 1 0 0) yX5_emptiestLeaf.cls cX5_emptiestLeaf 4) {S : zS} {lf : Nat → Nat} (hS : SR S 232 lf) : ∀ (n u : Nat), 16 ≤ u * 2 ^ n → u * 2 ^ n + 2 ^ n ≤ 32 → (∀ lv, zlk 1 lv = some (.int (nI (emd lf n u))) → zR C τ ι 4 0 0 46 lv [] (zcells S)) → zR C τ ι 4 0 0 2 [(0, .ref 232), (1, .int (nI u))] [] (zcells S) := by
  intro n
  induction n with
  | zero =>
    intro u h1 h2 k
    simp only [Nat.pow_zero, Nat.mul_one] at h1 h2
    refine zr_iload_n hC dX5_emptiestLeaf_2 rfl ?_
    refine zk_bipush hC dX5_emptiestLeaf_3 (v := nI 16) (by decide +kernel) ?_
    refine zr_icmp_ge hC dX5_emptiestLeaf_5 (tgt := 46) (by decide) (fun c_5 => ?_) (fun c => absurd c (not_not_intro (nI_le (by omega) (by omega))))
    exact k _ rfl
  | succ n ih =>
    intro u h1 h2 k
    rw [Nat.pow_succ] at h1 h2
    have hp := Nat.two_pow_pos n
    have e1 : (2 * u) * 2 ^ n = u * (2 ^ n * 2) := by rw [Nat.mul_comm 2 u, Nat.mul_assoc, Nat.mul_comm 2]
    have e2 : (2 * u + 1) * 2 ^ n = u * (2 ^ n * 2) + 2 ^ n := by rw [Nat.add_mul, e1, Nat.one_mul]
    have hu : u < 16 := by
      apply Nat.lt_of_not_le
      intro hu
      have h3 : 16 * (2 ^ n * 2) ≤ u * (2 ^ n * 2) := Nat.mul_le_mul_right _ hu
      omega
    have hu1 : 1 ≤ u := by
      apply Nat.lt_of_not_le
      intro hu
      have : u = 0 := by omega
      subst this
      omega
    refine zr_iload_n hC dX5_emptiestLeaf_2 rfl ?_
    refine zk_bipush hC dX5_emptiestLeaf_3 (v := nI 16) (by decide +kernel) ?_
    refine zr_icmp_ge hC dX5_emptiestLeaf_5 (tgt := 46) (by decide) (fun c => absurd c (nI_ge (by omega) (by omega))) (fun c_5 => ?_)
    refine zk_iconst hC dX5_emptiestLeaf_8 (v := nI 2) (by decide +kernel) ?_
    refine zr_iload_n hC dX5_emptiestLeaf_9 rfl ?_
    refine zn_imul hC dX5_emptiestLeaf_10 (pk_mul _ _) ?_
    refine zr_istore_n hC dX5_emptiestLeaf_11 (by decide) ?_
    refine zr_iload_n hC dX5_emptiestLeaf_12 rfl ?_
    refine zk_iconst hC dX5_emptiestLeaf_13 (v := nI 1) (by decide +kernel) ?_
    refine zn_iadd hC dX5_emptiestLeaf_14 (nI_add _ _) ?_
    refine zr_istore_n hC dX5_emptiestLeaf_15 (by decide) ?_
    refine zr_aload_n hC dX5_emptiestLeaf_16 rfl ?_
    refine zs_getr hC dX5_emptiestLeaf_17 fl_X5_15 (a := 232) (r := 234) rfl (by decide) ?_
    refine zr_iload_n hC dX5_emptiestLeaf_20 rfl ?_
    refine zs_iald hC dX5_emptiestLeaf_21 (a := 234) (n := 32) rfl (by decide) (by decide) (j := 2 * u + 1) rfl (by omega) ?_
    rw [hS.2.1 (2 * u + 1) (by omega) (by omega)]
    refine zs_callS hC [_] [] dX5_emptiestLeaf_22 ml_X5_59 mtJ6_bitCount_0f7a4 tJ6_bitCount_0f7a4 (by decide) (by decide) (by decide) rfl (Nat.le_of_ble_eq_true rfl) rfl ?_
    refine ⟨_, rfl, sm_lt _ _, ?_⟩
    dsimp only [Option.toList, List.cons_append, List.nil_append]
    refine zr_aload_n hC dX5_emptiestLeaf_25 rfl ?_
    refine zs_getr hC dX5_emptiestLeaf_26 fl_X5_15 (a := 232) (r := 234) rfl (by decide) ?_
    refine zr_iload_n hC dX5_emptiestLeaf_29 rfl ?_
    refine zs_iald hC dX5_emptiestLeaf_30 (a := 234) (n := 32) rfl (by decide) (by decide) (j := 2 * u) rfl (by omega) ?_
    rw [hS.2.1 (2 * u) (by omega) (by omega)]
    refine zs_callS hC [_] [_] dX5_emptiestLeaf_31 ml_X5_59 mtJ6_bitCount_0f7a4 tJ6_bitCount_0f7a4 (by decide) (by decide) (by decide) rfl (Nat.le_of_ble_eq_true rfl) rfl ?_
    refine ⟨_, rfl, sm_lt _ _, ?_⟩
    dsimp only [Option.toList, List.cons_append, List.nil_append]
    refine zr_icmp_ge hC dX5_emptiestLeaf_34 (tgt := 41) (by decide) (fun c_34 => ?_) (fun c_34 => ?_)
    · rw [nI_leI (Nat.lt_of_le_of_lt (pcn_le _ _) (by decide)) (Nat.lt_of_le_of_lt (pcn_le _ _) (by decide))] at c_34
      refine zr_iload_n hC dX5_emptiestLeaf_41 rfl ?_
      refine zr_istore_n hC dX5_emptiestLeaf_42 (by decide) ?_
      refine zr_goto hC dX5_emptiestLeaf_43 (tgt := 2) (by decide) ?_
      refine zR_sub [(0, .ref 232), (1, .int (nI (2 * u)))] ⟨rfl, rfl, trivial⟩ ?_
      refine ih (2 * u) (by rw [e1]; omega) (by rw [e1]; omega) (fun lv hlv => k lv ?_)
      rw [hlv, emd, if_neg (by omega)]
    · rw [nI_leI (Nat.lt_of_le_of_lt (pcn_le _ _) (by decide)) (Nat.lt_of_le_of_lt (pcn_le _ _) (by decide))] at c_34
      refine zr_iload_n hC dX5_emptiestLeaf_37 rfl ?_
      refine zr_goto hC dX5_emptiestLeaf_38 (tgt := 42) (by decide) ?_
      refine zr_istore_n hC dX5_emptiestLeaf_42 (by decide) ?_
      refine zr_goto hC dX5_emptiestLeaf_43 (tgt := 2) (by decide) ?_
      refine zR_sub [(0, .ref 232), (1, .int (nI (2 * u + 1)))] ⟨rfl, rfl, trivial⟩ ?_
      refine ih (2 * u + 1) (by rw [e2]; omega) (by rw [e2]; omega) (fun lv hlv => k lv ?_)
      rw [hlv, emd, if_pos (by omega)]
def spX5_emptiestLeaf : zSp := fun av S Q => ∃ (q : Nat) (lf : Nat → Nat), av = [.ref q] ∧ zq q ∧ SR S q lf ∧ Q (some (.int (nI (emp lf)))) S
set_option maxHeartbeats 4000000 in
set_option maxRecDepth 100000 in
theorem tX5_emptiestLeaf : zM yX5_emptiestLeaf cX5_emptiestLeaf 4 (some .int) 1 spX5_emptiestLeaf := by
  refine zM.of (by decide) (by decide) (fun av S Q h => by obtain ⟨q, lf, rfl, hq, hS, hQ⟩ := h; exact Nat.le_of_ble_eq_true rfl) (fun C τ ι av S Q Qr h hr hC hE => ?_)
  obtain ⟨q, lf, rfl, hq, hS, hQ⟩ := h
  rcases hq with rfl | rfl
  · show zR C τ ι _ 0 0 0 [(0, .ref 2)] [] _
    refine zk_iconst hC dX5_emptiestLeaf_0 (v := nI 1) (by decide +kernel) ?_
    refine zr_istore_n hC dX5_emptiestLeaf_1 (by decide) ?_
    refine zR_sub [(0, .ref 2), (1, .int (nI 1))] ⟨rfl, rfl, trivial⟩ ?_
    refine l5_emptiest_2 hC hS 4 1 (by decide) (by decide) (fun lv hlv => ?_)
    refine zr_iload_n hC dX5_emptiestLeaf_46 hlv ?_
    exact zr_ireturn hC hE dX5_emptiestLeaf_47 (hr _ _ hQ)
  · show zR C τ ι _ 0 0 0 [(0, .ref 232)] [] _
    refine zk_iconst hC dX5_emptiestLeaf_0 (v := nI 1) (by decide +kernel) ?_
    refine zr_istore_n hC dX5_emptiestLeaf_1 (by decide) ?_
    refine zR_sub [(0, .ref 232), (1, .int (nI 1))] ⟨rfl, rfl, trivial⟩ ?_
    refine l5_emptiest_232 hC hS 4 1 (by decide) (by decide) (fun lv hlv => ?_)
    refine zr_iload_n hC dX5_emptiestLeaf_46 hlv ?_
    exact zr_ireturn hC hE dX5_emptiestLeaf_47 (hr _ _ hQ)
set_option maxHeartbeats 4000000 in
set_option maxRecDepth 100000 in
theorem l5_letters_2 {C : zCx} {τ : Nat → ClassId} {ι : Nat → Nat} (hC : zOK C τ (zrm 2 0 0) yX5_lettersFor.cls cX5_lettersFor 4) {S : zS} {lf : Nat → Nat} (hS : SR S 2 lf) {c : Nat} (k : ∀ lv, zlk 2 lv = some (.int (nI (ltr lf c 15))) → zR C τ ι 4 0 0 60 lv [] (zcells S)) : ∀ (n i : Nat), i + n = 15 → zR C τ ι 4 0 0 4 [(0, .ref 2), (1, .int (nI c)), (2, .int (nI (ltr lf c i))), (3, .int (nI (i + 1)))] [] (zcells S) := by
  intro n
  induction n with
  | zero =>
    intro i hi
    refine zr_iload_n hC dX5_lettersFor_4 rfl ?_
    refine zk_bipush hC dX5_lettersFor_5 (v := nI 16) (by decide +kernel) ?_
    refine zr_icmp_ge hC dX5_lettersFor_7 (tgt := 60) (by decide) (fun c_7 => ?_) (fun c => absurd c (not_not_intro (nI_le (by omega) (by omega))))
    refine k _ ?_
    rw [show i = 15 by omega]
    rfl
  | succ n ih =>
    intro i hi
    refine zr_iload_n hC dX5_lettersFor_4 rfl ?_
    refine zk_bipush hC dX5_lettersFor_5 (v := nI 16) (by decide +kernel) ?_
    refine zr_icmp_ge hC dX5_lettersFor_7 (tgt := 60) (by decide) (fun c => absurd c (nI_ge (by omega) (by omega))) (fun c_7 => ?_)
    refine zr_iload_n hC dX5_lettersFor_10 rfl ?_
    refine zr_iload_n hC dX5_lettersFor_11 rfl ?_
    refine zs_callSN hC [_, _] [] dX5_lettersFor_12 mn_X5_30 mtX8_has tX8_has (by decide) (by decide) (by decide) rfl (Nat.le_of_ble_eq_true rfl) rfl ?_
    refine ⟨_, i + 1, rfl, by omega, fun r e => ?_⟩
    rcases e with ⟨rfl, hx⟩ | ⟨rfl, hx⟩
    · rw [bt_nI _ _ (by omega)] at hx
      dsimp only [Option.toList, List.cons_append, List.nil_append]
      refine zr_if_eq hC dX5_lettersFor_15 (tgt := 54) (by decide) (fun c => absurd c (by decide +kernel)) (fun c_15 => ?_)
      refine zr_iload_n hC dX5_lettersFor_18 rfl ?_
      refine zr_aload_n hC dX5_lettersFor_19 rfl ?_
      refine zk_iconst hC dX5_lettersFor_20 (v := nI 2) (by decide +kernel) ?_
      refine zr_iload_n hC dX5_lettersFor_21 rfl ?_
      refine zn_imul hC dX5_lettersFor_22 (pk_mul _ _) ?_
      refine zs_callV hC (b := 2) [_] [_] dX5_lettersFor_23 ml_X5_55 mtX5_live tX5_live (by decide) (by decide) (by decide) rfl rfl (by decide) (by decide +kernel) (Nat.le_of_ble_eq_true rfl) rfl ?_
      refine ⟨_, 2 * (i + 1), rfl, Or.inl rfl, by omega, fun r e => ?_⟩
      rcases e with ⟨rfl, h1⟩ | ⟨rfl, h1⟩
      · rw [hS.2.1 _ (by omega) (by omega), z_ne0 (Nat.lt_trans (sm_lt _ _) (by decide))] at h1
        dsimp only [Option.toList, List.cons_append, List.nil_append]
        refine zr_if_eq hC dX5_lettersFor_26 (tgt := 33) (by decide) (fun c => absurd c (by decide +kernel)) (fun c_26 => ?_)
        refine zk_iconst hC dX5_lettersFor_29 (v := nI 1) (by decide +kernel) ?_
        refine zr_goto hC dX5_lettersFor_30 (tgt := 34) (by decide) ?_
        refine zr_aload_n hC dX5_lettersFor_34 rfl ?_
        refine zk_iconst hC dX5_lettersFor_35 (v := nI 2) (by decide +kernel) ?_
        refine zr_iload_n hC dX5_lettersFor_36 rfl ?_
        refine zn_imul hC dX5_lettersFor_37 (pk_mul _ _) ?_
        refine zk_iconst hC dX5_lettersFor_38 (v := nI 1) (by decide +kernel) ?_
        refine zn_iadd hC dX5_lettersFor_39 (nI_add _ _) ?_
        refine zs_callV hC (b := 2) [_] [_, _] dX5_lettersFor_40 ml_X5_55 mtX5_live tX5_live (by decide) (by decide) (by decide) rfl rfl (by decide) (by decide +kernel) (Nat.le_of_ble_eq_true rfl) rfl ?_
        refine ⟨_, 2 * (i + 1) + 1, rfl, Or.inl rfl, by omega, fun r e => ?_⟩
        rcases e with ⟨rfl, h2⟩ | ⟨rfl, h2⟩
        · rw [hS.2.1 _ (by omega) (by omega), z_ne0 (Nat.lt_trans (sm_lt _ _) (by decide))] at h2
          dsimp only [Option.toList, List.cons_append, List.nil_append]
          refine zr_if_eq hC dX5_lettersFor_43 (tgt := 50) (by decide) (fun c => absurd c (by decide +kernel)) (fun c_43 => ?_)
          refine zk_iconst hC dX5_lettersFor_46 (v := nI 1) (by decide +kernel) ?_
          refine zr_goto hC dX5_lettersFor_47 (tgt := 51) (by decide) ?_
          refine zn_iadd hC dX5_lettersFor_51 (v := nI 2) (by decide +kernel) ?_
          refine zn_iadd hC dX5_lettersFor_52 (nI_add _ _) ?_
          refine zr_istore_n hC dX5_lettersFor_53 (by decide) ?_
          refine zn_iinc hC dX5_lettersFor_54 rfl (by decide) (zk_inc _ 1) ?_
          refine zr_goto hC dX5_lettersFor_57 (tgt := 4) (by decide) ?_
          refine zR_sub [(0, .ref 2), (1, .int (nI c)), (2, .int (nI (ltr lf c (i + 1)))), (3, .int (nI (i + 1 + 1)))] ⟨rfl, rfl, zlk_eq rfl (by simp [ltr, *]), rfl, trivial⟩ (ih (i + 1) (by omega))
        · rw [hS.2.1 _ (by omega) (by omega), z_ne0 (Nat.lt_trans (sm_lt _ _) (by decide))] at h2
          dsimp only [Option.toList, List.cons_append, List.nil_append]
          refine zr_if_eq hC dX5_lettersFor_43 (tgt := 50) (by decide) (fun c_43 => ?_) (fun c => absurd c (by decide +kernel))
          refine zk_iconst hC dX5_lettersFor_50 (v := nI 0) (by decide +kernel) ?_
          refine zn_iadd hC dX5_lettersFor_51 (v := nI 1) (by decide +kernel) ?_
          refine zn_iadd hC dX5_lettersFor_52 (nI_add _ _) ?_
          refine zr_istore_n hC dX5_lettersFor_53 (by decide) ?_
          refine zn_iinc hC dX5_lettersFor_54 rfl (by decide) (zk_inc _ 1) ?_
          refine zr_goto hC dX5_lettersFor_57 (tgt := 4) (by decide) ?_
          refine zR_sub [(0, .ref 2), (1, .int (nI c)), (2, .int (nI (ltr lf c (i + 1)))), (3, .int (nI (i + 1 + 1)))] ⟨rfl, rfl, zlk_eq rfl (by simp [ltr, *]), rfl, trivial⟩ (ih (i + 1) (by omega))
      · rw [hS.2.1 _ (by omega) (by omega), z_ne0 (Nat.lt_trans (sm_lt _ _) (by decide))] at h1
        dsimp only [Option.toList, List.cons_append, List.nil_append]
        refine zr_if_eq hC dX5_lettersFor_26 (tgt := 33) (by decide) (fun c_26 => ?_) (fun c => absurd c (by decide +kernel))
        refine zk_iconst hC dX5_lettersFor_33 (v := nI 0) (by decide +kernel) ?_
        refine zr_aload_n hC dX5_lettersFor_34 rfl ?_
        refine zk_iconst hC dX5_lettersFor_35 (v := nI 2) (by decide +kernel) ?_
        refine zr_iload_n hC dX5_lettersFor_36 rfl ?_
        refine zn_imul hC dX5_lettersFor_37 (pk_mul _ _) ?_
        refine zk_iconst hC dX5_lettersFor_38 (v := nI 1) (by decide +kernel) ?_
        refine zn_iadd hC dX5_lettersFor_39 (nI_add _ _) ?_
        refine zs_callV hC (b := 2) [_] [_, _] dX5_lettersFor_40 ml_X5_55 mtX5_live tX5_live (by decide) (by decide) (by decide) rfl rfl (by decide) (by decide +kernel) (Nat.le_of_ble_eq_true rfl) rfl ?_
        refine ⟨_, 2 * (i + 1) + 1, rfl, Or.inl rfl, by omega, fun r e => ?_⟩
        rcases e with ⟨rfl, h2⟩ | ⟨rfl, h2⟩
        · rw [hS.2.1 _ (by omega) (by omega), z_ne0 (Nat.lt_trans (sm_lt _ _) (by decide))] at h2
          dsimp only [Option.toList, List.cons_append, List.nil_append]
          refine zr_if_eq hC dX5_lettersFor_43 (tgt := 50) (by decide) (fun c => absurd c (by decide +kernel)) (fun c_43 => ?_)
          refine zk_iconst hC dX5_lettersFor_46 (v := nI 1) (by decide +kernel) ?_
          refine zr_goto hC dX5_lettersFor_47 (tgt := 51) (by decide) ?_
          refine zn_iadd hC dX5_lettersFor_51 (v := nI 1) (by decide +kernel) ?_
          refine zn_iadd hC dX5_lettersFor_52 (nI_add _ _) ?_
          refine zr_istore_n hC dX5_lettersFor_53 (by decide) ?_
          refine zn_iinc hC dX5_lettersFor_54 rfl (by decide) (zk_inc _ 1) ?_
          refine zr_goto hC dX5_lettersFor_57 (tgt := 4) (by decide) ?_
          refine zR_sub [(0, .ref 2), (1, .int (nI c)), (2, .int (nI (ltr lf c (i + 1)))), (3, .int (nI (i + 1 + 1)))] ⟨rfl, rfl, zlk_eq rfl (by simp [ltr, *]), rfl, trivial⟩ (ih (i + 1) (by omega))
        · rw [hS.2.1 _ (by omega) (by omega), z_ne0 (Nat.lt_trans (sm_lt _ _) (by decide))] at h2
          dsimp only [Option.toList, List.cons_append, List.nil_append]
          refine zr_if_eq hC dX5_lettersFor_43 (tgt := 50) (by decide) (fun c_43 => ?_) (fun c => absurd c (by decide +kernel))
          refine zk_iconst hC dX5_lettersFor_50 (v := nI 0) (by decide +kernel) ?_
          refine zn_iadd hC dX5_lettersFor_51 (v := nI 0) (by decide +kernel) ?_
          refine zn_iadd hC dX5_lettersFor_52 (nI_add _ _) ?_
          refine zr_istore_n hC dX5_lettersFor_53 (by decide) ?_
          refine zn_iinc hC dX5_lettersFor_54 rfl (by decide) (zk_inc _ 1) ?_
          refine zr_goto hC dX5_lettersFor_57 (tgt := 4) (by decide) ?_
          refine zR_sub [(0, .ref 2), (1, .int (nI c)), (2, .int (nI (ltr lf c (i + 1)))), (3, .int (nI (i + 1 + 1)))] ⟨rfl, rfl, zlk_eq rfl (by simp [ltr, *]), rfl, trivial⟩ (ih (i + 1) (by omega))
    · rw [bt_nI _ _ (by omega)] at hx
      dsimp only [Option.toList, List.cons_append, List.nil_append]
      refine zr_if_eq hC dX5_lettersFor_15 (tgt := 54) (by decide) (fun c_15 => ?_) (fun c => absurd c (by decide +kernel))
      refine zn_iinc hC dX5_lettersFor_54 rfl (by decide) (zk_inc _ 1) ?_
      refine zr_goto hC dX5_lettersFor_57 (tgt := 4) (by decide) ?_
      refine zR_sub [(0, .ref 2), (1, .int (nI c)), (2, .int (nI (ltr lf c (i + 1)))), (3, .int (nI (i + 1 + 1)))] ⟨rfl, rfl, zlk_eq rfl (by simp [ltr, *]), rfl, trivial⟩ (ih (i + 1) (by omega))
set_option maxHeartbeats 4000000 in
set_option maxRecDepth 100000 in
theorem l5_letters_232 {C : zCx} {τ : Nat → ClassId} {ι : Nat → Nat} (hC : zOK C τ (zrm 2 0 0) yX5_lettersFor.cls cX5_lettersFor 4) {S : zS} {lf : Nat → Nat} (hS : SR S 232 lf) {c : Nat} (k : ∀ lv, zlk 2 lv = some (.int (nI (ltr lf c 15))) → zR C τ ι 4 0 0 60 lv [] (zcells S)) : ∀ (n i : Nat), i + n = 15 → zR C τ ι 4 0 0 4 [(0, .ref 232), (1, .int (nI c)), (2, .int (nI (ltr lf c i))), (3, .int (nI (i + 1)))] [] (zcells S) := by
  intro n
  induction n with
  | zero =>
    intro i hi
    refine zr_iload_n hC dX5_lettersFor_4 rfl ?_
    refine zk_bipush hC dX5_lettersFor_5 (v := nI 16) (by decide +kernel) ?_
    refine zr_icmp_ge hC dX5_lettersFor_7 (tgt := 60) (by decide) (fun c_7 => ?_) (fun c => absurd c (not_not_intro (nI_le (by omega) (by omega))))
    refine k _ ?_
    rw [show i = 15 by omega]
    rfl
  | succ n ih =>
    intro i hi
    refine zr_iload_n hC dX5_lettersFor_4 rfl ?_
    refine zk_bipush hC dX5_lettersFor_5 (v := nI 16) (by decide +kernel) ?_
    refine zr_icmp_ge hC dX5_lettersFor_7 (tgt := 60) (by decide) (fun c => absurd c (nI_ge (by omega) (by omega))) (fun c_7 => ?_)
    refine zr_iload_n hC dX5_lettersFor_10 rfl ?_
    refine zr_iload_n hC dX5_lettersFor_11 rfl ?_
    refine zs_callSN hC [_, _] [] dX5_lettersFor_12 mn_X5_30 mtX8_has tX8_has (by decide) (by decide) (by decide) rfl (Nat.le_of_ble_eq_true rfl) rfl ?_
    refine ⟨_, i + 1, rfl, by omega, fun r e => ?_⟩
    rcases e with ⟨rfl, hx⟩ | ⟨rfl, hx⟩
    · rw [bt_nI _ _ (by omega)] at hx
      dsimp only [Option.toList, List.cons_append, List.nil_append]
      refine zr_if_eq hC dX5_lettersFor_15 (tgt := 54) (by decide) (fun c => absurd c (by decide +kernel)) (fun c_15 => ?_)
      refine zr_iload_n hC dX5_lettersFor_18 rfl ?_
      refine zr_aload_n hC dX5_lettersFor_19 rfl ?_
      refine zk_iconst hC dX5_lettersFor_20 (v := nI 2) (by decide +kernel) ?_
      refine zr_iload_n hC dX5_lettersFor_21 rfl ?_
      refine zn_imul hC dX5_lettersFor_22 (pk_mul _ _) ?_
      refine zs_callV hC (b := 232) [_] [_] dX5_lettersFor_23 ml_X5_55 mtX5_live tX5_live (by decide) (by decide) (by decide) rfl rfl (by decide) (by decide +kernel) (Nat.le_of_ble_eq_true rfl) rfl ?_
      refine ⟨_, 2 * (i + 1), rfl, Or.inr rfl, by omega, fun r e => ?_⟩
      rcases e with ⟨rfl, h1⟩ | ⟨rfl, h1⟩
      · rw [hS.2.1 _ (by omega) (by omega), z_ne0 (Nat.lt_trans (sm_lt _ _) (by decide))] at h1
        dsimp only [Option.toList, List.cons_append, List.nil_append]
        refine zr_if_eq hC dX5_lettersFor_26 (tgt := 33) (by decide) (fun c => absurd c (by decide +kernel)) (fun c_26 => ?_)
        refine zk_iconst hC dX5_lettersFor_29 (v := nI 1) (by decide +kernel) ?_
        refine zr_goto hC dX5_lettersFor_30 (tgt := 34) (by decide) ?_
        refine zr_aload_n hC dX5_lettersFor_34 rfl ?_
        refine zk_iconst hC dX5_lettersFor_35 (v := nI 2) (by decide +kernel) ?_
        refine zr_iload_n hC dX5_lettersFor_36 rfl ?_
        refine zn_imul hC dX5_lettersFor_37 (pk_mul _ _) ?_
        refine zk_iconst hC dX5_lettersFor_38 (v := nI 1) (by decide +kernel) ?_
        refine zn_iadd hC dX5_lettersFor_39 (nI_add _ _) ?_
        refine zs_callV hC (b := 232) [_] [_, _] dX5_lettersFor_40 ml_X5_55 mtX5_live tX5_live (by decide) (by decide) (by decide) rfl rfl (by decide) (by decide +kernel) (Nat.le_of_ble_eq_true rfl) rfl ?_
        refine ⟨_, 2 * (i + 1) + 1, rfl, Or.inr rfl, by omega, fun r e => ?_⟩
        rcases e with ⟨rfl, h2⟩ | ⟨rfl, h2⟩
        · rw [hS.2.1 _ (by omega) (by omega), z_ne0 (Nat.lt_trans (sm_lt _ _) (by decide))] at h2
          dsimp only [Option.toList, List.cons_append, List.nil_append]
          refine zr_if_eq hC dX5_lettersFor_43 (tgt := 50) (by decide) (fun c => absurd c (by decide +kernel)) (fun c_43 => ?_)
          refine zk_iconst hC dX5_lettersFor_46 (v := nI 1) (by decide +kernel) ?_
          refine zr_goto hC dX5_lettersFor_47 (tgt := 51) (by decide) ?_
          refine zn_iadd hC dX5_lettersFor_51 (v := nI 2) (by decide +kernel) ?_
          refine zn_iadd hC dX5_lettersFor_52 (nI_add _ _) ?_
          refine zr_istore_n hC dX5_lettersFor_53 (by decide) ?_
          refine zn_iinc hC dX5_lettersFor_54 rfl (by decide) (zk_inc _ 1) ?_
          refine zr_goto hC dX5_lettersFor_57 (tgt := 4) (by decide) ?_
          refine zR_sub [(0, .ref 232), (1, .int (nI c)), (2, .int (nI (ltr lf c (i + 1)))), (3, .int (nI (i + 1 + 1)))] ⟨rfl, rfl, zlk_eq rfl (by simp [ltr, *]), rfl, trivial⟩ (ih (i + 1) (by omega))
        · rw [hS.2.1 _ (by omega) (by omega), z_ne0 (Nat.lt_trans (sm_lt _ _) (by decide))] at h2
          dsimp only [Option.toList, List.cons_append, List.nil_append]
          refine zr_if_eq hC dX5_lettersFor_43 (tgt := 50) (by decide) (fun c_43 => ?_) (fun c => absurd c (by decide +kernel))
          refine zk_iconst hC dX5_lettersFor_50 (v := nI 0) (by decide +kernel) ?_
          refine zn_iadd hC dX5_lettersFor_51 (v := nI 1) (by decide +kernel) ?_
          refine zn_iadd hC dX5_lettersFor_52 (nI_add _ _) ?_
          refine zr_istore_n hC dX5_lettersFor_53 (by decide) ?_
          refine zn_iinc hC dX5_lettersFor_54 rfl (by decide) (zk_inc _ 1) ?_
          refine zr_goto hC dX5_lettersFor_57 (tgt := 4) (by decide) ?_
          refine zR_sub [(0, .ref 232), (1, .int (nI c)), (2, .int (nI (ltr lf c (i + 1)))), (3, .int (nI (i + 1 + 1)))] ⟨rfl, rfl, zlk_eq rfl (by simp [ltr, *]), rfl, trivial⟩ (ih (i + 1) (by omega))
      · rw [hS.2.1 _ (by omega) (by omega), z_ne0 (Nat.lt_trans (sm_lt _ _) (by decide))] at h1
        dsimp only [Option.toList, List.cons_append, List.nil_append]
        refine zr_if_eq hC dX5_lettersFor_26 (tgt := 33) (by decide) (fun c_26 => ?_) (fun c => absurd c (by decide +kernel))
        refine zk_iconst hC dX5_lettersFor_33 (v := nI 0) (by decide +kernel) ?_
        refine zr_aload_n hC dX5_lettersFor_34 rfl ?_
        refine zk_iconst hC dX5_lettersFor_35 (v := nI 2) (by decide +kernel) ?_
        refine zr_iload_n hC dX5_lettersFor_36 rfl ?_
        refine zn_imul hC dX5_lettersFor_37 (pk_mul _ _) ?_
        refine zk_iconst hC dX5_lettersFor_38 (v := nI 1) (by decide +kernel) ?_
        refine zn_iadd hC dX5_lettersFor_39 (nI_add _ _) ?_
        refine zs_callV hC (b := 232) [_] [_, _] dX5_lettersFor_40 ml_X5_55 mtX5_live tX5_live (by decide) (by decide) (by decide) rfl rfl (by decide) (by decide +kernel) (Nat.le_of_ble_eq_true rfl) rfl ?_
        refine ⟨_, 2 * (i + 1) + 1, rfl, Or.inr rfl, by omega, fun r e => ?_⟩
        rcases e with ⟨rfl, h2⟩ | ⟨rfl, h2⟩
        · rw [hS.2.1 _ (by omega) (by omega), z_ne0 (Nat.lt_trans (sm_lt _ _) (by decide))] at h2
          dsimp only [Option.toList, List.cons_append, List.nil_append]
          refine zr_if_eq hC dX5_lettersFor_43 (tgt := 50) (by decide) (fun c => absurd c (by decide +kernel)) (fun c_43 => ?_)
          refine zk_iconst hC dX5_lettersFor_46 (v := nI 1) (by decide +kernel) ?_
          refine zr_goto hC dX5_lettersFor_47 (tgt := 51) (by decide) ?_
          refine zn_iadd hC dX5_lettersFor_51 (v := nI 1) (by decide +kernel) ?_
          refine zn_iadd hC dX5_lettersFor_52 (nI_add _ _) ?_
          refine zr_istore_n hC dX5_lettersFor_53 (by decide) ?_
          refine zn_iinc hC dX5_lettersFor_54 rfl (by decide) (zk_inc _ 1) ?_
          refine zr_goto hC dX5_lettersFor_57 (tgt := 4) (by decide) ?_
          refine zR_sub [(0, .ref 232), (1, .int (nI c)), (2, .int (nI (ltr lf c (i + 1)))), (3, .int (nI (i + 1 + 1)))] ⟨rfl, rfl, zlk_eq rfl (by simp [ltr, *]), rfl, trivial⟩ (ih (i + 1) (by omega))
        · rw [hS.2.1 _ (by omega) (by omega), z_ne0 (Nat.lt_trans (sm_lt _ _) (by decide))] at h2
          dsimp only [Option.toList, List.cons_append, List.nil_append]
          refine zr_if_eq hC dX5_lettersFor_43 (tgt := 50) (by decide) (fun c_43 => ?_) (fun c => absurd c (by decide +kernel))
          refine zk_iconst hC dX5_lettersFor_50 (v := nI 0) (by decide +kernel) ?_
          refine zn_iadd hC dX5_lettersFor_51 (v := nI 0) (by decide +kernel) ?_
          refine zn_iadd hC dX5_lettersFor_52 (nI_add _ _) ?_
          refine zr_istore_n hC dX5_lettersFor_53 (by decide) ?_
          refine zn_iinc hC dX5_lettersFor_54 rfl (by decide) (zk_inc _ 1) ?_
          refine zr_goto hC dX5_lettersFor_57 (tgt := 4) (by decide) ?_
          refine zR_sub [(0, .ref 232), (1, .int (nI c)), (2, .int (nI (ltr lf c (i + 1)))), (3, .int (nI (i + 1 + 1)))] ⟨rfl, rfl, zlk_eq rfl (by simp [ltr, *]), rfl, trivial⟩ (ih (i + 1) (by omega))
    · rw [bt_nI _ _ (by omega)] at hx
      dsimp only [Option.toList, List.cons_append, List.nil_append]
      refine zr_if_eq hC dX5_lettersFor_15 (tgt := 54) (by decide) (fun c_15 => ?_) (fun c => absurd c (by decide +kernel))
      refine zn_iinc hC dX5_lettersFor_54 rfl (by decide) (zk_inc _ 1) ?_
      refine zr_goto hC dX5_lettersFor_57 (tgt := 4) (by decide) ?_
      refine zR_sub [(0, .ref 232), (1, .int (nI c)), (2, .int (nI (ltr lf c (i + 1)))), (3, .int (nI (i + 1 + 1)))] ⟨rfl, rfl, zlk_eq rfl (by simp [ltr, *]), rfl, trivial⟩ (ih (i + 1) (by omega))
def spX5_lettersFor : zSp := fun av S Q => ∃ (q c : Nat) (lf : Nat → Nat), av = [.ref q, .int (nI c)] ∧ zq q ∧ SR S q lf ∧ Q (some (.int (nI (ltr lf c 15)))) S
set_option maxHeartbeats 4000000 in
set_option maxRecDepth 100000 in
theorem tX5_lettersFor : zM yX5_lettersFor cX5_lettersFor 4 (some .int) 2 spX5_lettersFor := by
  refine zM.of (by decide) (by decide) (fun av S Q h => by obtain ⟨q, c, lf, rfl, hq, hS, hQ⟩ := h; exact Nat.le_of_ble_eq_true rfl) (fun C τ ι av S Q Qr h hr hC hE => ?_)
  obtain ⟨q, c, lf, rfl, hq, hS, hQ⟩ := h
  rcases hq with rfl | rfl
  · show zR C τ ι _ 0 0 0 [(0, .ref 2), (1, .int (nI c))] [] _
    refine zk_iconst hC dX5_lettersFor_0 (v := nI 0) (by decide +kernel) ?_
    refine zr_istore_n hC dX5_lettersFor_1 (by decide) ?_
    refine zk_iconst hC dX5_lettersFor_2 (v := nI 1) (by decide +kernel) ?_
    refine zr_istore_n hC dX5_lettersFor_3 (by decide) ?_
    refine zR_sub [(0, .ref 2), (1, .int (nI c)), (2, .int (nI (ltr lf c 0))), (3, .int (nI (0 + 1)))] ⟨rfl, rfl, rfl, rfl, trivial⟩ ?_
    refine l5_letters_2 hC hS (fun lv hlv => ?_) 15 0 (by decide)
    refine zr_iload_n hC dX5_lettersFor_60 hlv ?_
    exact zr_ireturn hC hE dX5_lettersFor_61 (hr _ _ hQ)
  · show zR C τ ι _ 0 0 0 [(0, .ref 232), (1, .int (nI c))] [] _
    refine zk_iconst hC dX5_lettersFor_0 (v := nI 0) (by decide +kernel) ?_
    refine zr_istore_n hC dX5_lettersFor_1 (by decide) ?_
    refine zk_iconst hC dX5_lettersFor_2 (v := nI 1) (by decide +kernel) ?_
    refine zr_istore_n hC dX5_lettersFor_3 (by decide) ?_
    refine zR_sub [(0, .ref 232), (1, .int (nI c)), (2, .int (nI (ltr lf c 0))), (3, .int (nI (0 + 1)))] ⟨rfl, rfl, rfl, rfl, trivial⟩ ?_
    refine l5_letters_232 hC hS (fun lv hlv => ?_) 15 0 (by decide)
    refine zr_iload_n hC dX5_lettersFor_60 hlv ?_
    exact zr_ireturn hC hE dX5_lettersFor_61 (hr _ _ hQ)
