theorem z_eq0 {a : Nat} (h : a < 4294967296) : nI a = 0 ↔ a = 0 := by
  constructor
  · intro e
    have := congrArg (fun x : Int32 => x.toBitVec.toNat) e
    simpa [pk_tn h] using this
  · rintro rfl; rfl
theorem dmn_or {P : Nat → Bool} {n m : Nat} (hm : m < n) : dmn P n ||| 2 ^ m = dmn (fun j => P j || j == m) n := by
  apply Nat.eq_of_testBit_eq
  intro i
  rw [Nat.testBit_or, dmn_bit, dmn_bit, Nat.testBit_two_pow]
  by_cases hi : m = i
  · subst hi; simp [hm]
  · have : (i == m) = false := by simp; omega
    simp [hi, this]
theorem dmn_an {P : Nat → Bool} {n m : Nat} (hn : n ≤ 32) : zan (dmn P n) (2 ^ m) = dmn (fun j => P j && !(j == m)) n := by
  apply Nat.eq_of_testBit_eq
  intro i
  by_cases hi : i < 32
  · rw [zan_bit hi, dmn_bit, dmn_bit, Bool.and_assoc, Nat.testBit_two_pow]
    by_cases h : m = i
    · subst h; simp
    · have : (i == m) = false := by simp; omega
      simp [h, this]
  · rw [dmn_bit, z_small (zan_lt (n := n) (dmn_lt P n)) (by omega)]
    simp; omega
theorem dmn_lt32 {P : Nat → Bool} {n : Nat} (hn : n ≤ 32) : dmn P n < 4294967296 := Nat.lt_of_lt_of_le (dmn_lt P n) (Nat.pow_le_pow_right (n := 2) (by decide) hn)
theorem dmn_zero {P : Nat → Bool} {n : Nat} : dmn P n = 0 ↔ ∀ m, m < n → P m = false := by
  constructor
  · intro h m hm
    have := dmn_bit P n m
    rw [h] at this
    simpa [hm] using this.symm
  · intro h
    apply Nat.eq_of_testBit_eq
    intro i
    rw [dmn_bit, Nat.zero_testBit]
    by_cases hi : i < n
    · simp [h i hi]
    · simp [hi]
/-- Seats at q tell that member m sits at lf m (0: nowhere) -/
def SR (S : zS) (q : Nat) (lf : Nat → Nat) : Prop := (∀ m, m < 16 → S.1 (q + 1) m = nI (lf m)) ∧ (∀ v, 1 ≤ v → v < 32 → S.1 (q + 2) v = nI (sm lf v)) ∧ ∀ m, m < 16 → lf m < 32
theorem sm_lt (lf : Nat → Nat) (v : Nat) : sm lf v < 65536 := dm_lt _
theorem sm_sit {lf : Nat → Nat} {m l v : Nat} (hm : m < 16) (h0 : lf m = 0) : (if bn l v = true then sm lf v ||| 2 ^ m else sm lf v) = sm (fup lf m l) v := by
  by_cases h : bn l v = true
  · rw [if_pos h, dm_or hm]
    refine dm_ext fun j hj => ?_
    by_cases hjm : j = m
    · subst hjm; simp [fup_at, h]
    · rw [fup_ne _ _ hjm]; simp [hjm]
  · rw [if_neg h]
    refine dm_ext fun j hj => ?_
    by_cases hjm : j = m
    · subst hjm
      rw [fup_at, h0, show bn 0 v = false from bnf_0 5 v]
      simpa using h
    · rw [fup_ne _ _ hjm]
theorem sm_stand {lf : Nat → Nat} {m v : Nat} (hm : m < 16) : (if bn (lf m) v = true then zan (sm lf v) (2 ^ m) else sm lf v) = sm (fup lf m 0) v := by
  by_cases h : bn (lf m) v = true
  · rw [if_pos h, dmn_an (by omega)]
    refine dm_ext fun j hj => ?_
    by_cases hjm : j = m
    · subst hjm; simp [fup_at, bnf_0]
    · rw [fup_ne _ _ hjm]; simp [hjm]
  · rw [if_neg h]
    refine dm_ext fun j hj => ?_
    by_cases hjm : j = m
    · subst hjm
      rw [fup_at, show bn 0 v = false from bnf_0 5 v]
      simpa using h
    · rw [fup_ne _ _ hjm]
theorem z_half {u : Nat} (hu : u < 2147483648) : nI u / nI 2 = nI (u / 2) := pk_div hu (by decide) (by decide)
set_option maxHeartbeats 4000000 in
set_option maxRecDepth 100000 in
theorem l5_pathFrom {C : zCx} {τ : Nat → ClassId} {ι : Nat → Nat} (hC : zOK C τ (zrm 0 0 0) yX5_pathFrom.cls cX5_pathFrom 3) (S : zS) : ∀ (n u acc : Nat), u < 2 ^ n → u < 32 → (∀ lv, zlk 1 lv = some (.int (nI (acc ||| pthn n u))) → zR C τ ι 3 0 0 22 lv [] (zcells S)) → zR C τ ι 3 0 0 4 [(1, .int (nI acc)), (2, .int (nI u))] [] (zcells S) := by
  intro n
  induction n with
  | zero =>
    intro u acc hu hu2 k
    have hu0 : u = 0 := by simpa using hu
    subst hu0
    simp only [pthn, Nat.or_zero] at k
    refine zr_iload_n hC dX5_pathFrom_4 rfl ?_
    refine zk_iconst hC dX5_pathFrom_5 (v := nI 1) (by decide +kernel) ?_
    refine zr_icmp_lt hC dX5_pathFrom_6 (tgt := 22) (by decide) (fun c_6 => ?_) (fun c => absurd c (not_not_intro (nI_lt (by omega) (by decide))))
    exact k _ rfl
  | succ n ih =>
    intro u acc hu hu2 k
    refine zr_iload_n hC dX5_pathFrom_4 rfl ?_
    refine zk_iconst hC dX5_pathFrom_5 (v := nI 1) (by decide +kernel) ?_
    refine zr_icmp_lt hC dX5_pathFrom_6 (tgt := 22) (by decide) (fun c_6 => ?_) (fun c_6 => ?_)
    · have hu0 : u = 0 := by rw [nI_ltI (by omega) (by decide)] at c_6; omega
      subst hu0
      simp only [pthn, if_true, Nat.or_zero] at k
      exact k _ rfl
    · rw [z_nlt (by omega) (by decide)] at c_6
      refine zr_iload_n hC dX5_pathFrom_9 rfl ?_
      refine zk_iconst hC dX5_pathFrom_10 (v := nI 1) (by decide +kernel) ?_
      refine zr_iload_n hC dX5_pathFrom_11 rfl ?_
      refine zn_ishl hC dX5_pathFrom_12 (z_shl1 u hu2) ?_
      refine zn_ior hC dX5_pathFrom_13 (fa_or _ _) ?_
      refine zr_istore_n hC dX5_pathFrom_14 (by decide) ?_
      refine zr_iload_n hC dX5_pathFrom_15 rfl ?_
      refine zk_iconst hC dX5_pathFrom_16 (v := nI 2) (by decide +kernel) ?_
      refine zn_idiv hC dX5_pathFrom_17 (by decide +kernel) (z_half (by omega)) ?_
      refine zr_istore_n hC dX5_pathFrom_18 (by decide) ?_
      refine zr_goto hC dX5_pathFrom_19 (tgt := 4) (by decide) ?_
      refine zR_sub [(1, .int (nI (acc ||| 2 ^ u))), (2, .int (nI (u / 2)))] ⟨rfl, rfl, trivial⟩ ?_
      refine ih (u / 2) (acc ||| 2 ^ u) (by rw [Nat.pow_succ] at hu; omega) (by omega) (fun lv hlv => k lv ?_)
      rw [hlv, pthn, if_neg (by omega), Nat.or_assoc]
def spX5_pathFrom : zSp := fun av S Q => ∃ u : Nat, av = [.int (nI u)] ∧ u < 32 ∧ Q (some (.int (nI (pth u)))) S
set_option maxHeartbeats 4000000 in
set_option maxRecDepth 100000 in
theorem tX5_pathFrom : zM yX5_pathFrom cX5_pathFrom 3 (some .int) 0 spX5_pathFrom := by
  refine zM.of (by decide) (by decide) (fun av S Q h => by obtain ⟨u, rfl, hu, hQ⟩ := h; exact Nat.le_of_ble_eq_true rfl) (fun C τ ι av S Q Qr h hr hC hE => ?_)
  obtain ⟨u, rfl, hu, hQ⟩ := h
  show zR C τ ι _ 0 0 0 [(0, .int (nI u))] [] _
  refine zk_iconst hC dX5_pathFrom_0 (v := nI 0) (by decide +kernel) ?_
  refine zr_istore_n hC dX5_pathFrom_1 (by decide) ?_
  refine zr_iload_n hC dX5_pathFrom_2 rfl ?_
  refine zr_istore_n hC dX5_pathFrom_3 (by decide) ?_
  refine zR_sub [(1, .int (nI 0)), (2, .int (nI u))] ⟨rfl, rfl, trivial⟩ ?_
  refine l5_pathFrom hC S 5 u 0 (by omega) hu (fun lv hlv => ?_)
  rw [Nat.zero_or] at hlv
  refine zr_iload_n hC dX5_pathFrom_22 hlv ?_
  exact zr_ireturn hC hE dX5_pathFrom_23 (hr _ _ hQ)
set_option maxHeartbeats 4000000 in
set_option maxRecDepth 100000 in
theorem l5_sit_2 {C : zCx} {τ : Nat → ClassId} {ι : Nat → Nat} (hC : zOK C τ (zrm 0 0 0) yX5_sit.cls cX5_sit 4) {m : Nat} (hm : m < 16) : ∀ (n u : Nat) (S : zS), u < 2 ^ n → u < 32 → (∀ S' lv, (∀ a, a ≠ 4 → S'.1 a = S.1 a) → (∀ v, S'.1 4 v = if bnf n u v = true then S.1 4 v ||| nI (2 ^ m) else S.1 4 v) → S'.2 = S.2 → zlk 0 lv = some (.ref 2) → zlk 1 lv = some (.int (nI m)) → zR C τ ι 4 0 0 33 lv [] (zcells S')) → zR C τ ι 4 0 0 9 [(0, .ref 2), (1, .int (nI m)), (3, .int (nI u))] [] (zcells S) := by
  intro n
  induction n with
  | zero =>
    intro u S hu hu2 k
    have hu0 : u = 0 := by simpa using hu
    subst hu0
    refine zr_iload_n hC dX5_sit_9 rfl ?_
    refine zk_iconst hC dX5_sit_10 (v := nI 1) (by decide +kernel) ?_
    refine zr_icmp_lt hC dX5_sit_11 (tgt := 33) (by decide) (fun c_11 => ?_) (fun c => absurd c (not_not_intro (nI_lt (by omega) (by decide))))
    exact k S _ (fun _ _ => rfl) (fun v => by rw [bnf_0]; rfl) rfl rfl rfl
  | succ n ih =>
    intro u S hu hu2 k
    refine zr_iload_n hC dX5_sit_9 rfl ?_
    refine zk_iconst hC dX5_sit_10 (v := nI 1) (by decide +kernel) ?_
    refine zr_icmp_lt hC dX5_sit_11 (tgt := 33) (by decide) (fun c_11 => ?_) (fun c_11 => ?_)
    · have hu0 : u = 0 := by rw [nI_ltI (by omega) (by decide)] at c_11; omega
      subst hu0
      exact k S _ (fun _ _ => rfl) (fun v => by rw [bnf_0]; rfl) rfl rfl rfl
    · rw [z_nlt (by omega) (by decide)] at c_11
      refine zr_aload_n hC dX5_sit_14 rfl ?_
      refine zs_getr hC dX5_sit_15 fl_X5_15 (a := 2) (r := 4) rfl (by decide) ?_
      refine zr_iload_n hC dX5_sit_18 rfl ?_
      refine zr_dup2 hC dX5_sit_19 rfl rfl ?_
      refine zs_iald hC dX5_sit_20 (a := 4) (n := 32) rfl (by decide) (by decide) (j := _) rfl (by omega) ?_
      refine zk_iconst hC dX5_sit_21 (v := nI 1) (by decide +kernel) ?_
      refine zr_iload_n hC dX5_sit_22 rfl ?_
      refine zn_ishl hC dX5_sit_23 (z_shl1 m (by omega)) ?_
      refine zr_ior hC dX5_sit_24 ?_
      refine zs_iast hC dX5_sit_25 (a := 4) (n := 32) rfl (by decide) (by decide) (j := _) rfl (by omega) ?_
      refine zr_iload_n hC dX5_sit_26 rfl ?_
      refine zk_iconst hC dX5_sit_27 (v := nI 2) (by decide +kernel) ?_
      refine zn_idiv hC dX5_sit_28 (by decide +kernel) (z_half (by omega)) ?_
      refine zr_istore_n hC dX5_sit_29 (by decide) ?_
      refine zr_goto hC dX5_sit_30 (tgt := 9) (by decide) ?_
      refine zR_sub [(0, .ref 2), (1, .int (nI m)), (3, .int (nI (u / 2)))] ⟨rfl, rfl, rfl, trivial⟩ ?_
      refine ih (u / 2) _ (by rw [Nat.pow_succ] at hu; omega) (by omega) (fun S' lv h1 h2 h3 h4 h5 => k S' lv (fun a ha => (h1 a ha).trans (zput_ne _ _ ha)) (fun v => ?_) h3 h4 h5)
      rw [h2 v]
      by_cases hv : v = u
      · subst hv
        have hb : bnf n (v / 2) v = false := by
          cases hb : bnf n (v / 2) v with
          | false => rfl
          | true => have := bnf_le hb; omega
        rw [hb, if_neg (by decide), zput_at, if_pos (by simp [bnf]; omega)]
      · rw [zput_k _ _ hv]
        have hb : bnf (n + 1) u v = bnf n (u / 2) v := by
          simp only [bnf]
          rw [show (v == u) = false by simpa using hv, show (u == 0) = false by simp; omega]
          simp
        rw [hb]
set_option maxHeartbeats 4000000 in
set_option maxRecDepth 100000 in
theorem l5_sit_232 {C : zCx} {τ : Nat → ClassId} {ι : Nat → Nat} (hC : zOK C τ (zrm 0 0 0) yX5_sit.cls cX5_sit 4) {m : Nat} (hm : m < 16) : ∀ (n u : Nat) (S : zS), u < 2 ^ n → u < 32 → (∀ S' lv, (∀ a, a ≠ 234 → S'.1 a = S.1 a) → (∀ v, S'.1 234 v = if bnf n u v = true then S.1 234 v ||| nI (2 ^ m) else S.1 234 v) → S'.2 = S.2 → zlk 0 lv = some (.ref 232) → zlk 1 lv = some (.int (nI m)) → zR C τ ι 4 0 0 33 lv [] (zcells S')) → zR C τ ι 4 0 0 9 [(0, .ref 232), (1, .int (nI m)), (3, .int (nI u))] [] (zcells S) := by
  intro n
  induction n with
  | zero =>
    intro u S hu hu2 k
    have hu0 : u = 0 := by simpa using hu
    subst hu0
    refine zr_iload_n hC dX5_sit_9 rfl ?_
    refine zk_iconst hC dX5_sit_10 (v := nI 1) (by decide +kernel) ?_
    refine zr_icmp_lt hC dX5_sit_11 (tgt := 33) (by decide) (fun c_11 => ?_) (fun c => absurd c (not_not_intro (nI_lt (by omega) (by decide))))
    exact k S _ (fun _ _ => rfl) (fun v => by rw [bnf_0]; rfl) rfl rfl rfl
  | succ n ih =>
    intro u S hu hu2 k
    refine zr_iload_n hC dX5_sit_9 rfl ?_
    refine zk_iconst hC dX5_sit_10 (v := nI 1) (by decide +kernel) ?_
    refine zr_icmp_lt hC dX5_sit_11 (tgt := 33) (by decide) (fun c_11 => ?_) (fun c_11 => ?_)
    · have hu0 : u = 0 := by rw [nI_ltI (by omega) (by decide)] at c_11; omega
      subst hu0
      exact k S _ (fun _ _ => rfl) (fun v => by rw [bnf_0]; rfl) rfl rfl rfl
    · rw [z_nlt (by omega) (by decide)] at c_11
      refine zr_aload_n hC dX5_sit_14 rfl ?_
      refine zs_getr hC dX5_sit_15 fl_X5_15 (a := 232) (r := 234) rfl (by decide) ?_
      refine zr_iload_n hC dX5_sit_18 rfl ?_
      refine zr_dup2 hC dX5_sit_19 rfl rfl ?_
      refine zs_iald hC dX5_sit_20 (a := 234) (n := 32) rfl (by decide) (by decide) (j := _) rfl (by omega) ?_
      refine zk_iconst hC dX5_sit_21 (v := nI 1) (by decide +kernel) ?_
      refine zr_iload_n hC dX5_sit_22 rfl ?_
      refine zn_ishl hC dX5_sit_23 (z_shl1 m (by omega)) ?_
      refine zr_ior hC dX5_sit_24 ?_
      refine zs_iast hC dX5_sit_25 (a := 234) (n := 32) rfl (by decide) (by decide) (j := _) rfl (by omega) ?_
      refine zr_iload_n hC dX5_sit_26 rfl ?_
      refine zk_iconst hC dX5_sit_27 (v := nI 2) (by decide +kernel) ?_
      refine zn_idiv hC dX5_sit_28 (by decide +kernel) (z_half (by omega)) ?_
      refine zr_istore_n hC dX5_sit_29 (by decide) ?_
      refine zr_goto hC dX5_sit_30 (tgt := 9) (by decide) ?_
      refine zR_sub [(0, .ref 232), (1, .int (nI m)), (3, .int (nI (u / 2)))] ⟨rfl, rfl, rfl, trivial⟩ ?_
      refine ih (u / 2) _ (by rw [Nat.pow_succ] at hu; omega) (by omega) (fun S' lv h1 h2 h3 h4 h5 => k S' lv (fun a ha => (h1 a ha).trans (zput_ne _ _ ha)) (fun v => ?_) h3 h4 h5)
      rw [h2 v]
      by_cases hv : v = u
      · subst hv
        have hb : bnf n (v / 2) v = false := by
          cases hb : bnf n (v / 2) v with
          | false => rfl
          | true => have := bnf_le hb; omega
        rw [hb, if_neg (by decide), zput_at, if_pos (by simp [bnf]; omega)]
      · rw [zput_k _ _ hv]
        have hb : bnf (n + 1) u v = bnf n (u / 2) v := by
          simp only [bnf]
          rw [show (v == u) = false by simpa using hv, show (u == 0) = false by simp; omega]
          simp
        rw [hb]
set_option maxHeartbeats 4000000 in
set_option maxRecDepth 100000 in
theorem l5_stand_2 {C : zCx} {τ : Nat → ClassId} {ι : Nat → Nat} (hC : zOK C τ (zrm 0 0 0) yX5_stand.cls cX5_stand 3) {m : Nat} (hm : m < 16) : ∀ (n u : Nat) (S : zS), u < 2 ^ n → u < 32 → (∀ S' lv, (∀ a, a ≠ 4 → S'.1 a = S.1 a) → (∀ v, S'.1 4 v = if bnf n u v = true then S.1 4 v &&& (nI (2 ^ m) ^^^ (-1)) else S.1 4 v) → S'.2 = S.2 → zlk 0 lv = some (.ref 2) → zlk 1 lv = some (.int (nI m)) → zR C τ ι 3 0 0 33 lv [] (zcells S')) → zR C τ ι 3 0 0 7 [(0, .ref 2), (1, .int (nI m)), (2, .int (nI u))] [] (zcells S) := by
  intro n
  induction n with
  | zero =>
    intro u S hu hu2 k
    have hu0 : u = 0 := by simpa using hu
    subst hu0
    refine zr_iload_n hC dX5_stand_7 rfl ?_
    refine zk_iconst hC dX5_stand_8 (v := nI 1) (by decide +kernel) ?_
    refine zr_icmp_lt hC dX5_stand_9 (tgt := 33) (by decide) (fun c_9 => ?_) (fun c => absurd c (not_not_intro (nI_lt (by omega) (by decide))))
    exact k S _ (fun _ _ => rfl) (fun v => by rw [bnf_0]; rfl) rfl rfl rfl
  | succ n ih =>
    intro u S hu hu2 k
    refine zr_iload_n hC dX5_stand_7 rfl ?_
    refine zk_iconst hC dX5_stand_8 (v := nI 1) (by decide +kernel) ?_
    refine zr_icmp_lt hC dX5_stand_9 (tgt := 33) (by decide) (fun c_9 => ?_) (fun c_9 => ?_)
    · have hu0 : u = 0 := by rw [nI_ltI (by omega) (by decide)] at c_9; omega
      subst hu0
      exact k S _ (fun _ _ => rfl) (fun v => by rw [bnf_0]; rfl) rfl rfl rfl
    · rw [z_nlt (by omega) (by decide)] at c_9
      refine zr_aload_n hC dX5_stand_12 rfl ?_
      refine zs_getr hC dX5_stand_13 fl_X5_15 (a := 2) (r := 4) rfl (by decide) ?_
      refine zr_iload_n hC dX5_stand_16 rfl ?_
      refine zr_dup2 hC dX5_stand_17 rfl rfl ?_
      refine zs_iald hC dX5_stand_18 (a := 4) (n := 32) rfl (by decide) (by decide) (j := _) rfl (by omega) ?_
      refine zk_iconst hC dX5_stand_19 (v := nI 1) (by decide +kernel) ?_
      refine zr_iload_n hC dX5_stand_20 rfl ?_
      refine zn_ishl hC dX5_stand_21 (z_shl1 m (by omega)) ?_
      refine zk_iconst hC dX5_stand_22 (v := (-1)) (by decide +kernel) ?_
      refine zr_ixor hC dX5_stand_23 ?_
      refine zr_iand hC dX5_stand_24 ?_
      refine zs_iast hC dX5_stand_25 (a := 4) (n := 32) rfl (by decide) (by decide) (j := _) rfl (by omega) ?_
      refine zr_iload_n hC dX5_stand_26 rfl ?_
      refine zk_iconst hC dX5_stand_27 (v := nI 2) (by decide +kernel) ?_
      refine zn_idiv hC dX5_stand_28 (by decide +kernel) (z_half (by omega)) ?_
      refine zr_istore_n hC dX5_stand_29 (by decide) ?_
      refine zr_goto hC dX5_stand_30 (tgt := 7) (by decide) ?_
      refine zR_sub [(0, .ref 2), (1, .int (nI m)), (2, .int (nI (u / 2)))] ⟨rfl, rfl, rfl, trivial⟩ ?_
      refine ih (u / 2) _ (by rw [Nat.pow_succ] at hu; omega) (by omega) (fun S' lv h1 h2 h3 h4 h5 => k S' lv (fun a ha => (h1 a ha).trans (zput_ne _ _ ha)) (fun v => ?_) h3 h4 h5)
      rw [h2 v]
      by_cases hv : v = u
      · subst hv
        have hb : bnf n (v / 2) v = false := by
          cases hb : bnf n (v / 2) v with
          | false => rfl
          | true => have := bnf_le hb; omega
        rw [hb, if_neg (by decide), zput_at, if_pos (by simp [bnf]; omega)]
      · rw [zput_k _ _ hv]
        have hb : bnf (n + 1) u v = bnf n (u / 2) v := by
          simp only [bnf]
          rw [show (v == u) = false by simpa using hv, show (u == 0) = false by simp; omega]
          simp
        rw [hb]
set_option maxHeartbeats 4000000 in
set_option maxRecDepth 100000 in
theorem l5_stand_232 {C : zCx} {τ : Nat → ClassId} {ι : Nat → Nat} (hC : zOK C τ (zrm 0 0 0) yX5_stand.cls cX5_stand 3) {m : Nat} (hm : m < 16) : ∀ (n u : Nat) (S : zS), u < 2 ^ n → u < 32 → (∀ S' lv, (∀ a, a ≠ 234 → S'.1 a = S.1 a) → (∀ v, S'.1 234 v = if bnf n u v = true then S.1 234 v &&& (nI (2 ^ m) ^^^ (-1)) else S.1 234 v) → S'.2 = S.2 → zlk 0 lv = some (.ref 232) → zlk 1 lv = some (.int (nI m)) → zR C τ ι 3 0 0 33 lv [] (zcells S')) → zR C τ ι 3 0 0 7 [(0, .ref 232), (1, .int (nI m)), (2, .int (nI u))] [] (zcells S) := by
  intro n
  induction n with
  | zero =>
    intro u S hu hu2 k
    have hu0 : u = 0 := by simpa using hu
    subst hu0
    refine zr_iload_n hC dX5_stand_7 rfl ?_
    refine zk_iconst hC dX5_stand_8 (v := nI 1) (by decide +kernel) ?_
    refine zr_icmp_lt hC dX5_stand_9 (tgt := 33) (by decide) (fun c_9 => ?_) (fun c => absurd c (not_not_intro (nI_lt (by omega) (by decide))))
    exact k S _ (fun _ _ => rfl) (fun v => by rw [bnf_0]; rfl) rfl rfl rfl
  | succ n ih =>
    intro u S hu hu2 k
    refine zr_iload_n hC dX5_stand_7 rfl ?_
    refine zk_iconst hC dX5_stand_8 (v := nI 1) (by decide +kernel) ?_
    refine zr_icmp_lt hC dX5_stand_9 (tgt := 33) (by decide) (fun c_9 => ?_) (fun c_9 => ?_)
    · have hu0 : u = 0 := by rw [nI_ltI (by omega) (by decide)] at c_9; omega
      subst hu0
      exact k S _ (fun _ _ => rfl) (fun v => by rw [bnf_0]; rfl) rfl rfl rfl
    · rw [z_nlt (by omega) (by decide)] at c_9
      refine zr_aload_n hC dX5_stand_12 rfl ?_
      refine zs_getr hC dX5_stand_13 fl_X5_15 (a := 232) (r := 234) rfl (by decide) ?_
      refine zr_iload_n hC dX5_stand_16 rfl ?_
      refine zr_dup2 hC dX5_stand_17 rfl rfl ?_
      refine zs_iald hC dX5_stand_18 (a := 234) (n := 32) rfl (by decide) (by decide) (j := _) rfl (by omega) ?_
      refine zk_iconst hC dX5_stand_19 (v := nI 1) (by decide +kernel) ?_
      refine zr_iload_n hC dX5_stand_20 rfl ?_
      refine zn_ishl hC dX5_stand_21 (z_shl1 m (by omega)) ?_
      refine zk_iconst hC dX5_stand_22 (v := (-1)) (by decide +kernel) ?_
      refine zr_ixor hC dX5_stand_23 ?_
      refine zr_iand hC dX5_stand_24 ?_
      refine zs_iast hC dX5_stand_25 (a := 234) (n := 32) rfl (by decide) (by decide) (j := _) rfl (by omega) ?_
      refine zr_iload_n hC dX5_stand_26 rfl ?_
      refine zk_iconst hC dX5_stand_27 (v := nI 2) (by decide +kernel) ?_
      refine zn_idiv hC dX5_stand_28 (by decide +kernel) (z_half (by omega)) ?_
      refine zr_istore_n hC dX5_stand_29 (by decide) ?_
      refine zr_goto hC dX5_stand_30 (tgt := 7) (by decide) ?_
      refine zR_sub [(0, .ref 232), (1, .int (nI m)), (2, .int (nI (u / 2)))] ⟨rfl, rfl, rfl, trivial⟩ ?_
      refine ih (u / 2) _ (by rw [Nat.pow_succ] at hu; omega) (by omega) (fun S' lv h1 h2 h3 h4 h5 => k S' lv (fun a ha => (h1 a ha).trans (zput_ne _ _ ha)) (fun v => ?_) h3 h4 h5)
      rw [h2 v]
      by_cases hv : v = u
      · subst hv
        have hb : bnf n (v / 2) v = false := by
          cases hb : bnf n (v / 2) v with
          | false => rfl
          | true => have := bnf_le hb; omega
        rw [hb, if_neg (by decide), zput_at, if_pos (by simp [bnf]; omega)]
      · rw [zput_k _ _ hv]
        have hb : bnf (n + 1) u v = bnf n (u / 2) v := by
          simp only [bnf]
          rw [show (v == u) = false by simpa using hv, show (u == 0) = false by simp; omega]
          simp
        rw [hb]
def spX5_sit : zSp := fun av S Q => ∃ (q m l : Nat) (lf : Nat → Nat), av = [.ref q, .int (nI m), .int (nI l)] ∧ zq q ∧ m < 16 ∧ l < 32 ∧ SR S q lf ∧ lf m = 0 ∧ ∀ S', SR S' q (fup lf m l) → zfrm (q + 1) (q + 3) S S' → Q none S'
set_option maxHeartbeats 4000000 in
set_option maxRecDepth 100000 in
theorem tX5_sit : zM yX5_sit cX5_sit 4 none 0 spX5_sit := by
  refine zM.of (by decide) (by decide) (fun av S Q h => by obtain ⟨q, m, l, lf, rfl, hq, hm, hl, hS, h0, hQ⟩ := h; exact Nat.le_of_ble_eq_true rfl) (fun C τ ι av S Q Qr h hr hC hE => ?_)
  obtain ⟨q, m, l, lf, rfl, hq, hm, hl, hS, h0, hQ⟩ := h
  rcases hq with rfl | rfl
  · show zR C τ ι _ 0 0 0 [(0, .ref 2), (1, .int (nI m)), (2, .int (nI l))] [] _
    refine zr_aload_n hC dX5_sit_0 rfl ?_
    refine zs_getr hC dX5_sit_1 fl_X5_9 (a := 2) (r := 3) rfl (by decide) ?_
    refine zr_iload_n hC dX5_sit_4 rfl ?_
    refine zr_iload_n hC dX5_sit_5 rfl ?_
    refine zs_iast hC dX5_sit_6 (a := 3) (n := 16) rfl (by decide) (by decide) (j := _) rfl (by omega) ?_
    refine zr_iload_n hC dX5_sit_7 rfl ?_
    refine zr_istore_n hC dX5_sit_8 (by decide) ?_
    refine zR_sub [(0, .ref 2), (1, .int (nI m)), (3, .int (nI l))] ⟨rfl, rfl, rfl, trivial⟩ ?_
    refine l5_sit_2 hC hm 5 l _ (by omega) hl (fun S' lv h1 h2 h3 h4 h5 => zr_vreturn hC hE dX5_sit_33 (hr _ _ (hQ _ ⟨fun j hj => ?_, fun v hv hv2 => ?_, fun j hj => ?_⟩ ⟨fun a ha => ?_, h3⟩)))
    · rw [h1 _ (by decide)]
      by_cases hj2 : j = m
      · subst hj2; rw [zput_at, fup_at]
      · rw [zput_k _ _ hj2, fup_ne _ _ hj2]; exact hS.1 j hj
    · rw [h2 v, zput_ne _ _ (by decide), hS.2.1 v hv hv2, fa_or, ← sm_sit hm h0]
      split <;> rfl
    · by_cases hj2 : j = m
      · subst hj2; rw [fup_at]; exact hl
      · rw [fup_ne _ _ hj2]; exact hS.2.2 j hj
    · rw [h1 a (by omega), zput_ne _ _ (by omega)]
  · show zR C τ ι _ 0 0 0 [(0, .ref 232), (1, .int (nI m)), (2, .int (nI l))] [] _
    refine zr_aload_n hC dX5_sit_0 rfl ?_
    refine zs_getr hC dX5_sit_1 fl_X5_9 (a := 232) (r := 233) rfl (by decide) ?_
    refine zr_iload_n hC dX5_sit_4 rfl ?_
    refine zr_iload_n hC dX5_sit_5 rfl ?_
    refine zs_iast hC dX5_sit_6 (a := 233) (n := 16) rfl (by decide) (by decide) (j := _) rfl (by omega) ?_
    refine zr_iload_n hC dX5_sit_7 rfl ?_
    refine zr_istore_n hC dX5_sit_8 (by decide) ?_
    refine zR_sub [(0, .ref 232), (1, .int (nI m)), (3, .int (nI l))] ⟨rfl, rfl, rfl, trivial⟩ ?_
    refine l5_sit_232 hC hm 5 l _ (by omega) hl (fun S' lv h1 h2 h3 h4 h5 => zr_vreturn hC hE dX5_sit_33 (hr _ _ (hQ _ ⟨fun j hj => ?_, fun v hv hv2 => ?_, fun j hj => ?_⟩ ⟨fun a ha => ?_, h3⟩)))
    · rw [h1 _ (by decide)]
      by_cases hj2 : j = m
      · subst hj2; rw [zput_at, fup_at]
      · rw [zput_k _ _ hj2, fup_ne _ _ hj2]; exact hS.1 j hj
    · rw [h2 v, zput_ne _ _ (by decide), hS.2.1 v hv hv2, fa_or, ← sm_sit hm h0]
      split <;> rfl
    · by_cases hj2 : j = m
      · subst hj2; rw [fup_at]; exact hl
      · rw [fup_ne _ _ hj2]; exact hS.2.2 j hj
    · rw [h1 a (by omega), zput_ne _ _ (by omega)]
def spX5_stand : zSp := fun av S Q => ∃ (q m : Nat) (lf : Nat → Nat), av = [.ref q, .int (nI m)] ∧ zq q ∧ m < 16 ∧ SR S q lf ∧ ∀ S', SR S' q (fup lf m 0) → zfrm (q + 1) (q + 3) S S' → Q none S'
set_option maxHeartbeats 4000000 in
set_option maxRecDepth 100000 in
theorem tX5_stand : zM yX5_stand cX5_stand 3 none 0 spX5_stand := by
  refine zM.of (by decide) (by decide) (fun av S Q h => by obtain ⟨q, m, lf, rfl, hq, hm, hS, hQ⟩ := h; exact Nat.le_of_ble_eq_true rfl) (fun C τ ι av S Q Qr h hr hC hE => ?_)
  obtain ⟨q, m, lf, rfl, hq, hm, hS, hQ⟩ := h
  rcases hq with rfl | rfl
  · show zR C τ ι _ 0 0 0 [(0, .ref 2), (1, .int (nI m))] [] _
    refine zr_aload_n hC dX5_stand_0 rfl ?_
    refine zs_getr hC dX5_stand_1 fl_X5_9 (a := 2) (r := 3) rfl (by decide) ?_
    refine zr_iload_n hC dX5_stand_4 rfl ?_
    refine zs_iald hC dX5_stand_5 (a := 3) (n := 16) rfl (by decide) (by decide) (j := _) rfl (by omega) ?_
    rw [hS.1 m hm]
    refine zr_istore_n hC dX5_stand_6 (by decide) ?_
    refine zR_sub [(0, .ref 2), (1, .int (nI m)), (2, .int (nI (lf m)))] ⟨rfl, rfl, rfl, trivial⟩ ?_
    refine l5_stand_2 hC hm 5 (lf m) _ (hS.2.2 m hm) (hS.2.2 m hm) (fun S' lv h1 h2 h3 h4 h5 => ?_)
    refine zr_aload_n hC dX5_stand_33 h4 ?_
    refine zs_getr hC dX5_stand_34 fl_X5_9 (a := 2) (r := 3) rfl (by decide) ?_
    refine zr_iload_n hC dX5_stand_37 h5 ?_
    refine zk_iconst hC dX5_stand_38 (v := nI 0) (by decide +kernel) ?_
    refine zs_iast hC dX5_stand_39 (a := 3) (n := 16) rfl (by decide) (by decide) (j := m) rfl hm ?_
    refine zr_vreturn hC hE dX5_stand_40 (hr _ _ (hQ _ ⟨fun j hj => ?_, fun v hv hv2 => ?_, fun j hj => ?_⟩ ⟨fun a ha => ?_, h3⟩))
    · by_cases hj2 : j = m
      · subst hj2; rw [zput_at, fup_at]
      · rw [zput_k _ _ hj2, fup_ne _ _ hj2, h1 _ (by decide)]; exact hS.1 j hj
    · rw [zput_ne _ _ (by decide), h2 v, hS.2.1 v hv hv2, z_andn, ← sm_stand hm]
      split <;> rfl
    · by_cases hj2 : j = m
      · subst hj2; rw [fup_at]; decide
      · rw [fup_ne _ _ hj2]; exact hS.2.2 j hj
    · rw [zput_ne _ _ (by omega), h1 a (by omega)]
  · show zR C τ ι _ 0 0 0 [(0, .ref 232), (1, .int (nI m))] [] _
    refine zr_aload_n hC dX5_stand_0 rfl ?_
    refine zs_getr hC dX5_stand_1 fl_X5_9 (a := 232) (r := 233) rfl (by decide) ?_
    refine zr_iload_n hC dX5_stand_4 rfl ?_
    refine zs_iald hC dX5_stand_5 (a := 233) (n := 16) rfl (by decide) (by decide) (j := _) rfl (by omega) ?_
    rw [hS.1 m hm]
    refine zr_istore_n hC dX5_stand_6 (by decide) ?_
    refine zR_sub [(0, .ref 232), (1, .int (nI m)), (2, .int (nI (lf m)))] ⟨rfl, rfl, rfl, trivial⟩ ?_
    refine l5_stand_232 hC hm 5 (lf m) _ (hS.2.2 m hm) (hS.2.2 m hm) (fun S' lv h1 h2 h3 h4 h5 => ?_)
    refine zr_aload_n hC dX5_stand_33 h4 ?_
    refine zs_getr hC dX5_stand_34 fl_X5_9 (a := 232) (r := 233) rfl (by decide) ?_
    refine zr_iload_n hC dX5_stand_37 h5 ?_
    refine zk_iconst hC dX5_stand_38 (v := nI 0) (by decide +kernel) ?_
    refine zs_iast hC dX5_stand_39 (a := 233) (n := 16) rfl (by decide) (by decide) (j := m) rfl hm ?_
    refine zr_vreturn hC hE dX5_stand_40 (hr _ _ (hQ _ ⟨fun j hj => ?_, fun v hv hv2 => ?_, fun j hj => ?_⟩ ⟨fun a ha => ?_, h3⟩))
    · by_cases hj2 : j = m
      · subst hj2; rw [zput_at, fup_at]
      · rw [zput_k _ _ hj2, fup_ne _ _ hj2, h1 _ (by decide)]; exact hS.1 j hj
    · rw [zput_ne _ _ (by decide), h2 v, hS.2.1 v hv hv2, z_andn, ← sm_stand hm]
      split <;> rfl
    · by_cases hj2 : j = m
      · subst hj2; rw [fup_at]; decide
      · rw [fup_ne _ _ hj2]; exact hS.2.2 j hj
    · rw [zput_ne _ _ (by omega), h1 a (by omega)]
