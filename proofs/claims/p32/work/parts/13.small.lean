/-- a truth as an int -/
def zb (b : Bool) : Int32 := if b then nI 1 else nI 0
theorem zb_01 (b : Bool) : zb b = 0 ∨ zb b = 1 := by cases b <;> simp [zb] <;> decide
theorem bt_1 (x : Int32) (b : Nat) (hb : b < 32) : (x.toUInt32 >>> ((nI b).toUInt32 &&& Int32.toUInt32 31)).toInt32 &&& nI 1 = zb (bt x b) := by
  apply b_ext
  intro i hi
  rw [b_and, b_ushr b hb]
  have h1 : ∀ i, i < 32 → bt (nI 1) i = decide (i = 0) := by decide +kernel
  have h0 : ∀ i, i < 32 → bt (nI 0) i = false := by decide +kernel
  rw [h1 i hi]
  by_cases hz : i = 0
  · subst hz
    cases h : bt x b <;> simp [zb, h, h1, h0]
  · cases h : bt x b <;> simp [zb, hz, h1 i hi, h0 i hi]
def spX8_bit : zSp := fun av S Q => ∃ (x : Int32) (b : Nat), av = [.int x, .int (nI b)] ∧ b < 32 ∧ ∀ r, (r = nI 1 ∧ bt x b = true) ∨ (r = nI 0 ∧ bt x b = false) → Q (some (.int r)) S
set_option maxHeartbeats 4000000 in
set_option maxRecDepth 100000 in
theorem tX8_bit : zM yX8_bit cX8_bit 2 (some .int) 0 spX8_bit := by
  refine zM.of (by decide) (by decide) (fun av S Q h => by obtain ⟨x, b, rfl, hb, hQ⟩ := h; exact Nat.le_of_ble_eq_true rfl) (fun C τ ι av S Q Qr h hr hC hE => ?_)
  obtain ⟨x, b, rfl, hb, hQ⟩ := h
  show zR C τ ι _ 0 0 0 [(0, .int x), (1, .int (nI b))] [] _
  refine zr_iload_n hC dX8_bit_0 rfl ?_
  refine zr_iload_n hC dX8_bit_1 rfl ?_
  refine zr_iushr hC dX8_bit_2 ?_
  refine zk_iconst hC dX8_bit_3 (v := nI 1) (by decide +kernel) ?_
  refine zr_iand hC dX8_bit_4 ?_
  exact zr_ireturn hC hE dX8_bit_5 (hr _ _ (by rw [bt_1 x b hb]; exact hQ _ (by cases h : bt x b <;> simp [zb])))
def spX8_has : zSp := fun av S Q => ∃ (x : Int32) (b : Nat), av = [.int x, .int (nI b)] ∧ b < 32 ∧ ∀ r, (r = nI 1 ∧ bt x b = true) ∨ (r = nI 0 ∧ bt x b = false) → Q (some (.int r)) S
set_option maxHeartbeats 4000000 in
set_option maxRecDepth 100000 in
theorem tX8_has : zM yX8_has cX8_has 2 (some .boolean) 1 spX8_has := by
  refine zM.of (by decide) (by decide) (fun av S Q h => by obtain ⟨x, b, rfl, hb, hQ⟩ := h; exact Nat.le_of_ble_eq_true rfl) (fun C τ ι av S Q Qr h hr hC hE => ?_)
  obtain ⟨x, b, rfl, hb, hQ⟩ := h
  show zR C τ ι _ 0 0 0 [(0, .int x), (1, .int (nI b))] [] _
  refine zr_iload_n hC dX8_has_0 rfl ?_
  refine zr_iload_n hC dX8_has_1 rfl ?_
  refine zs_callS hC [_, _] [] dX8_has_2 ml_X8_151 mtX8_bit tX8_bit (by decide) (by decide) (by decide) rfl (Nat.le_of_ble_eq_true rfl) rfl ?_
  refine ⟨x, b, rfl, hb, fun r e => ?_⟩
  rcases e with ⟨rfl, hx⟩ | ⟨rfl, hx⟩
  · dsimp only [Option.toList, List.cons_append, List.nil_append]
    refine zk_iconst hC dX8_has_5 (v := nI 1) (by decide +kernel) ?_
    refine zr_icmp_ne hC dX8_has_6 (tgt := 13) (by decide) (fun c => absurd c (by decide +kernel)) (fun c_6 => ?_)
    refine zk_iconst hC dX8_has_9 (v := nI 1) (by decide +kernel) ?_
    refine zr_goto hC dX8_has_10 (tgt := 14) (by decide) ?_
    exact zr_zreturn hC hE dX8_has_14 (by first | exact Or.inl rfl | exact Or.inr rfl) (hr _ _ (hQ _ (by first | exact Or.inl ⟨rfl, hx⟩ | exact Or.inr ⟨rfl, hx⟩)))
  · dsimp only [Option.toList, List.cons_append, List.nil_append]
    refine zk_iconst hC dX8_has_5 (v := nI 1) (by decide +kernel) ?_
    refine zr_icmp_ne hC dX8_has_6 (tgt := 13) (by decide) (fun c_6 => ?_) (fun c => absurd c (by decide +kernel))
    refine zk_iconst hC dX8_has_13 (v := nI 0) (by decide +kernel) ?_
    exact zr_zreturn hC hE dX8_has_14 (by first | exact Or.inl rfl | exact Or.inr rfl) (hr _ _ (hQ _ (by first | exact Or.inl ⟨rfl, hx⟩ | exact Or.inr ⟨rfl, hx⟩)))
def spX8_noMember : zSp := fun av S Q => ∃ (x : Int32), av = [.int x] ∧ ∀ r, (r = nI 1 ∧ (x < 0 ∨ nI 16 ≤ x)) ∨ (r = nI 0 ∧ ∃ j, j < 16 ∧ x = nI j) → Q (some (.int r)) S
set_option maxHeartbeats 4000000 in
set_option maxRecDepth 100000 in
theorem tX8_noMember : zM yX8_noMember cX8_noMember 1 (some .boolean) 0 spX8_noMember := by
  refine zM.of (by decide) (by decide) (fun av S Q h => by obtain ⟨x, rfl, hQ⟩ := h; exact Nat.le_of_ble_eq_true rfl) (fun C τ ι av S Q Qr h hr hC hE => ?_)
  obtain ⟨x, rfl, hQ⟩ := h
  show zR C τ ι _ 0 0 0 [(0, .int x)] [] _
  refine zr_iload_n hC dX8_noMember_0 rfl ?_
  refine zr_if_lt hC dX8_noMember_1 (tgt := 10) (by decide) (fun c_1 => ?_) (fun c_1 => ?_)
  · refine zk_iconst hC dX8_noMember_10 (v := nI 1) (by decide +kernel) ?_
    refine zr_goto hC dX8_noMember_11 (tgt := 15) (by decide) ?_
    exact zr_zreturn hC hE dX8_noMember_15 (by first | exact Or.inl rfl | exact Or.inr rfl) (hr _ _ (hQ _ (by first | exact Or.inl ⟨rfl, Or.inl (by assumption)⟩ | exact Or.inl ⟨rfl, Or.inr (Int32.not_lt.mp (by assumption))⟩ | exact Or.inr ⟨rfl, z_in (by assumption) (by assumption) (by decide)⟩)))
  · refine zr_iload_n hC dX8_noMember_4 rfl ?_
    refine zk_bipush hC dX8_noMember_5 (v := nI 16) (by decide +kernel) ?_
    refine zr_icmp_lt hC dX8_noMember_7 (tgt := 14) (by decide) (fun c_7 => ?_) (fun c_7 => ?_)
    · refine zk_iconst hC dX8_noMember_14 (v := nI 0) (by decide +kernel) ?_
      exact zr_zreturn hC hE dX8_noMember_15 (by first | exact Or.inl rfl | exact Or.inr rfl) (hr _ _ (hQ _ (by first | exact Or.inl ⟨rfl, Or.inl (by assumption)⟩ | exact Or.inl ⟨rfl, Or.inr (Int32.not_lt.mp (by assumption))⟩ | exact Or.inr ⟨rfl, z_in (by assumption) (by assumption) (by decide)⟩)))
    · refine zk_iconst hC dX8_noMember_10 (v := nI 1) (by decide +kernel) ?_
      refine zr_goto hC dX8_noMember_11 (tgt := 15) (by decide) ?_
      exact zr_zreturn hC hE dX8_noMember_15 (by first | exact Or.inl rfl | exact Or.inr rfl) (hr _ _ (hQ _ (by first | exact Or.inl ⟨rfl, Or.inl (by assumption)⟩ | exact Or.inl ⟨rfl, Or.inr (Int32.not_lt.mp (by assumption))⟩ | exact Or.inr ⟨rfl, z_in (by assumption) (by assumption) (by decide)⟩)))
def spX8_noSheet : zSp := fun av S Q => ∃ (x : Int32), av = [.int x] ∧ ∀ r, (r = nI 1 ∧ (x < 0 ∨ nI 4 ≤ x)) ∨ (r = nI 0 ∧ ∃ j, j < 4 ∧ x = nI j) → Q (some (.int r)) S
set_option maxHeartbeats 4000000 in
set_option maxRecDepth 100000 in
theorem tX8_noSheet : zM yX8_noSheet cX8_noSheet 1 (some .boolean) 0 spX8_noSheet := by
  refine zM.of (by decide) (by decide) (fun av S Q h => by obtain ⟨x, rfl, hQ⟩ := h; exact Nat.le_of_ble_eq_true rfl) (fun C τ ι av S Q Qr h hr hC hE => ?_)
  obtain ⟨x, rfl, hQ⟩ := h
  show zR C τ ι _ 0 0 0 [(0, .int x)] [] _
  refine zr_iload_n hC dX8_noSheet_0 rfl ?_
  refine zr_if_lt hC dX8_noSheet_1 (tgt := 9) (by decide) (fun c_1 => ?_) (fun c_1 => ?_)
  · refine zk_iconst hC dX8_noSheet_9 (v := nI 1) (by decide +kernel) ?_
    refine zr_goto hC dX8_noSheet_10 (tgt := 14) (by decide) ?_
    exact zr_zreturn hC hE dX8_noSheet_14 (by first | exact Or.inl rfl | exact Or.inr rfl) (hr _ _ (hQ _ (by first | exact Or.inl ⟨rfl, Or.inl (by assumption)⟩ | exact Or.inl ⟨rfl, Or.inr (Int32.not_lt.mp (by assumption))⟩ | exact Or.inr ⟨rfl, z_in (by assumption) (by assumption) (by decide)⟩)))
  · refine zr_iload_n hC dX8_noSheet_4 rfl ?_
    refine zk_iconst hC dX8_noSheet_5 (v := nI 4) (by decide +kernel) ?_
    refine zr_icmp_lt hC dX8_noSheet_6 (tgt := 13) (by decide) (fun c_6 => ?_) (fun c_6 => ?_)
    · refine zk_iconst hC dX8_noSheet_13 (v := nI 0) (by decide +kernel) ?_
      exact zr_zreturn hC hE dX8_noSheet_14 (by first | exact Or.inl rfl | exact Or.inr rfl) (hr _ _ (hQ _ (by first | exact Or.inl ⟨rfl, Or.inl (by assumption)⟩ | exact Or.inl ⟨rfl, Or.inr (Int32.not_lt.mp (by assumption))⟩ | exact Or.inr ⟨rfl, z_in (by assumption) (by assumption) (by decide)⟩)))
    · refine zk_iconst hC dX8_noSheet_9 (v := nI 1) (by decide +kernel) ?_
      refine zr_goto hC dX8_noSheet_10 (tgt := 14) (by decide) ?_
      exact zr_zreturn hC hE dX8_noSheet_14 (by first | exact Or.inl rfl | exact Or.inr rfl) (hr _ _ (hQ _ (by first | exact Or.inl ⟨rfl, Or.inl (by assumption)⟩ | exact Or.inl ⟨rfl, Or.inr (Int32.not_lt.mp (by assumption))⟩ | exact Or.inr ⟨rfl, z_in (by assumption) (by assumption) (by decide)⟩)))
def spX8_noLane : zSp := fun av S Q => ∃ (x : Int32), av = [.int x] ∧ ∀ r, (r = nI 1 ∧ (x < 0 ∨ nI 4 ≤ x)) ∨ (r = nI 0 ∧ ∃ j, j < 4 ∧ x = nI j) → Q (some (.int r)) S
set_option maxHeartbeats 4000000 in
set_option maxRecDepth 100000 in
theorem tX8_noLane : zM yX8_noLane cX8_noLane 1 (some .boolean) 0 spX8_noLane := by
  refine zM.of (by decide) (by decide) (fun av S Q h => by obtain ⟨x, rfl, hQ⟩ := h; exact Nat.le_of_ble_eq_true rfl) (fun C τ ι av S Q Qr h hr hC hE => ?_)
  obtain ⟨x, rfl, hQ⟩ := h
  show zR C τ ι _ 0 0 0 [(0, .int x)] [] _
  refine zr_iload_n hC dX8_noLane_0 rfl ?_
  refine zr_if_lt hC dX8_noLane_1 (tgt := 9) (by decide) (fun c_1 => ?_) (fun c_1 => ?_)
  · refine zk_iconst hC dX8_noLane_9 (v := nI 1) (by decide +kernel) ?_
    refine zr_goto hC dX8_noLane_10 (tgt := 14) (by decide) ?_
    exact zr_zreturn hC hE dX8_noLane_14 (by first | exact Or.inl rfl | exact Or.inr rfl) (hr _ _ (hQ _ (by first | exact Or.inl ⟨rfl, Or.inl (by assumption)⟩ | exact Or.inl ⟨rfl, Or.inr (Int32.not_lt.mp (by assumption))⟩ | exact Or.inr ⟨rfl, z_in (by assumption) (by assumption) (by decide)⟩)))
  · refine zr_iload_n hC dX8_noLane_4 rfl ?_
    refine zk_iconst hC dX8_noLane_5 (v := nI 4) (by decide +kernel) ?_
    refine zr_icmp_lt hC dX8_noLane_6 (tgt := 13) (by decide) (fun c_6 => ?_) (fun c_6 => ?_)
    · refine zk_iconst hC dX8_noLane_13 (v := nI 0) (by decide +kernel) ?_
      exact zr_zreturn hC hE dX8_noLane_14 (by first | exact Or.inl rfl | exact Or.inr rfl) (hr _ _ (hQ _ (by first | exact Or.inl ⟨rfl, Or.inl (by assumption)⟩ | exact Or.inl ⟨rfl, Or.inr (Int32.not_lt.mp (by assumption))⟩ | exact Or.inr ⟨rfl, z_in (by assumption) (by assumption) (by decide)⟩)))
    · refine zk_iconst hC dX8_noLane_9 (v := nI 1) (by decide +kernel) ?_
      refine zr_goto hC dX8_noLane_10 (tgt := 14) (by decide) ?_
      exact zr_zreturn hC hE dX8_noLane_14 (by first | exact Or.inl rfl | exact Or.inr rfl) (hr _ _ (hQ _ (by first | exact Or.inl ⟨rfl, Or.inl (by assumption)⟩ | exact Or.inl ⟨rfl, Or.inr (Int32.not_lt.mp (by assumption))⟩ | exact Or.inr ⟨rfl, z_in (by assumption) (by assumption) (by decide)⟩)))
/-- a place of a Seats object -/
abbrev zq (q : Nat) : Prop := q = 2 ∨ q = 232
def spX5_sits : zSp := fun av S Q => ∃ (q m : Nat), av = [.ref q, .int (nI m)] ∧ zq q ∧ m < 16 ∧ ∀ r, (r = nI 1 ∧ ¬ S.1 (q + 1) m = 0) ∨ (r = nI 0 ∧ S.1 (q + 1) m = 0) → Q (some (.int r)) S
set_option maxHeartbeats 4000000 in
set_option maxRecDepth 100000 in
theorem tX5_sits : zM yX5_sits cX5_sits 2 (some .boolean) 0 spX5_sits := by
  refine zM.of (by decide) (by decide) (fun av S Q h => by obtain ⟨q, m, rfl, hq, hm, hQ⟩ := h; exact Nat.le_of_ble_eq_true rfl) (fun C τ ι av S Q Qr h hr hC hE => ?_)
  obtain ⟨q, m, rfl, hq, hm, hQ⟩ := h
  rcases hq with rfl | rfl
  · show zR C τ ι _ 0 0 0 [(0, .ref 2), (1, .int (nI m))] [] _
    refine zr_aload_n hC dX5_sits_0 rfl ?_
    refine zs_getr hC dX5_sits_1 fl_X5_9 (a := 2) (r := 3) rfl (by decide) ?_
    refine zr_iload_n hC dX5_sits_4 rfl ?_
    refine zs_iald hC dX5_sits_5 (a := 3) (n := 16) rfl (by decide) (by decide) (j := _) rfl (by omega) ?_
    refine zr_if_eq hC dX5_sits_6 (tgt := 13) (by decide) (fun c_6 => ?_) (fun c_6 => ?_)
    · refine zk_iconst hC dX5_sits_13 (v := nI 0) (by decide +kernel) ?_
      exact zr_zreturn hC hE dX5_sits_14 (by first | exact Or.inl rfl | exact Or.inr rfl) (hr _ _ (hQ _ (by first | exact Or.inl ⟨rfl, by assumption⟩ | exact Or.inr ⟨rfl, by assumption⟩)))
    · refine zk_iconst hC dX5_sits_9 (v := nI 1) (by decide +kernel) ?_
      refine zr_goto hC dX5_sits_10 (tgt := 14) (by decide) ?_
      exact zr_zreturn hC hE dX5_sits_14 (by first | exact Or.inl rfl | exact Or.inr rfl) (hr _ _ (hQ _ (by first | exact Or.inl ⟨rfl, by assumption⟩ | exact Or.inr ⟨rfl, by assumption⟩)))
  · show zR C τ ι _ 0 0 0 [(0, .ref 232), (1, .int (nI m))] [] _
    refine zr_aload_n hC dX5_sits_0 rfl ?_
    refine zs_getr hC dX5_sits_1 fl_X5_9 (a := 232) (r := 233) rfl (by decide) ?_
    refine zr_iload_n hC dX5_sits_4 rfl ?_
    refine zs_iald hC dX5_sits_5 (a := 233) (n := 16) rfl (by decide) (by decide) (j := _) rfl (by omega) ?_
    refine zr_if_eq hC dX5_sits_6 (tgt := 13) (by decide) (fun c_6 => ?_) (fun c_6 => ?_)
    · refine zk_iconst hC dX5_sits_13 (v := nI 0) (by decide +kernel) ?_
      exact zr_zreturn hC hE dX5_sits_14 (by first | exact Or.inl rfl | exact Or.inr rfl) (hr _ _ (hQ _ (by first | exact Or.inl ⟨rfl, by assumption⟩ | exact Or.inr ⟨rfl, by assumption⟩)))
    · refine zk_iconst hC dX5_sits_9 (v := nI 1) (by decide +kernel) ?_
      refine zr_goto hC dX5_sits_10 (tgt := 14) (by decide) ?_
      exact zr_zreturn hC hE dX5_sits_14 (by first | exact Or.inl rfl | exact Or.inr rfl) (hr _ _ (hQ _ (by first | exact Or.inl ⟨rfl, by assumption⟩ | exact Or.inr ⟨rfl, by assumption⟩)))
def spX5_live : zSp := fun av S Q => ∃ (q m : Nat), av = [.ref q, .int (nI m)] ∧ zq q ∧ m < 32 ∧ ∀ r, (r = nI 1 ∧ ¬ S.1 (q + 2) m = 0) ∨ (r = nI 0 ∧ S.1 (q + 2) m = 0) → Q (some (.int r)) S
set_option maxHeartbeats 4000000 in
set_option maxRecDepth 100000 in
theorem tX5_live : zM yX5_live cX5_live 2 (some .boolean) 0 spX5_live := by
  refine zM.of (by decide) (by decide) (fun av S Q h => by obtain ⟨q, m, rfl, hq, hm, hQ⟩ := h; exact Nat.le_of_ble_eq_true rfl) (fun C τ ι av S Q Qr h hr hC hE => ?_)
  obtain ⟨q, m, rfl, hq, hm, hQ⟩ := h
  rcases hq with rfl | rfl
  · show zR C τ ι _ 0 0 0 [(0, .ref 2), (1, .int (nI m))] [] _
    refine zr_aload_n hC dX5_live_0 rfl ?_
    refine zs_getr hC dX5_live_1 fl_X5_15 (a := 2) (r := 4) rfl (by decide) ?_
    refine zr_iload_n hC dX5_live_4 rfl ?_
    refine zs_iald hC dX5_live_5 (a := 4) (n := 32) rfl (by decide) (by decide) (j := _) rfl (by omega) ?_
    refine zr_if_eq hC dX5_live_6 (tgt := 13) (by decide) (fun c_6 => ?_) (fun c_6 => ?_)
    · refine zk_iconst hC dX5_live_13 (v := nI 0) (by decide +kernel) ?_
      exact zr_zreturn hC hE dX5_live_14 (by first | exact Or.inl rfl | exact Or.inr rfl) (hr _ _ (hQ _ (by first | exact Or.inl ⟨rfl, by assumption⟩ | exact Or.inr ⟨rfl, by assumption⟩)))
    · refine zk_iconst hC dX5_live_9 (v := nI 1) (by decide +kernel) ?_
      refine zr_goto hC dX5_live_10 (tgt := 14) (by decide) ?_
      exact zr_zreturn hC hE dX5_live_14 (by first | exact Or.inl rfl | exact Or.inr rfl) (hr _ _ (hQ _ (by first | exact Or.inl ⟨rfl, by assumption⟩ | exact Or.inr ⟨rfl, by assumption⟩)))
  · show zR C τ ι _ 0 0 0 [(0, .ref 232), (1, .int (nI m))] [] _
    refine zr_aload_n hC dX5_live_0 rfl ?_
    refine zs_getr hC dX5_live_1 fl_X5_15 (a := 232) (r := 234) rfl (by decide) ?_
    refine zr_iload_n hC dX5_live_4 rfl ?_
    refine zs_iald hC dX5_live_5 (a := 234) (n := 32) rfl (by decide) (by decide) (j := _) rfl (by omega) ?_
    refine zr_if_eq hC dX5_live_6 (tgt := 13) (by decide) (fun c_6 => ?_) (fun c_6 => ?_)
    · refine zk_iconst hC dX5_live_13 (v := nI 0) (by decide +kernel) ?_
      exact zr_zreturn hC hE dX5_live_14 (by first | exact Or.inl rfl | exact Or.inr rfl) (hr _ _ (hQ _ (by first | exact Or.inl ⟨rfl, by assumption⟩ | exact Or.inr ⟨rfl, by assumption⟩)))
    · refine zk_iconst hC dX5_live_9 (v := nI 1) (by decide +kernel) ?_
      refine zr_goto hC dX5_live_10 (tgt := 14) (by decide) ?_
      exact zr_zreturn hC hE dX5_live_14 (by first | exact Or.inl rfl | exact Or.inr rfl) (hr _ _ (hQ _ (by first | exact Or.inl ⟨rfl, by assumption⟩ | exact Or.inr ⟨rfl, by assumption⟩)))
def spX5_all : zSp := fun av S Q => av = [.ref 2] ∧ Q (some (.int (S.1 4 1))) S
set_option maxHeartbeats 4000000 in
set_option maxRecDepth 100000 in
theorem tX5_all : zM yX5_all cX5_all 1 (some .int) 0 spX5_all := by
  refine zM.of (by decide) (by decide) (fun av S Q h => by obtain ⟨rfl, hQ⟩ := h; exact Nat.le_of_ble_eq_true rfl) (fun C τ ι av S Q Qr h hr hC hE => ?_)
  obtain ⟨rfl, hQ⟩ := h
  show zR C τ ι _ 0 0 0 [(0, .ref 2)] [] _
  refine zr_aload_n hC dX5_all_0 rfl ?_
  refine zs_getr hC dX5_all_1 fl_X5_15 (a := 2) (r := 4) rfl (by decide) ?_
  refine zk_iconst hC dX5_all_4 (v := nI 1) (by decide +kernel) ?_
  refine zs_iald hC dX5_all_5 (a := 4) (n := 32) rfl (by decide) (by decide) (j := _) rfl (by omega) ?_
  exact zr_ireturn hC hE dX5_all_6 (hr _ _ (hQ))
