def spX1_known : zSp := fun av S Q => ∃ (x : Int32) (n : Nat), av = [.ref 5, .int x] ∧ S.1 5 0 = nI n ∧ n ≤ 232 ∧ ∀ r, (r = nI 1 ∧ ∃ j, j < n ∧ x = nI j) ∨ (r = nI 0 ∧ (x < 0 ∨ nI n ≤ x)) → Q (some (.int r)) S
set_option maxHeartbeats 4000000 in
set_option maxRecDepth 100000 in
theorem tX1_known : zM yX1_known cX1_known 2 (some .boolean) 0 spX1_known := by
  refine zM.of (by decide) (by decide) (fun av S Q h => by obtain ⟨x, n, rfl, hn, hn2, hQ⟩ := h; exact Nat.le_of_ble_eq_true rfl) (fun C τ ι av S Q Qr h hr hC hE => ?_)
  obtain ⟨x, n, rfl, hn, hn2, hQ⟩ := h
  show zR C τ ι _ 0 0 0 [(0, .ref 5), (1, .int x)] [] _
  refine zr_iload_n hC dX1_known_0 rfl ?_
  refine zr_if_lt hC dX1_known_1 (tgt := 16) (by decide) (fun c_1 => ?_) (fun c_1 => ?_)
  · refine zk_iconst hC dX1_known_16 (v := nI 0) (by decide +kernel) ?_
    exact zr_zreturn hC hE dX1_known_17 (by first | exact Or.inl rfl | exact Or.inr rfl) (hr _ _ (hQ _ (by first | exact Or.inl ⟨rfl, z_in (by assumption) (Int32.not_le.mp (by assumption)) (by omega)⟩ | exact Or.inr ⟨rfl, Or.inl (by assumption)⟩ | exact Or.inr ⟨rfl, Or.inr (by assumption)⟩)))
  · refine zr_iload_n hC dX1_known_4 rfl ?_
    refine zr_aload_n hC dX1_known_5 rfl ?_
    refine zv_geti hC dX1_known_6 fl_X1_30 (a := 5) rfl (by decide) (hn) ?_
    refine zr_icmp_ge hC dX1_known_9 (tgt := 16) (by decide) (fun c_9 => ?_) (fun c_9 => ?_)
    · refine zk_iconst hC dX1_known_16 (v := nI 0) (by decide +kernel) ?_
      exact zr_zreturn hC hE dX1_known_17 (by first | exact Or.inl rfl | exact Or.inr rfl) (hr _ _ (hQ _ (by first | exact Or.inl ⟨rfl, z_in (by assumption) (Int32.not_le.mp (by assumption)) (by omega)⟩ | exact Or.inr ⟨rfl, Or.inl (by assumption)⟩ | exact Or.inr ⟨rfl, Or.inr (by assumption)⟩)))
    · refine zk_iconst hC dX1_known_12 (v := nI 1) (by decide +kernel) ?_
      refine zr_goto hC dX1_known_13 (tgt := 17) (by decide) ?_
      exact zr_zreturn hC hE dX1_known_17 (by first | exact Or.inl rfl | exact Or.inr rfl) (hr _ _ (hQ _ (by first | exact Or.inl ⟨rfl, z_in (by assumption) (Int32.not_le.mp (by assumption)) (by omega)⟩ | exact Or.inr ⟨rfl, Or.inl (by assumption)⟩ | exact Or.inr ⟨rfl, Or.inr (by assumption)⟩)))
def spX2_known : zSp := fun av S Q => ∃ (x : Int32) (n : Nat), av = [.ref 10, .int x] ∧ S.1 10 0 = nI n ∧ n ≤ 232 ∧ ∀ r, (r = nI 1 ∧ ∃ j, j < n ∧ x = nI j) ∨ (r = nI 0 ∧ (x < 0 ∨ nI n ≤ x)) → Q (some (.int r)) S
set_option maxHeartbeats 4000000 in
set_option maxRecDepth 100000 in
theorem tX2_known : zM yX2_known cX2_known 2 (some .boolean) 0 spX2_known := by
  refine zM.of (by decide) (by decide) (fun av S Q h => by obtain ⟨x, n, rfl, hn, hn2, hQ⟩ := h; exact Nat.le_of_ble_eq_true rfl) (fun C τ ι av S Q Qr h hr hC hE => ?_)
  obtain ⟨x, n, rfl, hn, hn2, hQ⟩ := h
  show zR C τ ι _ 0 0 0 [(0, .ref 10), (1, .int x)] [] _
  refine zr_iload_n hC dX2_known_0 rfl ?_
  refine zr_if_lt hC dX2_known_1 (tgt := 16) (by decide) (fun c_1 => ?_) (fun c_1 => ?_)
  · refine zk_iconst hC dX2_known_16 (v := nI 0) (by decide +kernel) ?_
    exact zr_zreturn hC hE dX2_known_17 (by first | exact Or.inl rfl | exact Or.inr rfl) (hr _ _ (hQ _ (by first | exact Or.inl ⟨rfl, z_in (by assumption) (Int32.not_le.mp (by assumption)) (by omega)⟩ | exact Or.inr ⟨rfl, Or.inl (by assumption)⟩ | exact Or.inr ⟨rfl, Or.inr (by assumption)⟩)))
  · refine zr_iload_n hC dX2_known_4 rfl ?_
    refine zr_aload_n hC dX2_known_5 rfl ?_
    refine zv_geti hC dX2_known_6 fl_X2_21 (a := 10) rfl (by decide) (hn) ?_
    refine zr_icmp_ge hC dX2_known_9 (tgt := 16) (by decide) (fun c_9 => ?_) (fun c_9 => ?_)
    · refine zk_iconst hC dX2_known_16 (v := nI 0) (by decide +kernel) ?_
      exact zr_zreturn hC hE dX2_known_17 (by first | exact Or.inl rfl | exact Or.inr rfl) (hr _ _ (hQ _ (by first | exact Or.inl ⟨rfl, z_in (by assumption) (Int32.not_le.mp (by assumption)) (by omega)⟩ | exact Or.inr ⟨rfl, Or.inl (by assumption)⟩ | exact Or.inr ⟨rfl, Or.inr (by assumption)⟩)))
    · refine zk_iconst hC dX2_known_12 (v := nI 1) (by decide +kernel) ?_
      refine zr_goto hC dX2_known_13 (tgt := 17) (by decide) ?_
      exact zr_zreturn hC hE dX2_known_17 (by first | exact Or.inl rfl | exact Or.inr rfl) (hr _ _ (hQ _ (by first | exact Or.inl ⟨rfl, z_in (by assumption) (Int32.not_le.mp (by assumption)) (by omega)⟩ | exact Or.inr ⟨rfl, Or.inl (by assumption)⟩ | exact Or.inr ⟨rfl, Or.inr (by assumption)⟩)))
def spX1_nodeOf : zSp := fun av S Q => ∃ (x : Int32) (n : Nat), av = [.ref 5, .int x] ∧ S.1 5 0 = nI n ∧ n ≤ 232 ∧ ∀ r, (∃ j, j < n ∧ x = nI j ∧ r = S.1 6 j) ∨ ((x < 0 ∨ nI n ≤ x) ∧ r = -4) → Q (some (.int r)) S
set_option maxHeartbeats 4000000 in
set_option maxRecDepth 100000 in
theorem tX1_nodeOf : zM yX1_nodeOf cX1_nodeOf 2 (some .int) 1 spX1_nodeOf := by
  refine zM.of (by decide) (by decide) (fun av S Q h => by obtain ⟨x, n, rfl, hn, hn2, hQ⟩ := h; exact Nat.le_of_ble_eq_true rfl) (fun C τ ι av S Q Qr h hr hC hE => ?_)
  obtain ⟨x, n, rfl, hn, hn2, hQ⟩ := h
  show zR C τ ι _ 0 0 0 [(0, .ref 5), (1, .int x)] [] _
  refine zr_aload_n hC dX1_nodeOf_0 rfl ?_
  refine zr_iload_n hC dX1_nodeOf_1 rfl ?_
  refine zs_callV hC (b := 5) [_] [] dX1_nodeOf_2 ml_X1_54 mtX1_known tX1_known (by decide) (by decide) (by decide) rfl rfl (by decide) (by decide +kernel) (Nat.le_of_ble_eq_true rfl) rfl ?_
  refine ⟨_, n, rfl, hn, hn2, fun r e => ?_⟩
  rcases e with ⟨rfl, j, hj, rfl⟩ | ⟨rfl, hx⟩
  · dsimp only [Option.toList, List.cons_append, List.nil_append]
    refine zr_if_eq hC dX1_nodeOf_5 (tgt := 17) (by decide) (fun c => absurd c (by decide +kernel)) (fun c_5 => ?_)
    refine zr_aload_n hC dX1_nodeOf_8 rfl ?_
    refine zs_getr hC dX1_nodeOf_9 fl_X1_9 (a := 5) (r := 6) rfl (by decide) ?_
    refine zr_iload_n hC dX1_nodeOf_12 rfl ?_
    refine zs_iald hC dX1_nodeOf_13 (a := 6) (n := 232) rfl (by decide) (by decide) (j := _) rfl (by omega) ?_
    refine zr_goto hC dX1_nodeOf_14 (tgt := 19) (by decide) ?_
    exact zr_ireturn hC hE dX1_nodeOf_19 (hr _ _ (hQ _ (by first | exact Or.inl ⟨_, hj, rfl, rfl⟩ | exact Or.inr ⟨hx, rfl⟩)))
  · dsimp only [Option.toList, List.cons_append, List.nil_append]
    refine zr_if_eq hC dX1_nodeOf_5 (tgt := 17) (by decide) (fun c_5 => ?_) (fun c => absurd c (by decide +kernel))
    refine zk_bipush hC dX1_nodeOf_17 (v := (-4)) (by decide +kernel) ?_
    exact zr_ireturn hC hE dX1_nodeOf_19 (hr _ _ (hQ _ (by first | exact Or.inl ⟨_, hj, rfl, rfl⟩ | exact Or.inr ⟨hx, rfl⟩)))
def spX1_batchOf : zSp := fun av S Q => ∃ (x : Int32) (n : Nat), av = [.ref 5, .int x] ∧ S.1 5 0 = nI n ∧ n ≤ 232 ∧ ∀ r, (∃ j, j < n ∧ x = nI j ∧ r = S.1 7 j) ∨ ((x < 0 ∨ nI n ≤ x) ∧ r = -1) → Q (some (.int r)) S
set_option maxHeartbeats 4000000 in
set_option maxRecDepth 100000 in
theorem tX1_batchOf : zM yX1_batchOf cX1_batchOf 2 (some .int) 1 spX1_batchOf := by
  refine zM.of (by decide) (by decide) (fun av S Q h => by obtain ⟨x, n, rfl, hn, hn2, hQ⟩ := h; exact Nat.le_of_ble_eq_true rfl) (fun C τ ι av S Q Qr h hr hC hE => ?_)
  obtain ⟨x, n, rfl, hn, hn2, hQ⟩ := h
  show zR C τ ι _ 0 0 0 [(0, .ref 5), (1, .int x)] [] _
  refine zr_aload_n hC dX1_batchOf_0 rfl ?_
  refine zr_iload_n hC dX1_batchOf_1 rfl ?_
  refine zs_callV hC (b := 5) [_] [] dX1_batchOf_2 ml_X1_54 mtX1_known tX1_known (by decide) (by decide) (by decide) rfl rfl (by decide) (by decide +kernel) (Nat.le_of_ble_eq_true rfl) rfl ?_
  refine ⟨_, n, rfl, hn, hn2, fun r e => ?_⟩
  rcases e with ⟨rfl, j, hj, rfl⟩ | ⟨rfl, hx⟩
  · dsimp only [Option.toList, List.cons_append, List.nil_append]
    refine zr_if_eq hC dX1_batchOf_5 (tgt := 17) (by decide) (fun c => absurd c (by decide +kernel)) (fun c_5 => ?_)
    refine zr_aload_n hC dX1_batchOf_8 rfl ?_
    refine zs_getr hC dX1_batchOf_9 fl_X1_15 (a := 5) (r := 7) rfl (by decide) ?_
    refine zr_iload_n hC dX1_batchOf_12 rfl ?_
    refine zs_iald hC dX1_batchOf_13 (a := 7) (n := 232) rfl (by decide) (by decide) (j := _) rfl (by omega) ?_
    refine zr_goto hC dX1_batchOf_14 (tgt := 18) (by decide) ?_
    exact zr_ireturn hC hE dX1_batchOf_18 (hr _ _ (hQ _ (by first | exact Or.inl ⟨_, hj, rfl, rfl⟩ | exact Or.inr ⟨hx, rfl⟩)))
  · dsimp only [Option.toList, List.cons_append, List.nil_append]
    refine zr_if_eq hC dX1_batchOf_5 (tgt := 17) (by decide) (fun c_5 => ?_) (fun c => absurd c (by decide +kernel))
    refine zk_iconst hC dX1_batchOf_17 (v := (-1)) (by decide +kernel) ?_
    exact zr_ireturn hC hE dX1_batchOf_18 (hr _ _ (hQ _ (by first | exact Or.inl ⟨_, hj, rfl, rfl⟩ | exact Or.inr ⟨hx, rfl⟩)))
def spX1_holdersOf : zSp := fun av S Q => ∃ (x : Int32) (n : Nat), av = [.ref 5, .int x] ∧ S.1 5 0 = nI n ∧ n ≤ 232 ∧ ∀ r, (∃ j, j < n ∧ x = nI j ∧ r = S.1 8 j) ∨ ((x < 0 ∨ nI n ≤ x) ∧ r = nI 0) → Q (some (.int r)) S
set_option maxHeartbeats 4000000 in
set_option maxRecDepth 100000 in
theorem tX1_holdersOf : zM yX1_holdersOf cX1_holdersOf 2 (some .int) 1 spX1_holdersOf := by
  refine zM.of (by decide) (by decide) (fun av S Q h => by obtain ⟨x, n, rfl, hn, hn2, hQ⟩ := h; exact Nat.le_of_ble_eq_true rfl) (fun C τ ι av S Q Qr h hr hC hE => ?_)
  obtain ⟨x, n, rfl, hn, hn2, hQ⟩ := h
  show zR C τ ι _ 0 0 0 [(0, .ref 5), (1, .int x)] [] _
  refine zr_aload_n hC dX1_holdersOf_0 rfl ?_
  refine zr_iload_n hC dX1_holdersOf_1 rfl ?_
  refine zs_callV hC (b := 5) [_] [] dX1_holdersOf_2 ml_X1_54 mtX1_known tX1_known (by decide) (by decide) (by decide) rfl rfl (by decide) (by decide +kernel) (Nat.le_of_ble_eq_true rfl) rfl ?_
  refine ⟨_, n, rfl, hn, hn2, fun r e => ?_⟩
  rcases e with ⟨rfl, j, hj, rfl⟩ | ⟨rfl, hx⟩
  · dsimp only [Option.toList, List.cons_append, List.nil_append]
    refine zr_if_eq hC dX1_holdersOf_5 (tgt := 17) (by decide) (fun c => absurd c (by decide +kernel)) (fun c_5 => ?_)
    refine zr_aload_n hC dX1_holdersOf_8 rfl ?_
    refine zs_getr hC dX1_holdersOf_9 fl_X1_18 (a := 5) (r := 8) rfl (by decide) ?_
    refine zr_iload_n hC dX1_holdersOf_12 rfl ?_
    refine zs_iald hC dX1_holdersOf_13 (a := 8) (n := 232) rfl (by decide) (by decide) (j := _) rfl (by omega) ?_
    refine zr_goto hC dX1_holdersOf_14 (tgt := 18) (by decide) ?_
    exact zr_ireturn hC hE dX1_holdersOf_18 (hr _ _ (hQ _ (by first | exact Or.inl ⟨_, hj, rfl, rfl⟩ | exact Or.inr ⟨hx, rfl⟩)))
  · dsimp only [Option.toList, List.cons_append, List.nil_append]
    refine zr_if_eq hC dX1_holdersOf_5 (tgt := 17) (by decide) (fun c_5 => ?_) (fun c => absurd c (by decide +kernel))
    refine zk_iconst hC dX1_holdersOf_17 (v := nI 0) (by decide +kernel) ?_
    exact zr_ireturn hC hE dX1_holdersOf_18 (hr _ _ (hQ _ (by first | exact Or.inl ⟨_, hj, rfl, rfl⟩ | exact Or.inr ⟨hx, rfl⟩)))
def spX1_held : zSp := fun av S Q => ∃ (x : Int32) (n m : Nat), av = [.ref 5, .int x, .int (nI m)] ∧ S.1 5 0 = nI n ∧ n ≤ 232 ∧ m < 32 ∧ ∀ r, (r = nI 1 ∧ ∃ j, j < n ∧ x = nI j ∧ bt (S.1 8 j) m = true) ∨ (r = nI 0 ∧ ∀ j, j < n → x = nI j → bt (S.1 8 j) m = false) → Q (some (.int r)) S
set_option maxHeartbeats 4000000 in
set_option maxRecDepth 100000 in
theorem tX1_held : zM yX1_held cX1_held 3 (some .boolean) 2 spX1_held := by
  refine zM.of (by decide) (by decide) (fun av S Q h => by obtain ⟨x, n, m, rfl, hn, hn2, hm, hQ⟩ := h; exact Nat.le_of_ble_eq_true rfl) (fun C τ ι av S Q Qr h hr hC hE => ?_)
  obtain ⟨x, n, m, rfl, hn, hn2, hm, hQ⟩ := h
  show zR C τ ι _ 0 0 0 [(0, .ref 5), (1, .int x), (2, .int (nI m))] [] _
  refine zr_aload_n hC dX1_held_0 rfl ?_
  refine zr_iload_n hC dX1_held_1 rfl ?_
  refine zs_callV hC (b := 5) [_] [] dX1_held_2 ml_X1_57 mtX1_holdersOf tX1_holdersOf (by decide) (by decide) (by decide) rfl rfl (by decide) (by decide +kernel) (Nat.le_of_ble_eq_true rfl) rfl ?_
  refine ⟨_, n, rfl, hn, hn2, fun r e => ?_⟩
  dsimp only [Option.toList, List.cons_append, List.nil_append]
  refine zr_iload_n hC dX1_held_5 rfl ?_
  refine zs_callSN hC [_, _] [] dX1_held_6 mn_X1_46 mtX8_has tX8_has (by decide) (by decide) (by decide) rfl (Nat.le_of_ble_eq_true rfl) rfl ?_
  refine ⟨_, m, rfl, hm, fun r2 e2 => ?_⟩
  dsimp only [Option.toList, List.cons_append, List.nil_append]
  refine zr_zreturn hC hE dX1_held_9 (by rcases e2 with ⟨rfl, -⟩ | ⟨rfl, -⟩ <;> first | exact Or.inl rfl | exact Or.inr rfl) (hr _ _ (hQ _ ?_))
  rcases e with ⟨j, hj, rfl, rfl⟩ | ⟨hx, rfl⟩
  · rcases e2 with ⟨rfl, h⟩ | ⟨rfl, h⟩
    · exact Or.inl ⟨rfl, j, hj, rfl, h⟩
    · refine Or.inr ⟨rfl, fun j2 hj2 e => ?_⟩
      rw [nI_eq (by omega) (by omega)] at e
      subst e; exact h
  · have hz : bt (nI 0) m = false := by rw [bt_nI _ _ hm]; simp
    rcases e2 with ⟨rfl, h⟩ | ⟨rfl, h⟩
    · rw [hz] at h; cases h
    · refine Or.inr ⟨rfl, fun j2 hj2 e => ?_⟩
      subst e
      rcases hx with hx | hx
      · exact absurd hx (nI_pos (by omega))
      · rw [nI_leI (by omega) (by omega)] at hx; omega
def spX1_give : zSp := fun av S Q => ∃ (n j m : Nat), av = [.ref 5, .int (nI j), .int (nI m)] ∧ S.1 5 0 = nI n ∧ n ≤ 232 ∧ j < n ∧ m < 32 ∧ Q none (zput S 8 j (S.1 8 j ||| nI (2 ^ m)))
set_option maxHeartbeats 4000000 in
set_option maxRecDepth 100000 in
theorem tX1_give : zM yX1_give cX1_give 3 none 1 spX1_give := by
  refine zM.of (by decide) (by decide) (fun av S Q h => by obtain ⟨n, j, m, rfl, hn, hn2, hj, hm, hQ⟩ := h; exact Nat.le_of_ble_eq_true rfl) (fun C τ ι av S Q Qr h hr hC hE => ?_)
  obtain ⟨n, j, m, rfl, hn, hn2, hj, hm, hQ⟩ := h
  show zR C τ ι _ 0 0 0 [(0, .ref 5), (1, .int (nI j)), (2, .int (nI m))] [] _
  refine zr_aload_n hC dX1_give_0 rfl ?_
  refine zr_iload_n hC dX1_give_1 rfl ?_
  refine zs_callV hC (b := 5) [_] [] dX1_give_2 ml_X1_54 mtX1_known tX1_known (by decide) (by decide) (by decide) rfl rfl (by decide) (by decide +kernel) (Nat.le_of_ble_eq_true rfl) rfl ?_
  refine ⟨_, n, rfl, hn, hn2, fun r e => ?_⟩
  have hrr : r = nI 1 := by
    rcases e with ⟨h, -⟩ | ⟨-, h⟩
    · exact h
    · rcases h with h | h
      · exact absurd h (nI_pos (by omega))
      · rw [nI_leI (by omega) (by omega)] at h; omega
  subst hrr
  dsimp only [Option.toList, List.cons_append, List.nil_append]
  refine zr_if_eq hC dX1_give_5 (tgt := 20) (by decide) (fun c => absurd c (by decide +kernel)) (fun c_5 => ?_)
  refine zr_aload_n hC dX1_give_8 rfl ?_
  refine zs_getr hC dX1_give_9 fl_X1_18 (a := 5) (r := 8) rfl (by decide) ?_
  refine zr_iload_n hC dX1_give_12 rfl ?_
  refine zr_dup2 hC dX1_give_13 rfl rfl ?_
  refine zs_iald hC dX1_give_14 (a := 8) (n := 232) rfl (by decide) (by decide) (j := _) rfl (by omega) ?_
  refine zk_iconst hC dX1_give_15 (v := nI 1) (by decide +kernel) ?_
  refine zr_iload_n hC dX1_give_16 rfl ?_
  refine zn_ishl hC dX1_give_17 (z_shl1 _ hm) ?_
  refine zr_ior hC dX1_give_18 ?_
  refine zs_iast hC dX1_give_19 (a := 8) (n := 232) rfl (by decide) (by decide) (j := _) rfl (by omega) ?_
  exact zr_vreturn hC hE dX1_give_20 (hr _ _ (hQ))
def spX1_add : zSp := fun av S Q => ∃ (n v b : Nat), av = [.ref 5, .int (nI v), .int (nI b)] ∧ S.1 5 0 = nI n ∧ n < 232 ∧ Q (some (.int (nI n))) (zput (zput (zput (zput S 6 n (nI v)) 7 n (nI b)) 8 n (nI 0)) 5 0 (nI (n + 1)))
set_option maxHeartbeats 4000000 in
set_option maxRecDepth 100000 in
theorem tX1_add : zM yX1_add cX1_add 3 (some .int) 0 spX1_add := by
  refine zM.of (by decide) (by decide) (fun av S Q h => by obtain ⟨n, v, b, rfl, hn, hn2, hQ⟩ := h; exact Nat.le_of_ble_eq_true rfl) (fun C τ ι av S Q Qr h hr hC hE => ?_)
  obtain ⟨n, v, b, rfl, hn, hn2, hQ⟩ := h
  show zR C τ ι _ 0 0 0 [(0, .ref 5), (1, .int (nI v)), (2, .int (nI b))] [] _
  refine zr_aload_n hC dX1_add_0 rfl ?_
  refine zv_geti hC dX1_add_1 fl_X1_30 (a := 5) rfl (by decide) (hn) ?_
  refine zk_sipush hC dX1_add_4 (v := nI 232) (by decide +kernel) ?_
  refine zr_icmp_lt hC dX1_add_7 (tgt := 13) (by decide) (fun c_7 => ?_) (fun c => absurd c (not_not_intro (nI_lt hn2 (by decide))))
  refine zr_aload_n hC dX1_add_13 rfl ?_
  refine zs_getr hC dX1_add_14 fl_X1_9 (a := 5) (r := 6) rfl (by decide) ?_
  refine zr_aload_n hC dX1_add_17 rfl ?_
  refine zv_geti hC dX1_add_18 fl_X1_30 (a := 5) rfl (by decide) (hn) ?_
  refine zr_iload_n hC dX1_add_21 rfl ?_
  refine zs_iast hC dX1_add_22 (a := 6) (n := 232) rfl (by decide) (by decide) (j := _) rfl (by omega) ?_
  refine zr_aload_n hC dX1_add_23 rfl ?_
  refine zs_getr hC dX1_add_24 fl_X1_15 (a := 5) (r := 7) rfl (by decide) ?_
  refine zr_aload_n hC dX1_add_27 rfl ?_
  refine zv_geti hC dX1_add_28 fl_X1_30 (a := 5) rfl (by decide) (hn) ?_
  refine zr_iload_n hC dX1_add_31 rfl ?_
  refine zs_iast hC dX1_add_32 (a := 7) (n := 232) rfl (by decide) (by decide) (j := _) rfl (by omega) ?_
  refine zr_aload_n hC dX1_add_33 rfl ?_
  refine zs_getr hC dX1_add_34 fl_X1_18 (a := 5) (r := 8) rfl (by decide) ?_
  refine zr_aload_n hC dX1_add_37 rfl ?_
  refine zv_geti hC dX1_add_38 fl_X1_30 (a := 5) rfl (by decide) (hn) ?_
  refine zk_iconst hC dX1_add_41 (v := nI 0) (by decide +kernel) ?_
  refine zs_iast hC dX1_add_42 (a := 8) (n := 232) rfl (by decide) (by decide) (j := _) rfl (by omega) ?_
  refine zr_aload_n hC dX1_add_43 rfl ?_
  refine zr_dup hC dX1_add_44 rfl ?_
  refine zv_geti hC dX1_add_45 fl_X1_30 (a := 5) rfl (by decide) (hn) ?_
  refine zk_iconst hC dX1_add_48 (v := nI 1) (by decide +kernel) ?_
  refine zn_iadd hC dX1_add_49 (nI_add _ _) ?_
  refine zs_puti hC dX1_add_50 fl_X1_30 fp_X1_0 (a := 5) rfl (by decide) ?_
  refine zr_aload_n hC dX1_add_53 rfl ?_
  refine zv_geti hC dX1_add_54 fl_X1_30 (a := 5) rfl (by decide) (zput_at _ _ _ _) ?_
  refine zk_iconst hC dX1_add_57 (v := nI 1) (by decide +kernel) ?_
  refine zn_isub hC dX1_add_58 (pk_sub (by omega)) ?_
  exact zr_ireturn hC hE dX1_add_59 (hr _ _ (by simpa using hQ))
/-- how many of the first n keys m holds -/
def hby (D : zD) (m : Nat) : Nat → Nat
  | 0 => 0
  | n + 1 => hby D m n + (if hd D m n = true then 1 else 0)
theorem hby_le (D : zD) (m : Nat) : ∀ n, hby D m n ≤ n
  | 0 => Nat.le_refl 0
  | n + 1 => by
    have := hby_le D m n
    unfold hby
    split <;> omega
set_option maxHeartbeats 4000000 in
set_option maxRecDepth 100000 in
theorem l1_heldBy {C : zCx} {τ : Nat → ClassId} {ι : Nat → Nat} (hC : zOK C τ (zrm 1 0 0) yX1_heldBy.cls cX1_heldBy 4) {S : zS} {D : zD} {m : Nat} (hK : KR S D) (hm : m < 32) (hn : D 6 0 ≤ 232) (k : ∀ lv, zlk 2 lv = some (.int (nI (hby D m (D 6 0)))) → zR C τ ι 4 0 0 31 lv [] (zcells S)) : ∀ (n i : Nat), i + n = D 6 0 → zR C τ ι 4 0 0 4 [(0, .ref 5), (1, .int (nI m)), (2, .int (nI (hby D m i))), (3, .int (nI i))] [] (zcells S) := by
  intro n
  induction n with
  | zero =>
    intro i hi
    refine zr_iload_n hC dX1_heldBy_4 rfl ?_
    refine zr_aload_n hC dX1_heldBy_5 rfl ?_
    refine zv_geti hC dX1_heldBy_6 fl_X1_30 (a := 5) rfl (by decide) (hK.1) ?_
    refine zr_icmp_ge hC dX1_heldBy_9 (tgt := 31) (by decide) (fun c_9 => ?_) (fun c => absurd c (not_not_intro (nI_le (by omega) (by omega))))
    exact k _ (by rw [show D 6 0 = i by omega]; rfl)
  | succ n ih =>
    intro i hi
    refine zr_iload_n hC dX1_heldBy_4 rfl ?_
    refine zr_aload_n hC dX1_heldBy_5 rfl ?_
    refine zv_geti hC dX1_heldBy_6 fl_X1_30 (a := 5) rfl (by decide) (hK.1) ?_
    refine zr_icmp_ge hC dX1_heldBy_9 (tgt := 31) (by decide) (fun c => absurd c (nI_ge (by omega) (by omega))) (fun c_9 => ?_)
    refine zr_iload_n hC dX1_heldBy_12 rfl ?_
    refine zr_aload_n hC dX1_heldBy_13 rfl ?_
    refine zs_getr hC dX1_heldBy_14 fl_X1_18 (a := 5) (r := 8) rfl (by decide) ?_
    refine zr_iload_n hC dX1_heldBy_17 rfl ?_
    refine zv_iald hC dX1_heldBy_18 (a := 8) (n := 232) rfl (by decide) (by decide) (j := _) rfl (by omega) ((hK.2 i (by omega)).2.2) ?_
    refine zr_iload_n hC dX1_heldBy_19 rfl ?_
    refine zs_callSN hC [_, _] [_] dX1_heldBy_20 mn_X1_61 mtX8_bit tX8_bit (by decide) (by decide) (by decide) rfl (Nat.le_of_ble_eq_true rfl) rfl ?_
    refine ⟨_, m, rfl, hm, fun r e => ?_⟩
    rcases e with ⟨rfl, hx⟩ | ⟨rfl, hx⟩
    · rw [bt_nI _ _ hm] at hx
      dsimp only [Option.toList, List.cons_append, List.nil_append]
      refine zn_iadd hC dX1_heldBy_23 (nI_add _ _) ?_
      refine zr_istore_n hC dX1_heldBy_24 (by decide) ?_
      refine zn_iinc hC dX1_heldBy_25 rfl (by decide) (zk_inc _ 1) ?_
      refine zr_goto hC dX1_heldBy_28 (tgt := 4) (by decide) ?_
      refine zR_sub [(0, .ref 5), (1, .int (nI m)), (2, .int (nI (hby D m (i + 1)))), (3, .int (nI (i + 1)))] ⟨rfl, rfl, zlk_eq rfl (by simp [hby, hx]), rfl, trivial⟩ (ih (i + 1) (by omega))
    · rw [bt_nI _ _ hm] at hx
      dsimp only [Option.toList, List.cons_append, List.nil_append]
      refine zn_iadd hC dX1_heldBy_23 (nI_add _ _) ?_
      refine zr_istore_n hC dX1_heldBy_24 (by decide) ?_
      refine zn_iinc hC dX1_heldBy_25 rfl (by decide) (zk_inc _ 1) ?_
      refine zr_goto hC dX1_heldBy_28 (tgt := 4) (by decide) ?_
      refine zR_sub [(0, .ref 5), (1, .int (nI m)), (2, .int (nI (hby D m (i + 1)))), (3, .int (nI (i + 1)))] ⟨rfl, rfl, zlk_eq rfl (by simp [hby, hx]), rfl, trivial⟩ (ih (i + 1) (by omega))
def spX1_heldBy : zSp := fun av S Q => ∃ (m : Nat) (D : zD), av = [.ref 5, .int (nI m)] ∧ KR S D ∧ m < 32 ∧ D 6 0 ≤ 232 ∧ Q (some (.int (nI (hby D m (D 6 0))))) S
set_option maxHeartbeats 4000000 in
set_option maxRecDepth 100000 in
theorem tX1_heldBy : zM yX1_heldBy cX1_heldBy 4 (some .int) 1 spX1_heldBy := by
  refine zM.of (by decide) (by decide) (fun av S Q h => by obtain ⟨m, D, rfl, hK, hm, hn, hQ⟩ := h; exact Nat.le_of_ble_eq_true rfl) (fun C τ ι av S Q Qr h hr hC hE => ?_)
  obtain ⟨m, D, rfl, hK, hm, hn, hQ⟩ := h
  show zR C τ ι _ 0 0 0 [(0, .ref 5), (1, .int (nI m))] [] _
  refine zk_iconst hC dX1_heldBy_0 (v := nI 0) (by decide +kernel) ?_
  refine zr_istore_n hC dX1_heldBy_1 (by decide) ?_
  refine zk_iconst hC dX1_heldBy_2 (v := nI 0) (by decide +kernel) ?_
  refine zr_istore_n hC dX1_heldBy_3 (by decide) ?_
  refine zR_sub [(0, .ref 5), (1, .int (nI m)), (2, .int (nI (hby D m 0))), (3, .int (nI 0))] ⟨rfl, rfl, rfl, rfl, trivial⟩ ?_
  refine l1_heldBy hC hK hm hn (fun lv hlv => ?_) (D 6 0) 0 (by omega)
  refine zr_iload_n hC dX1_heldBy_31 hlv ?_
  exact zr_ireturn hC hE dX1_heldBy_32 (hr _ _ hQ)
def spX1_clear : zSp := fun av S Q => av = [.ref 5] ∧ Q none (zfill (zput S 5 0 (nI 0)) 9 32 (-4))
set_option maxHeartbeats 4000000 in
set_option maxRecDepth 100000 in
theorem tX1_clear : zM yX1_clear cX1_clear 1 none 1 spX1_clear := by
  refine zM.of (by decide) (by decide) (fun av S Q h => by obtain ⟨rfl, hQ⟩ := h; exact Nat.le_of_ble_eq_true rfl) (fun C τ ι av S Q Qr h hr hC hE => ?_)
  obtain ⟨rfl, hQ⟩ := h
  show zR C τ ι _ 0 0 0 [(0, .ref 5)] [] _
  refine zr_aload_n hC dX1_clear_0 rfl ?_
  refine zk_iconst hC dX1_clear_1 (v := nI 0) (by decide +kernel) ?_
  refine zs_puti hC dX1_clear_2 fl_X1_30 fp_X1_0 (a := 5) rfl (by decide) ?_
  refine zr_aload_n hC dX1_clear_5 rfl ?_
  refine zs_getr hC dX1_clear_6 fl_X1_21 (a := 5) (r := 9) rfl (by decide) ?_
  refine zk_bipush hC dX1_clear_9 (v := (-4)) (by decide +kernel) ?_
  refine zs_callS hC [_, _] [] dX1_clear_11 ml_X1_24 mtJ7_fill_53178 tJ7_fill_53178 (by decide) (by decide) (by decide) rfl (Nat.le_of_ble_eq_true rfl) rfl ?_
  refine ⟨9, 32, _, rfl, rfl, by decide, by decide, ?_⟩
  dsimp only [Option.toList, List.nil_append]
  exact zr_vreturn hC hE dX1_clear_14 (hr _ _ (hQ))
def spX5_clear : zSp := fun av S Q => av = [.ref 2] ∧ Q none (zfill (zfill S 3 16 (nI 0)) 4 32 (nI 0))
set_option maxHeartbeats 4000000 in
set_option maxRecDepth 100000 in
theorem tX5_clear : zM yX5_clear cX5_clear 1 none 1 spX5_clear := by
  refine zM.of (by decide) (by decide) (fun av S Q h => by obtain ⟨rfl, hQ⟩ := h; exact Nat.le_of_ble_eq_true rfl) (fun C τ ι av S Q Qr h hr hC hE => ?_)
  obtain ⟨rfl, hQ⟩ := h
  show zR C τ ι _ 0 0 0 [(0, .ref 2)] [] _
  refine zr_aload_n hC dX5_clear_0 rfl ?_
  refine zs_getr hC dX5_clear_1 fl_X5_9 (a := 2) (r := 3) rfl (by decide) ?_
  refine zk_iconst hC dX5_clear_4 (v := nI 0) (by decide +kernel) ?_
  refine zs_callS hC [_, _] [] dX5_clear_5 ml_X5_24 mtJ7_fill_53178 tJ7_fill_53178 (by decide) (by decide) (by decide) rfl (Nat.le_of_ble_eq_true rfl) rfl ?_
  refine ⟨3, 16, _, rfl, rfl, by decide, by decide, ?_⟩
  dsimp only [Option.toList, List.nil_append]
  refine zr_aload_n hC dX5_clear_8 rfl ?_
  refine zs_getr hC dX5_clear_9 fl_X5_15 (a := 2) (r := 4) rfl (by decide) ?_
  refine zk_iconst hC dX5_clear_12 (v := nI 0) (by decide +kernel) ?_
  refine zs_callS hC [_, _] [] dX5_clear_13 ml_X5_24 mtJ7_fill_53178 tJ7_fill_53178 (by decide) (by decide) (by decide) rfl (Nat.le_of_ble_eq_true rfl) rfl ?_
  refine ⟨4, 32, _, rfl, rfl, by decide, by decide, ?_⟩
  dsimp only [Option.toList, List.nil_append]
  exact zr_vreturn hC hE dX5_clear_16 (hr _ _ (hQ))
def spX2_add : zSp := fun av S Q => ∃ (n : Nat) (x y z : Int32), av = [.ref 10, .int x, .int y, .int z] ∧ S.1 10 0 = nI n ∧ n < 192 ∧ Q none (zput (zput (zput (zput S 11 n x) 12 n y) 13 n z) 10 0 (nI (n + 1)))
set_option maxHeartbeats 4000000 in
set_option maxRecDepth 100000 in
theorem tX2_add : zM yX2_add cX2_add 4 none 0 spX2_add := by
  refine zM.of (by decide) (by decide) (fun av S Q h => by obtain ⟨n, x, y, z, rfl, hn, hn2, hQ⟩ := h; exact Nat.le_of_ble_eq_true rfl) (fun C τ ι av S Q Qr h hr hC hE => ?_)
  obtain ⟨n, x, y, z, rfl, hn, hn2, hQ⟩ := h
  show zR C τ ι _ 0 0 0 [(0, .ref 10), (1, .int x), (2, .int y), (3, .int z)] [] _
  refine zr_aload_n hC dX2_add_0 rfl ?_
  refine zv_geti hC dX2_add_1 fl_X2_21 (a := 10) rfl (by decide) (hn) ?_
  refine zk_sipush hC dX2_add_4 (v := nI 192) (by decide +kernel) ?_
  refine zr_icmp_lt hC dX2_add_7 (tgt := 11) (by decide) (fun c_7 => ?_) (fun c => absurd c (not_not_intro (nI_lt hn2 (by decide))))
  refine zr_aload_n hC dX2_add_11 rfl ?_
  refine zs_getr hC dX2_add_12 fl_X2_9 (a := 10) (r := 11) rfl (by decide) ?_
  refine zr_aload_n hC dX2_add_15 rfl ?_
  refine zv_geti hC dX2_add_16 fl_X2_21 (a := 10) rfl (by decide) (hn) ?_
  refine zr_iload_n hC dX2_add_19 rfl ?_
  refine zs_iast hC dX2_add_20 (a := 11) (n := 192) rfl (by decide) (by decide) (j := _) rfl (by omega) ?_
  refine zr_aload_n hC dX2_add_21 rfl ?_
  refine zs_getr hC dX2_add_22 fl_X2_15 (a := 10) (r := 12) rfl (by decide) ?_
  refine zr_aload_n hC dX2_add_25 rfl ?_
  refine zv_geti hC dX2_add_26 fl_X2_21 (a := 10) rfl (by decide) (hn) ?_
  refine zr_iload_n hC dX2_add_29 rfl ?_
  refine zs_iast hC dX2_add_30 (a := 12) (n := 192) rfl (by decide) (by decide) (j := _) rfl (by omega) ?_
  refine zr_aload_n hC dX2_add_31 rfl ?_
  refine zs_getr hC dX2_add_32 fl_X2_18 (a := 10) (r := 13) rfl (by decide) ?_
  refine zr_aload_n hC dX2_add_35 rfl ?_
  refine zv_geti hC dX2_add_36 fl_X2_21 (a := 10) rfl (by decide) (hn) ?_
  refine zr_iload_n hC dX2_add_39 rfl ?_
  refine zs_iast hC dX2_add_40 (a := 13) (n := 192) rfl (by decide) (by decide) (j := _) rfl (by omega) ?_
  refine zr_aload_n hC dX2_add_41 rfl ?_
  refine zr_dup hC dX2_add_42 rfl ?_
  refine zv_geti hC dX2_add_43 fl_X2_21 (a := 10) rfl (by decide) (hn) ?_
  refine zk_iconst hC dX2_add_46 (v := nI 1) (by decide +kernel) ?_
  refine zn_iadd hC dX2_add_47 (nI_add _ _) ?_
  refine zs_puti hC dX2_add_48 fl_X2_21 fp_X2_0 (a := 10) rfl (by decide) ?_
  exact zr_vreturn hC hE dX2_add_51 (hr _ _ (hQ))
