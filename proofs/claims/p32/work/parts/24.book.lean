/-! THE BOOK, small contracts -/
theorem dm_b1 {f : Nat → Nat} {c m : Nat} (hm : m < 16) : bt (nI (dm fun m => f m == c)) m = true ↔ f m = c := by
  rw [dm_bt hm]; exact beq_iff_eq
theorem dm_b0 {f : Nat → Nat} {c m : Nat} (hm : m < 16) : bt (nI (dm fun m => f m == c)) m = false ↔ f m ≠ c := by
  rw [dm_bt hm]; exact beq_eq_false_iff_ne
theorem SR.at0 {S : zS} {q m : Nat} {lf : Nat → Nat} (h : SR S q lf) (hm : m < 16) : S.1 (q + 1) m = 0 ↔ lf m = 0 := by
  rw [h.1 m hm]
  exact z_ne0 (Nat.lt_trans (h.2.2 m hm) (by decide))
theorem SR.live {S : zS} {q v : Nat} {lf : Nat → Nat} (h : SR S q lf) (h1 : 1 ≤ v) (h2 : v < 32) : S.1 (q + 2) v = 0 ↔ sm lf v = 0 := by
  rw [h.2.1 v h1 h2]
  exact z_ne0 (Nat.lt_trans (sm_lt _ _) (by decide))
theorem KR.held {S : zS} {D : zD} {k m : Nat} (hK : KR S D) (hk : k < D 6 0) (h60 : D 6 0 ≤ 232) (hm : m < 32) {r : Int32} (e : (r = nI 1 ∧ ∃ j, j < D 6 0 ∧ nI k = nI j ∧ bt (S.1 8 j) m = true) ∨ (r = nI 0 ∧ ∀ j, j < D 6 0 → nI k = nI j → bt (S.1 8 j) m = false)) : (r = nI 1 ∧ hd D m k = true) ∨ (r = nI 0 ∧ hd D m k = false) := by
  have h8 := (hK.2 k hk).2.2
  rcases e with ⟨rfl, j, hj, e, h⟩ | ⟨rfl, h⟩
  · rw [nI_eq (by omega) (by omega)] at e
    subst e
    rw [h8, bt_nI _ _ hm] at h
    exact Or.inl ⟨rfl, h⟩
  · have h := h k hk rfl
    rw [h8, bt_nI _ _ hm] at h
    exact Or.inr ⟨rfl, h⟩
theorem KR.node {S : zS} {D : zD} {k : Nat} (hK : KR S D) (hk : k < D 6 0) (h60 : D 6 0 ≤ 232) {r : Int32} {F : Nat → Nat} {a : Nat} (hF : ∀ j, j < D 6 0 → S.1 a j = nI (F j)) (e : (∃ j, j < D 6 0 ∧ nI k = nI j ∧ r = S.1 a j) ∨ ((nI k < 0 ∨ nI (D 6 0) ≤ nI k) ∧ r = -4)) : r = nI (F k) := by
  rcases e with ⟨j, hj, e, rfl⟩ | ⟨h, -⟩
  · rw [nI_eq (by omega) (by omega)] at e
    subst e
    exact hF k hk
  · rcases h with h | h
    · exact absurd h (nI_pos (by omega))
    · rw [nI_leI (by omega) (by omega)] at h; omega
theorem KR.node' {S : zS} {D : zD} {k : Nat} (hK : KR S D) (hk : k < D 6 0) (h60 : D 6 0 ≤ 232) {r d : Int32} {F : Nat → Nat} {a : Nat} (hF : ∀ j, j < D 6 0 → S.1 a j = nI (F j)) (e : (∃ j, j < D 6 0 ∧ nI k = nI j ∧ r = S.1 a j) ∨ ((nI k < 0 ∨ nI (D 6 0) ≤ nI k) ∧ r = d)) : r = nI (F k) := by
  rcases e with ⟨j, hj, e, rfl⟩ | ⟨h, -⟩
  · rw [nI_eq (by omega) (by omega)] at e
    subst e
    exact hF k hk
  · rcases h with h | h
    · exact absurd h (nI_pos (by omega))
    · rw [nI_leI (by omega) (by omega)] at h; omega
theorem CR.sr {S : zS} {D : zD} (h : CR S D) : SR S 2 (D 0) := h.1
theorem CR.kr {S : zS} {D : zD} (h : CR S D) : KR S D := h.2.1
theorem CR.orr {S : zS} {D : zD} (h : CR S D) : OR S D := h.2.2.1
theorem CR.lr {S : zS} {D : zD} (h : CR S D) : LR S D := h.2.2.2.1
theorem CR.ms {S : zS} {D : zD} (h : CR S D) : MRs S D := h.2.2.2.2.1
theorem CR.qr {S : zS} {D : zD} (h : CR S D) : QR S D := h.2.2.2.2.2.1
theorem CR.ar {S : zS} {D : zD} (h : CR S D) : AR S D := h.2.2.2.2.2.2
def ful (D : zD) : Int32 := if 200 ≤ D 6 0 ∨ 160 ≤ D 6 1 then -3 else nI 0
def brf (D : zD) : Int32 := if cms D = 0 ∧ lvs D = 0 then -2 else ful D
/-- all keys above are held -/
def hall (D : zD) (m : Nat) : Nat → Nat → Bool
  | 0, _ => true
  | n + 1, u => if u = 0 then true else hd D m (key D u) && hall D m n (u / 2)
def mrf (D : zD) (m : Nat) : Int32 := if D 0 m = 0 ∨ D 2 m = 1 ∨ hall D m 4 (D 0 m / 2) = true then -2 else ful D
def bgn (D : zD) : zD := fun f k => if f = 6 ∧ k = 3 then D 6 3 else 0
/-- of member m and a letter under key k -/
def wsh (D : zD) (m k : Nat) : Nat := if hd D m k = true then 0 else if D 4 m = 0 then 1 else if D 8 k + 1 < D 4 m then 2 else if D 0 m = 0 ∧ D 5 m ≤ D 8 k + 1 then 3 else 4
def nlp (D : zD) (m i : Nat) : Bool := decide (D 12 i = D 6 2) && (decide (1 < D 7 (D 11 i)) && bn (D 0 m) (D 7 (D 11 i)))
def spX0_groupKey : zSp := fun av S Q => av = [.ref 1] ∧ Q (some (.int (S.1 9 1))) S
set_option maxHeartbeats 4000000 in
set_option maxRecDepth 100000 in
theorem tX0_groupKey : zM yX0_groupKey cX0_groupKey 1 (some .int) 0 spX0_groupKey := by
  refine zM.of (by decide) (by decide) (fun av S Q h => by obtain ⟨rfl, hQ⟩ := h; exact Nat.le_of_ble_eq_true rfl) (fun C τ ι av S Q Qr h hr hC hE => ?_)
  obtain ⟨rfl, hQ⟩ := h
  show zR C τ ι _ 0 0 0 [(0, .ref 1)] [] _
  refine zr_aload_n hC dX0_groupKey_0 rfl ?_
  refine zs_getr hC dX0_groupKey_1 fl_X0_21 (a := 1) (r := 5) rfl (by decide) ?_
  refine zs_getr hC dX0_groupKey_4 fl_X0_87 (a := 5) (r := 9) rfl (by decide) ?_
  refine zk_iconst hC dX0_groupKey_7 (v := nI 1) (by decide +kernel) ?_
  refine zs_iald hC dX0_groupKey_8 (a := 9) (n := 32) rfl (by decide) (by decide) (j := 1) rfl (by decide) ?_
  exact zr_ireturn hC hE dX0_groupKey_9 (hr _ _ (hQ))
def spX0_unread : zSp := fun av S Q => ∃ (m a b : Nat), av = [.ref 1, .int (nI m)] ∧ m < 16 ∧ S.1 10 0 = nI a ∧ S.1 16 m = nI b ∧ b ≤ a ∧ Q (some (.int (nI (a - b)))) S
set_option maxHeartbeats 4000000 in
set_option maxRecDepth 100000 in
theorem tX0_unread : zM yX0_unread cX0_unread 2 (some .int) 0 spX0_unread := by
  refine zM.of (by decide) (by decide) (fun av S Q h => by obtain ⟨m, a, b, rfl, hm, ha, hb, hab, hQ⟩ := h; exact Nat.le_of_ble_eq_true rfl) (fun C τ ι av S Q Qr h hr hC hE => ?_)
  obtain ⟨m, a, b, rfl, hm, ha, hb, hab, hQ⟩ := h
  show zR C τ ι _ 0 0 0 [(0, .ref 1), (1, .int (nI m))] [] _
  refine zr_aload_n hC dX0_unread_0 rfl ?_
  refine zs_getr hC dX0_unread_1 fl_X0_28 (a := 1) (r := 10) rfl (by decide) ?_
  refine zv_geti hC dX0_unread_4 fl_X0_84 (a := 10) rfl (by decide) (ha) ?_
  refine zr_aload_n hC dX0_unread_7 rfl ?_
  refine zs_getr hC dX0_unread_8 fl_X0_43 (a := 1) (r := 16) rfl (by decide) ?_
  refine zr_iload_n hC dX0_unread_11 rfl ?_
  refine zv_iald hC dX0_unread_12 (a := 16) (n := 16) rfl (by decide) (by decide) (j := m) rfl hm (hb) ?_
  refine zn_isub hC dX0_unread_13 (pk_sub hab) ?_
  exact zr_ireturn hC hE dX0_unread_14 (hr _ _ (hQ))
def spX0_mayCome : zSp := fun av S Q => ∃ (m : Nat) (D : zD), av = [.ref 1, .int (nI m)] ∧ m < 16 ∧ SR S 2 (D 0) ∧ MRs S D ∧ ∀ r, (r = nI 1 ∧ D 0 m = 0 ∧ D 1 m ≠ 1) ∨ (r = nI 0 ∧ ¬ (D 0 m = 0 ∧ D 1 m ≠ 1)) → Q (some (.int r)) S
set_option maxHeartbeats 4000000 in
set_option maxRecDepth 100000 in
theorem tX0_mayCome : zM yX0_mayCome cX0_mayCome 2 (some .boolean) 2 spX0_mayCome := by
  refine zM.of (by decide) (by decide) (fun av S Q h => by obtain ⟨m, D, rfl, hm, hS, hM, hQ⟩ := h; exact Nat.le_of_ble_eq_true rfl) (fun C τ ι av S Q Qr h hr hC hE => ?_)
  obtain ⟨m, D, rfl, hm, hS, hM, hQ⟩ := h
  show zR C τ ι _ 0 0 0 [(0, .ref 1), (1, .int (nI m))] [] _
  refine zr_aload_n hC dX0_mayCome_0 rfl ?_
  refine zs_getr hC dX0_mayCome_1 fl_X0_12 (a := 1) (r := 2) rfl (by decide) ?_
  refine zr_iload_n hC dX0_mayCome_4 rfl ?_
  refine zs_callV hC (b := 2) [_] [] dX0_mayCome_5 ml_X0_90 mtX5_sits tX5_sits (by decide) (by decide) (by decide) rfl rfl (by decide) (by decide +kernel) (Nat.le_of_ble_eq_true rfl) rfl ?_
  refine ⟨2, m, rfl, Or.inl rfl, hm, fun r e => ?_⟩
  rcases e with ⟨rfl, hx⟩ | ⟨rfl, hx⟩
  · have hx1 : D 0 m ≠ 0 := fun h => hx ((hS.at0 hm).mpr h)
    dsimp only [Option.toList, List.cons_append, List.nil_append]
    refine zr_if_ne hC dX0_mayCome_8 (tgt := 26) (by decide) (fun c_8 => ?_) (fun c => absurd c (by decide +kernel))
    refine zk_iconst hC dX0_mayCome_26 (v := nI 0) (by decide +kernel) ?_
    exact zr_zreturn hC hE dX0_mayCome_27 (by first | exact Or.inl rfl | exact Or.inr rfl) (hr _ _ (hQ _ (by first | exact Or.inl ⟨rfl, by omega⟩ | exact Or.inr ⟨rfl, by omega⟩)))
  · have hx1 : D 0 m = 0 := (hS.at0 hm).mp hx
    dsimp only [Option.toList, List.cons_append, List.nil_append]
    refine zr_if_ne hC dX0_mayCome_8 (tgt := 26) (by decide) (fun c => absurd c (by decide +kernel)) (fun c_8 => ?_)
    refine zr_aload_n hC dX0_mayCome_11 rfl ?_
    refine zv_geti hC dX0_mayCome_12 fl_X0_62 (a := 1) rfl (by decide) (hM.1) ?_
    refine zr_iload_n hC dX0_mayCome_15 rfl ?_
    refine zs_callSN hC [_, _] [] dX0_mayCome_16 mn_X0_94 mtX8_has tX8_has (by decide) (by decide) (by decide) rfl (Nat.le_of_ble_eq_true rfl) rfl ?_
    refine ⟨_, m, rfl, by omega, fun r e2 => ?_⟩
    have e := e2
    rcases e with ⟨rfl, hy⟩ | ⟨rfl, hy⟩
    · rw [dm_b1 hm] at hy
      dsimp only [Option.toList, List.cons_append, List.nil_append]
      refine zr_if_ne hC dX0_mayCome_19 (tgt := 26) (by decide) (fun c_19 => ?_) (fun c => absurd c (by decide +kernel))
      refine zk_iconst hC dX0_mayCome_26 (v := nI 0) (by decide +kernel) ?_
      exact zr_zreturn hC hE dX0_mayCome_27 (by first | exact Or.inl rfl | exact Or.inr rfl) (hr _ _ (hQ _ (by first | exact Or.inl ⟨rfl, by omega⟩ | exact Or.inr ⟨rfl, by omega⟩)))
    · rw [dm_b0 hm] at hy
      dsimp only [Option.toList, List.cons_append, List.nil_append]
      refine zr_if_ne hC dX0_mayCome_19 (tgt := 26) (by decide) (fun c => absurd c (by decide +kernel)) (fun c_19 => ?_)
      refine zk_iconst hC dX0_mayCome_22 (v := nI 1) (by decide +kernel) ?_
      refine zr_goto hC dX0_mayCome_23 (tgt := 27) (by decide) ?_
      exact zr_zreturn hC hE dX0_mayCome_27 (by first | exact Or.inl rfl | exact Or.inr rfl) (hr _ _ (hQ _ (by first | exact Or.inl ⟨rfl, by omega⟩ | exact Or.inr ⟨rfl, by omega⟩)))
def spX0_mayLeave : zSp := fun av S Q => ∃ (m : Nat) (D : zD), av = [.ref 1, .int (nI m)] ∧ m < 16 ∧ SR S 2 (D 0) ∧ MRs S D ∧ ∀ r, (r = nI 1 ∧ D 0 m ≠ 0 ∧ D 1 m ≠ 2) ∨ (r = nI 0 ∧ ¬ (D 0 m ≠ 0 ∧ D 1 m ≠ 2)) → Q (some (.int r)) S
set_option maxHeartbeats 4000000 in
set_option maxRecDepth 100000 in
theorem tX0_mayLeave : zM yX0_mayLeave cX0_mayLeave 2 (some .boolean) 2 spX0_mayLeave := by
  refine zM.of (by decide) (by decide) (fun av S Q h => by obtain ⟨m, D, rfl, hm, hS, hM, hQ⟩ := h; exact Nat.le_of_ble_eq_true rfl) (fun C τ ι av S Q Qr h hr hC hE => ?_)
  obtain ⟨m, D, rfl, hm, hS, hM, hQ⟩ := h
  show zR C τ ι _ 0 0 0 [(0, .ref 1), (1, .int (nI m))] [] _
  refine zr_aload_n hC dX0_mayLeave_0 rfl ?_
  refine zs_getr hC dX0_mayLeave_1 fl_X0_12 (a := 1) (r := 2) rfl (by decide) ?_
  refine zr_iload_n hC dX0_mayLeave_4 rfl ?_
  refine zs_callV hC (b := 2) [_] [] dX0_mayLeave_5 ml_X0_90 mtX5_sits tX5_sits (by decide) (by decide) (by decide) rfl rfl (by decide) (by decide +kernel) (Nat.le_of_ble_eq_true rfl) rfl ?_
  refine ⟨2, m, rfl, Or.inl rfl, hm, fun r e => ?_⟩
  rcases e with ⟨rfl, hx⟩ | ⟨rfl, hx⟩
  · have hx1 : D 0 m ≠ 0 := fun h => hx ((hS.at0 hm).mpr h)
    dsimp only [Option.toList, List.cons_append, List.nil_append]
    refine zr_if_eq hC dX0_mayLeave_8 (tgt := 26) (by decide) (fun c => absurd c (by decide +kernel)) (fun c_8 => ?_)
    refine zr_aload_n hC dX0_mayLeave_11 rfl ?_
    refine zv_geti hC dX0_mayLeave_12 fl_X0_65 (a := 1) rfl (by decide) (hM.2.1) ?_
    refine zr_iload_n hC dX0_mayLeave_15 rfl ?_
    refine zs_callSN hC [_, _] [] dX0_mayLeave_16 mn_X0_94 mtX8_has tX8_has (by decide) (by decide) (by decide) rfl (Nat.le_of_ble_eq_true rfl) rfl ?_
    refine ⟨_, m, rfl, by omega, fun r e2 => ?_⟩
    have e := e2
    rcases e with ⟨rfl, hy⟩ | ⟨rfl, hy⟩
    · rw [dm_b1 hm] at hy
      dsimp only [Option.toList, List.cons_append, List.nil_append]
      refine zr_if_ne hC dX0_mayLeave_19 (tgt := 26) (by decide) (fun c_19 => ?_) (fun c => absurd c (by decide +kernel))
      refine zk_iconst hC dX0_mayLeave_26 (v := nI 0) (by decide +kernel) ?_
      exact zr_zreturn hC hE dX0_mayLeave_27 (by first | exact Or.inl rfl | exact Or.inr rfl) (hr _ _ (hQ _ (by first | exact Or.inl ⟨rfl, by omega⟩ | exact Or.inr ⟨rfl, by omega⟩)))
    · rw [dm_b0 hm] at hy
      dsimp only [Option.toList, List.cons_append, List.nil_append]
      refine zr_if_ne hC dX0_mayLeave_19 (tgt := 26) (by decide) (fun c => absurd c (by decide +kernel)) (fun c_19 => ?_)
      refine zk_iconst hC dX0_mayLeave_22 (v := nI 1) (by decide +kernel) ?_
      refine zr_goto hC dX0_mayLeave_23 (tgt := 27) (by decide) ?_
      exact zr_zreturn hC hE dX0_mayLeave_27 (by first | exact Or.inl rfl | exact Or.inr rfl) (hr _ _ (hQ _ (by first | exact Or.inl ⟨rfl, by omega⟩ | exact Or.inr ⟨rfl, by omega⟩)))
  · have hx1 : D 0 m = 0 := (hS.at0 hm).mp hx
    dsimp only [Option.toList, List.cons_append, List.nil_append]
    refine zr_if_eq hC dX0_mayLeave_8 (tgt := 26) (by decide) (fun c_8 => ?_) (fun c => absurd c (by decide +kernel))
    refine zk_iconst hC dX0_mayLeave_26 (v := nI 0) (by decide +kernel) ?_
    exact zr_zreturn hC hE dX0_mayLeave_27 (by first | exact Or.inl rfl | exact Or.inr rfl) (hr _ _ (hQ _ (by first | exact Or.inl ⟨rfl, by omega⟩ | exact Or.inr ⟨rfl, by omega⟩)))
def spX0_isAwake : zSp := fun av S Q => ∃ (m : Nat) (D : zD), av = [.ref 1, .int (nI m)] ∧ m < 16 ∧ SR S 2 (D 0) ∧ MRs S D ∧ ∀ r, (r = nI 1 ∧ D 0 m ≠ 0 ∧ D 2 m ≠ 1) ∨ (r = nI 0 ∧ ¬ (D 0 m ≠ 0 ∧ D 2 m ≠ 1)) → Q (some (.int r)) S
set_option maxHeartbeats 4000000 in
set_option maxRecDepth 100000 in
theorem tX0_isAwake : zM yX0_isAwake cX0_isAwake 2 (some .boolean) 2 spX0_isAwake := by
  refine zM.of (by decide) (by decide) (fun av S Q h => by obtain ⟨m, D, rfl, hm, hS, hM, hQ⟩ := h; exact Nat.le_of_ble_eq_true rfl) (fun C τ ι av S Q Qr h hr hC hE => ?_)
  obtain ⟨m, D, rfl, hm, hS, hM, hQ⟩ := h
  show zR C τ ι _ 0 0 0 [(0, .ref 1), (1, .int (nI m))] [] _
  refine zr_aload_n hC dX0_isAwake_0 rfl ?_
  refine zs_getr hC dX0_isAwake_1 fl_X0_12 (a := 1) (r := 2) rfl (by decide) ?_
  refine zr_iload_n hC dX0_isAwake_4 rfl ?_
  refine zs_callV hC (b := 2) [_] [] dX0_isAwake_5 ml_X0_90 mtX5_sits tX5_sits (by decide) (by decide) (by decide) rfl rfl (by decide) (by decide +kernel) (Nat.le_of_ble_eq_true rfl) rfl ?_
  refine ⟨2, m, rfl, Or.inl rfl, hm, fun r e => ?_⟩
  rcases e with ⟨rfl, hx⟩ | ⟨rfl, hx⟩
  · have hx1 : D 0 m ≠ 0 := fun h => hx ((hS.at0 hm).mpr h)
    dsimp only [Option.toList, List.cons_append, List.nil_append]
    refine zr_if_eq hC dX0_isAwake_8 (tgt := 26) (by decide) (fun c => absurd c (by decide +kernel)) (fun c_8 => ?_)
    refine zr_aload_n hC dX0_isAwake_11 rfl ?_
    refine zv_geti hC dX0_isAwake_12 fl_X0_68 (a := 1) rfl (by decide) (hM.2.2) ?_
    refine zr_iload_n hC dX0_isAwake_15 rfl ?_
    refine zs_callSN hC [_, _] [] dX0_isAwake_16 mn_X0_94 mtX8_has tX8_has (by decide) (by decide) (by decide) rfl (Nat.le_of_ble_eq_true rfl) rfl ?_
    refine ⟨_, m, rfl, by omega, fun r e2 => ?_⟩
    have e := e2
    rcases e with ⟨rfl, hy⟩ | ⟨rfl, hy⟩
    · rw [dm_b1 hm] at hy
      dsimp only [Option.toList, List.cons_append, List.nil_append]
      refine zr_if_ne hC dX0_isAwake_19 (tgt := 26) (by decide) (fun c_19 => ?_) (fun c => absurd c (by decide +kernel))
      refine zk_iconst hC dX0_isAwake_26 (v := nI 0) (by decide +kernel) ?_
      exact zr_zreturn hC hE dX0_isAwake_27 (by first | exact Or.inl rfl | exact Or.inr rfl) (hr _ _ (hQ _ (by first | exact Or.inl ⟨rfl, by omega⟩ | exact Or.inr ⟨rfl, by omega⟩)))
    · rw [dm_b0 hm] at hy
      dsimp only [Option.toList, List.cons_append, List.nil_append]
      refine zr_if_ne hC dX0_isAwake_19 (tgt := 26) (by decide) (fun c => absurd c (by decide +kernel)) (fun c_19 => ?_)
      refine zk_iconst hC dX0_isAwake_22 (v := nI 1) (by decide +kernel) ?_
      refine zr_goto hC dX0_isAwake_23 (tgt := 27) (by decide) ?_
      exact zr_zreturn hC hE dX0_isAwake_27 (by first | exact Or.inl rfl | exact Or.inr rfl) (hr _ _ (hQ _ (by first | exact Or.inl ⟨rfl, by omega⟩ | exact Or.inr ⟨rfl, by omega⟩)))
  · have hx1 : D 0 m = 0 := (hS.at0 hm).mp hx
    dsimp only [Option.toList, List.cons_append, List.nil_append]
    refine zr_if_eq hC dX0_isAwake_8 (tgt := 26) (by decide) (fun c_8 => ?_) (fun c => absurd c (by decide +kernel))
    refine zk_iconst hC dX0_isAwake_26 (v := nI 0) (by decide +kernel) ?_
    exact zr_zreturn hC hE dX0_isAwake_27 (by first | exact Or.inl rfl | exact Or.inr rfl) (hr _ _ (hQ _ (by first | exact Or.inl ⟨rfl, by omega⟩ | exact Or.inr ⟨rfl, by omega⟩)))
def spX0_isAsleep : zSp := fun av S Q => ∃ (m : Nat) (D : zD), av = [.ref 1, .int (nI m)] ∧ m < 16 ∧ MRs S D ∧ ∀ r, (r = nI 1 ∧ D 2 m = 1) ∨ (r = nI 0 ∧ D 2 m ≠ 1) → Q (some (.int r)) S
set_option maxHeartbeats 4000000 in
set_option maxRecDepth 100000 in
theorem tX0_isAsleep : zM yX0_isAsleep cX0_isAsleep 2 (some .boolean) 2 spX0_isAsleep := by
  refine zM.of (by decide) (by decide) (fun av S Q h => by obtain ⟨m, D, rfl, hm, hM, hQ⟩ := h; exact Nat.le_of_ble_eq_true rfl) (fun C τ ι av S Q Qr h hr hC hE => ?_)
  obtain ⟨m, D, rfl, hm, hM, hQ⟩ := h
  show zR C τ ι _ 0 0 0 [(0, .ref 1), (1, .int (nI m))] [] _
  refine zr_aload_n hC dX0_isAsleep_0 rfl ?_
  refine zv_geti hC dX0_isAsleep_1 fl_X0_68 (a := 1) rfl (by decide) (hM.2.2) ?_
  refine zr_iload_n hC dX0_isAsleep_4 rfl ?_
  refine zs_callSN hC [_, _] [] dX0_isAsleep_5 mn_X0_94 mtX8_has tX8_has (by decide) (by decide) (by decide) rfl (Nat.le_of_ble_eq_true rfl) rfl ?_
  refine ⟨_, m, rfl, by omega, fun r e => ?_⟩
  rcases e with ⟨rfl, hy⟩ | ⟨rfl, hy⟩
  · rw [dm_b1 hm] at hy
    dsimp only [Option.toList, List.cons_append, List.nil_append]
    exact zr_zreturn hC hE dX0_isAsleep_8 (by first | exact Or.inl rfl | exact Or.inr rfl) (hr _ _ (hQ _ (by first | exact Or.inl ⟨rfl, hy⟩ | exact Or.inr ⟨rfl, hy⟩)))
  · rw [dm_b0 hm] at hy
    dsimp only [Option.toList, List.cons_append, List.nil_append]
    exact zr_zreturn hC hE dX0_isAsleep_8 (by first | exact Or.inl rfl | exact Or.inr rfl) (hr _ _ (hQ _ (by first | exact Or.inl ⟨rfl, hy⟩ | exact Or.inr ⟨rfl, hy⟩)))
def spX0_fullRefusal : zSp := fun av S Q => ∃ (D : zD), av = [.ref 1] ∧ S.1 5 0 = nI (D 6 0) ∧ S.1 10 0 = nI (D 6 1) ∧ D 6 0 < 1000 ∧ D 6 1 < 1000 ∧ Q (some (.int (ful D))) S
set_option maxHeartbeats 4000000 in
set_option maxRecDepth 100000 in
theorem tX0_fullRefusal : zM yX0_fullRefusal cX0_fullRefusal 1 (some .int) 0 spX0_fullRefusal := by
  refine zM.of (by decide) (by decide) (fun av S Q h => by obtain ⟨D, rfl, hK, hL, h60, h61, hQ⟩ := h; exact Nat.le_of_ble_eq_true rfl) (fun C τ ι av S Q Qr h hr hC hE => ?_)
  obtain ⟨D, rfl, hK, hL, h60, h61, hQ⟩ := h
  show zR C τ ι _ 0 0 0 [(0, .ref 1)] [] _
  refine zr_aload_n hC dX0_fullRefusal_0 rfl ?_
  refine zs_getr hC dX0_fullRefusal_1 fl_X0_21 (a := 1) (r := 5) rfl (by decide) ?_
  refine zv_geti hC dX0_fullRefusal_4 fl_X0_108 (a := 5) rfl (by decide) (hK) ?_
  refine zk_sipush hC dX0_fullRefusal_7 (v := nI 200) (by decide +kernel) ?_
  refine zr_icmp_ge hC dX0_fullRefusal_10 (tgt := 26) (by decide) (fun c_10 => ?_) (fun c_10 => ?_)
  · rw [nI_leI (by decide) (by omega)] at c_10
    refine zk_bipush hC dX0_fullRefusal_26 (v := (-3)) (by decide +kernel) ?_
    refine zr_goto hC dX0_fullRefusal_28 (tgt := 32) (by decide) ?_
    exact zr_ireturn hC hE dX0_fullRefusal_32 (hr _ _ (by first | (rw [show ful D = -3 from if_pos (by omega)] at hQ; exact hQ) | (rw [show ful D = nI 0 from if_neg (by omega)] at hQ; exact hQ)))
  · rw [z_nle (by decide) (by omega)] at c_10
    refine zr_aload_n hC dX0_fullRefusal_13 rfl ?_
    refine zs_getr hC dX0_fullRefusal_14 fl_X0_28 (a := 1) (r := 10) rfl (by decide) ?_
    refine zv_geti hC dX0_fullRefusal_17 fl_X0_84 (a := 10) rfl (by decide) (hL) ?_
    refine zk_sipush hC dX0_fullRefusal_20 (v := nI 160) (by decide +kernel) ?_
    refine zr_icmp_lt hC dX0_fullRefusal_23 (tgt := 31) (by decide) (fun c_23 => ?_) (fun c_23 => ?_)
    · rw [nI_ltI (by omega) (by decide)] at c_23
      refine zk_iconst hC dX0_fullRefusal_31 (v := nI 0) (by decide +kernel) ?_
      exact zr_ireturn hC hE dX0_fullRefusal_32 (hr _ _ (by first | (rw [show ful D = -3 from if_pos (by omega)] at hQ; exact hQ) | (rw [show ful D = nI 0 from if_neg (by omega)] at hQ; exact hQ)))
    · rw [z_nlt (by omega) (by decide)] at c_23
      refine zk_bipush hC dX0_fullRefusal_26 (v := (-3)) (by decide +kernel) ?_
      refine zr_goto hC dX0_fullRefusal_28 (tgt := 32) (by decide) ?_
      exact zr_ireturn hC hE dX0_fullRefusal_32 (hr _ _ (by first | (rw [show ful D = -3 from if_pos (by omega)] at hQ; exact hQ) | (rw [show ful D = nI 0 from if_neg (by omega)] at hQ; exact hQ)))
def spX0_batchRefusal : zSp := fun av S Q => ∃ (D : zD), av = [.ref 1] ∧ MRs S D ∧ S.1 5 0 = nI (D 6 0) ∧ S.1 10 0 = nI (D 6 1) ∧ D 6 0 < 1000 ∧ D 6 1 < 1000 ∧ Q (some (.int (brf D))) S
set_option maxHeartbeats 4000000 in
set_option maxRecDepth 100000 in
theorem tX0_batchRefusal : zM yX0_batchRefusal cX0_batchRefusal 1 (some .int) 1 spX0_batchRefusal := by
  refine zM.of (by decide) (by decide) (fun av S Q h => by obtain ⟨D, rfl, hM, hK, hL, h60, h61, hQ⟩ := h; exact Nat.le_of_ble_eq_true rfl) (fun C τ ι av S Q Qr h hr hC hE => ?_)
  obtain ⟨D, rfl, hM, hK, hL, h60, h61, hQ⟩ := h
  show zR C τ ι _ 0 0 0 [(0, .ref 1)] [] _
  refine zr_aload_n hC dX0_batchRefusal_0 rfl ?_
  refine zv_geti hC dX0_batchRefusal_1 fl_X0_62 (a := 1) rfl (by decide) (hM.1) ?_
  refine zr_if_ne hC dX0_batchRefusal_4 (tgt := 17) (by decide) (fun c_4 => ?_) (fun c_4 => ?_)
  · rw [z_eq0 (Nat.lt_trans (dm_lt _) (by decide))] at c_4
    refine zr_aload_n hC dX0_batchRefusal_17 rfl ?_
    refine zs_callV hC (b := 1) [] [] dX0_batchRefusal_18 ml_X0_98 mtX0_fullRefusal tX0_fullRefusal (by decide) (by decide) (by decide) rfl rfl (by decide) (by decide +kernel) (Nat.le_of_ble_eq_true rfl) rfl ?_
    refine ⟨D, rfl, hK, hL, h60, h61, ?_⟩
    dsimp only [Option.toList, List.cons_append, List.nil_append]
    exact zr_ireturn hC hE dX0_batchRefusal_21 (hr _ _ (by first | (rw [show brf D = -2 from if_pos ⟨c_4, c_11⟩] at hQ; exact hQ) | (rw [show brf D = ful D from if_neg (fun q => c_4 q.1)] at hQ; exact hQ) | (rw [show brf D = ful D from if_neg (fun q => c_11 q.2)] at hQ; exact hQ)))
  · rw [z_eq0 (Nat.lt_trans (dm_lt _) (by decide))] at c_4
    refine zr_aload_n hC dX0_batchRefusal_7 rfl ?_
    refine zv_geti hC dX0_batchRefusal_8 fl_X0_65 (a := 1) rfl (by decide) (hM.2.1) ?_
    refine zr_if_ne hC dX0_batchRefusal_11 (tgt := 17) (by decide) (fun c_11 => ?_) (fun c_11 => ?_)
    · rw [z_eq0 (Nat.lt_trans (dm_lt _) (by decide))] at c_11
      refine zr_aload_n hC dX0_batchRefusal_17 rfl ?_
      refine zs_callV hC (b := 1) [] [] dX0_batchRefusal_18 ml_X0_98 mtX0_fullRefusal tX0_fullRefusal (by decide) (by decide) (by decide) rfl rfl (by decide) (by decide +kernel) (Nat.le_of_ble_eq_true rfl) rfl ?_
      refine ⟨D, rfl, hK, hL, h60, h61, ?_⟩
      dsimp only [Option.toList, List.cons_append, List.nil_append]
      exact zr_ireturn hC hE dX0_batchRefusal_21 (hr _ _ (by first | (rw [show brf D = -2 from if_pos ⟨c_4, c_11⟩] at hQ; exact hQ) | (rw [show brf D = ful D from if_neg (fun q => c_4 q.1)] at hQ; exact hQ) | (rw [show brf D = ful D from if_neg (fun q => c_11 q.2)] at hQ; exact hQ)))
    · rw [z_eq0 (Nat.lt_trans (dm_lt _) (by decide))] at c_11
      refine zk_bipush hC dX0_batchRefusal_14 (v := (-2)) (by decide +kernel) ?_
      exact zr_ireturn hC hE dX0_batchRefusal_16 (hr _ _ (by first | (rw [show brf D = -2 from if_pos ⟨c_4, c_11⟩] at hQ; exact hQ) | (rw [show brf D = ful D from if_neg (fun q => c_4 q.1)] at hQ; exact hQ) | (rw [show brf D = ful D from if_neg (fun q => c_11 q.2)] at hQ; exact hQ)))
theorem cms_add {D : zD} {m : Nat} (hm : m < 16) : nI (cms D) ||| nI (2 ^ m) = nI (cms (dset D 1 m 1)) := by
  rw [fa_or, dm_or hm]
  congr 1
  refine dm_ext fun j _ => ?_
  by_cases h : j = m
  · subst h; simp [dset_at]
  · rw [dset_k _ _ _ h]; simp [h]
theorem lvs_add {D : zD} {m : Nat} (hm : m < 16) : nI (lvs D) ||| nI (2 ^ m) = nI (lvs (dset D 1 m 2)) := by
  rw [fa_or, dm_or hm]
  congr 1
  refine dm_ext fun j _ => ?_
  by_cases h : j = m
  · subst h; simp [dset_at]
  · rw [dset_k _ _ _ h]; simp [h]
theorem sls_add {D : zD} {m : Nat} (hm : m < 16) : nI (sls D) ||| nI (2 ^ m) = nI (sls (dset D 2 m 1)) := by
  rw [fa_or, dm_or hm]
  congr 1
  refine dm_ext fun j _ => ?_
  by_cases h : j = m
  · subst h; simp [dset_at]
  · rw [dset_k _ _ _ h]; simp [h]
theorem sls_sub {D : zD} {m : Nat} : nI (sls D) &&& (nI (2 ^ m) ^^^ (-1)) = nI (sls (dset D 2 m 0)) := by
  rw [z_andn, dmn_an (by decide)]
  congr 1
  refine dm_ext fun j _ => ?_
  by_cases h : j = m
  · subst h; simp [dset_at]
  · rw [dset_k _ _ _ h]; simp [h]
theorem tld_oth {D : zD} {m x c : Nat} (h0 : D 1 m ≠ c) (h1 : x ≠ c) : (dm fun j => dset D 1 m x 1 j == c) = dm fun j => D 1 j == c := by
  refine dm_ext fun j _ => ?_
  by_cases h : j = m
  · subst h; rw [dset_at, beq_eq_false_iff_ne.mpr h0, beq_eq_false_iff_ne.mpr h1]
  · rw [dset_k _ _ _ h]
/-- a field of the book's own is written: what stands elsewhere stays -/
theorem CR.put1 {S : zS} {D D' : zD} (h : CR S D) {k : Nat} {x : Int32} (e0 : D' 0 = D 0) (e6 : D' 6 = D 6) (e7 : D' 7 = D 7) (e8 : D' 8 = D 8) (e9 : D' 9 = D 9) (e10 : D' 10 = D 10) (e11 : D' 11 = D 11) (e12 : D' 12 = D 12) (e3 : D' 3 = D 3) (e4 : D' 4 = D 4) (e5 : D' 5 = D 5) (hk : k ≠ 6 ∧ k ≠ 7) (hM : MRs (zput S 1 k x) D') : CR (zput S 1 k x) D' := by
  obtain ⟨hS, hK, hO, hL, -, hQ, hA⟩ := h
  refine ⟨?_, ?_, ?_, ?_, hM, ?_, ?_⟩
  · rw [e0]; exact hS.kept (zput_ne _ _ (by decide)) (zput_ne _ _ (by decide))
  · unfold KR; rw [e6, e7, e8, e9, zput_ne _ _ (by decide), zput_ne _ _ (by decide), zput_ne _ _ (by decide), zput_ne _ _ (by decide)]; exact hK
  · intro v h1 h2
    rw [zput_ne _ _ (by decide), hO v h1 h2]
    unfold kof
    rw [e0]
    have : ∀ n, lastk D' v n = lastk D v n := by
      intro n
      induction n with
      | zero => rfl
      | succ n ih => unfold lastk; rw [e7, ih]
    unfold key
    rw [this, e6]
  · unfold LR; rw [e6, e10, e11, e12, zput_ne _ _ (by decide), zput_ne _ _ (by decide), zput_ne _ _ (by decide), zput_ne _ _ (by decide)]; exact hL
  · unfold QR; rw [e6, zput_k _ _ (Ne.symm hk.1), zput_k _ _ (Ne.symm hk.2)]; exact hQ
  · unfold AR; rw [e0, e3, e4, e5, zput_ne _ _ (by decide), zput_ne _ _ (by decide), zput_ne _ _ (by decide)]; exact hA
theorem CR.come {S : zS} {D : zD} (h : CR S D) {m : Nat} (hm : m < 16) (h0 : D 1 m = 0) : CR (zput S 1 3 (nI (cms (dset D 1 m 1)))) (dset D 1 m 1) := by
  refine h.put1 (dset_ff _ _ _ (by decide)) (dset_ff _ _ _ (by decide)) (dset_ff _ _ _ (by decide)) (dset_ff _ _ _ (by decide)) (dset_ff _ _ _ (by decide)) (dset_ff _ _ _ (by decide)) (dset_ff _ _ _ (by decide)) (dset_ff _ _ _ (by decide)) (dset_ff _ _ _ (by decide)) (dset_ff _ _ _ (by decide)) (dset_ff _ _ _ (by decide)) ⟨by decide, by decide⟩ ⟨zput_at _ _ _ _, ?_, ?_⟩
  · rw [zput_k _ _ (by decide), h.ms.2.1]
    exact congrArg nI (tld_oth (by omega) (by decide)).symm
  · rw [zput_k _ _ (by decide), h.ms.2.2]; rfl
theorem CR.leave {S : zS} {D : zD} (h : CR S D) {m : Nat} (hm : m < 16) (h0 : D 1 m = 0) : CR (zput S 1 4 (nI (lvs (dset D 1 m 2)))) (dset D 1 m 2) := by
  refine h.put1 (dset_ff _ _ _ (by decide)) (dset_ff _ _ _ (by decide)) (dset_ff _ _ _ (by decide)) (dset_ff _ _ _ (by decide)) (dset_ff _ _ _ (by decide)) (dset_ff _ _ _ (by decide)) (dset_ff _ _ _ (by decide)) (dset_ff _ _ _ (by decide)) (dset_ff _ _ _ (by decide)) (dset_ff _ _ _ (by decide)) (dset_ff _ _ _ (by decide)) ⟨by decide, by decide⟩ ⟨?_, zput_at _ _ _ _, ?_⟩
  · rw [zput_k _ _ (by decide), h.ms.1]
    exact congrArg nI (tld_oth (by omega) (by decide)).symm
  · rw [zput_k _ _ (by decide), h.ms.2.2]; rfl
theorem CR.sleep {S : zS} {D : zD} (h : CR S D) {m x : Nat} : CR (zput S 1 5 (nI (sls (dset D 2 m x)))) (dset D 2 m x) := by
  refine h.put1 (dset_ff _ _ _ (by decide)) (dset_ff _ _ _ (by decide)) (dset_ff _ _ _ (by decide)) (dset_ff _ _ _ (by decide)) (dset_ff _ _ _ (by decide)) (dset_ff _ _ _ (by decide)) (dset_ff _ _ _ (by decide)) (dset_ff _ _ _ (by decide)) (dset_ff _ _ _ (by decide)) (dset_ff _ _ _ (by decide)) (dset_ff _ _ _ (by decide)) ⟨by decide, by decide⟩ ⟨?_, ?_, zput_at _ _ _ _⟩
  · rw [zput_k _ _ (by decide), h.ms.1]; rfl
  · rw [zput_k _ _ (by decide), h.ms.2.1]; rfl
def spX0_addComer : zSp := fun av S Q => ∃ (m : Nat) (D : zD), av = [.ref 1, .int (nI m)] ∧ m < 16 ∧ CR S D ∧ D 1 m = 0 ∧ ∀ S', CR S' (dset D 1 m 1) → zfrm 1 17 S S' → Q none S'
set_option maxHeartbeats 4000000 in
set_option maxRecDepth 100000 in
theorem tX0_addComer : zM yX0_addComer cX0_addComer 2 none 0 spX0_addComer := by
  refine zM.of (by decide) (by decide) (fun av S Q h => by obtain ⟨m, D, rfl, hm, hCR, h0, hQ⟩ := h; exact Nat.le_of_ble_eq_true rfl) (fun C τ ι av S Q Qr h hr hC hE => ?_)
  obtain ⟨m, D, rfl, hm, hCR, h0, hQ⟩ := h
  show zR C τ ι _ 0 0 0 [(0, .ref 1), (1, .int (nI m))] [] _
  refine zr_aload_n hC dX0_addComer_0 rfl ?_
  refine zr_dup hC dX0_addComer_1 rfl ?_
  refine zv_geti hC dX0_addComer_2 fl_X0_62 (a := 1) rfl (by decide) (hCR.ms.1) ?_
  refine zk_iconst hC dX0_addComer_5 (v := nI 1) (by decide +kernel) ?_
  refine zr_iload_n hC dX0_addComer_6 rfl ?_
  refine zn_ishl hC dX0_addComer_7 (z_shl1 m (by omega)) ?_
  refine zn_ior hC dX0_addComer_8 (cms_add hm) ?_
  refine zs_puti hC dX0_addComer_9 fl_X0_62 fp_X0_3 (a := 1) rfl (by decide) ?_
  exact zr_vreturn hC hE dX0_addComer_12 (hr _ _ (hQ _ (hCR.come hm h0) (zfrm.rf.put (by decide) (by decide))))
def spX0_addLeaver : zSp := fun av S Q => ∃ (m : Nat) (D : zD), av = [.ref 1, .int (nI m)] ∧ m < 16 ∧ CR S D ∧ D 1 m = 0 ∧ ∀ S', CR S' (dset D 1 m 2) → zfrm 1 17 S S' → Q none S'
set_option maxHeartbeats 4000000 in
set_option maxRecDepth 100000 in
theorem tX0_addLeaver : zM yX0_addLeaver cX0_addLeaver 2 none 0 spX0_addLeaver := by
  refine zM.of (by decide) (by decide) (fun av S Q h => by obtain ⟨m, D, rfl, hm, hCR, h0, hQ⟩ := h; exact Nat.le_of_ble_eq_true rfl) (fun C τ ι av S Q Qr h hr hC hE => ?_)
  obtain ⟨m, D, rfl, hm, hCR, h0, hQ⟩ := h
  show zR C τ ι _ 0 0 0 [(0, .ref 1), (1, .int (nI m))] [] _
  refine zr_aload_n hC dX0_addLeaver_0 rfl ?_
  refine zr_dup hC dX0_addLeaver_1 rfl ?_
  refine zv_geti hC dX0_addLeaver_2 fl_X0_65 (a := 1) rfl (by decide) (hCR.ms.2.1) ?_
  refine zk_iconst hC dX0_addLeaver_5 (v := nI 1) (by decide +kernel) ?_
  refine zr_iload_n hC dX0_addLeaver_6 rfl ?_
  refine zn_ishl hC dX0_addLeaver_7 (z_shl1 m (by omega)) ?_
  refine zn_ior hC dX0_addLeaver_8 (lvs_add hm) ?_
  refine zs_puti hC dX0_addLeaver_9 fl_X0_65 fp_X0_4 (a := 1) rfl (by decide) ?_
  exact zr_vreturn hC hE dX0_addLeaver_12 (hr _ _ (hQ _ (hCR.leave hm h0) (zfrm.rf.put (by decide) (by decide))))
def spX0_fallAsleep : zSp := fun av S Q => ∃ (m : Nat) (D : zD), av = [.ref 1, .int (nI m)] ∧ m < 16 ∧ CR S D ∧ ∀ S', CR S' (dset D 2 m 1) → zfrm 1 17 S S' → Q (some (.int (nI 0))) S'
set_option maxHeartbeats 4000000 in
set_option maxRecDepth 100000 in
theorem tX0_fallAsleep : zM yX0_fallAsleep cX0_fallAsleep 2 (some .int) 0 spX0_fallAsleep := by
  refine zM.of (by decide) (by decide) (fun av S Q h => by obtain ⟨m, D, rfl, hm, hCR, hQ⟩ := h; exact Nat.le_of_ble_eq_true rfl) (fun C τ ι av S Q Qr h hr hC hE => ?_)
  obtain ⟨m, D, rfl, hm, hCR, hQ⟩ := h
  show zR C τ ι _ 0 0 0 [(0, .ref 1), (1, .int (nI m))] [] _
  refine zr_aload_n hC dX0_fallAsleep_0 rfl ?_
  refine zr_dup hC dX0_fallAsleep_1 rfl ?_
  refine zv_geti hC dX0_fallAsleep_2 fl_X0_68 (a := 1) rfl (by decide) (hCR.ms.2.2) ?_
  refine zk_iconst hC dX0_fallAsleep_5 (v := nI 1) (by decide +kernel) ?_
  refine zr_iload_n hC dX0_fallAsleep_6 rfl ?_
  refine zn_ishl hC dX0_fallAsleep_7 (z_shl1 m (by omega)) ?_
  refine zn_ior hC dX0_fallAsleep_8 (sls_add hm) ?_
  refine zs_puti hC dX0_fallAsleep_9 fl_X0_68 fp_X0_5 (a := 1) rfl (by decide) ?_
  refine zk_iconst hC dX0_fallAsleep_12 (v := nI 0) (by decide +kernel) ?_
  exact zr_ireturn hC hE dX0_fallAsleep_13 (hr _ _ (hQ _ hCR.sleep (zfrm.rf.put (by decide) (by decide))))
def spX0_tryCome : zSp := fun av S Q => ∃ (m : Nat) (D : zD), av = [.ref 1, .int (nI m)] ∧ m < 16 ∧ CR S D ∧ (D 1 m = 0 ∨ (D 1 m = 1 ∧ D 0 m = 0) ∨ (D 1 m = 2 ∧ D 0 m ≠ 0)) ∧ (¬ (D 0 m = 0 ∧ D 1 m ≠ 1) → Q (some (.int (nI 0))) S) ∧ (D 0 m = 0 ∧ D 1 m ≠ 1 → ∀ S', CR S' (dset D 1 m 1) → zfrm 1 17 S S' → Q (some (.int (nI 1))) S')
set_option maxHeartbeats 4000000 in
set_option maxRecDepth 100000 in
theorem tX0_tryCome : zM yX0_tryCome cX0_tryCome 2 (some .boolean) 3 spX0_tryCome := by
  refine zM.of (by decide) (by decide) (fun av S Q h => by obtain ⟨m, D, rfl, hm, hCR, ht, hQ0, hQ⟩ := h; exact Nat.le_of_ble_eq_true rfl) (fun C τ ι av S Q Qr h hr hC hE => ?_)
  obtain ⟨m, D, rfl, hm, hCR, ht, hQ0, hQ⟩ := h
  show zR C τ ι _ 0 0 0 [(0, .ref 1), (1, .int (nI m))] [] _
  refine zr_aload_n hC dX0_tryCome_0 rfl ?_
  refine zr_iload_n hC dX0_tryCome_1 rfl ?_
  refine zs_callV hC (b := 1) [_] [] dX0_tryCome_2 ml_X0_117 mtX0_mayCome tX0_mayCome (by decide) (by decide) (by decide) rfl rfl (by decide) (by decide +kernel) (Nat.le_of_ble_eq_true rfl) rfl ?_
  refine ⟨m, D, rfl, hm, hCR.sr, hCR.ms, fun r e => ?_⟩
  rcases e with ⟨rfl, hx⟩ | ⟨rfl, hx⟩
  · dsimp only [Option.toList, List.cons_append, List.nil_append]
    refine zr_if_ne hC dX0_tryCome_5 (tgt := 10) (by decide) (fun c_5 => ?_) (fun c => absurd c (by decide +kernel))
    refine zr_aload_n hC dX0_tryCome_10 rfl ?_
    refine zr_iload_n hC dX0_tryCome_11 rfl ?_
    refine zs_callV hC (b := 1) [_] [] dX0_tryCome_12 ml_X0_120 mtX0_addComer tX0_addComer (by decide) (by decide) (by decide) rfl rfl (by decide) (by decide +kernel) (Nat.le_of_ble_eq_true rfl) rfl ?_
    refine ⟨m, D, rfl, hm, hCR, by omega, fun S1 h1 h2 => ?_⟩
    dsimp only [Option.toList, List.nil_append]
    refine zk_iconst hC dX0_tryCome_15 (v := nI 1) (by decide +kernel) ?_
    exact zr_zreturn hC hE dX0_tryCome_16 (by first | exact Or.inl rfl | exact Or.inr rfl) (hr _ _ (by first | exact hQ hx _ h1 h2 | exact hQ0 hx))
  · dsimp only [Option.toList, List.cons_append, List.nil_append]
    refine zr_if_ne hC dX0_tryCome_5 (tgt := 10) (by decide) (fun c => absurd c (by decide +kernel)) (fun c_5 => ?_)
    refine zk_iconst hC dX0_tryCome_8 (v := nI 0) (by decide +kernel) ?_
    exact zr_zreturn hC hE dX0_tryCome_9 (by first | exact Or.inl rfl | exact Or.inr rfl) (hr _ _ (by first | exact hQ hx _ h1 h2 | exact hQ0 hx))
def spX0_tryLeave : zSp := fun av S Q => ∃ (m : Nat) (D : zD), av = [.ref 1, .int (nI m)] ∧ m < 16 ∧ CR S D ∧ (D 1 m = 0 ∨ (D 1 m = 1 ∧ D 0 m = 0) ∨ (D 1 m = 2 ∧ D 0 m ≠ 0)) ∧ (¬ (D 0 m ≠ 0 ∧ D 1 m ≠ 2) → Q (some (.int (nI 0))) S) ∧ (D 0 m ≠ 0 ∧ D 1 m ≠ 2 → ∀ S', CR S' (dset D 1 m 2) → zfrm 1 17 S S' → Q (some (.int (nI 1))) S')
set_option maxHeartbeats 4000000 in
set_option maxRecDepth 100000 in
theorem tX0_tryLeave : zM yX0_tryLeave cX0_tryLeave 2 (some .boolean) 3 spX0_tryLeave := by
  refine zM.of (by decide) (by decide) (fun av S Q h => by obtain ⟨m, D, rfl, hm, hCR, ht, hQ0, hQ⟩ := h; exact Nat.le_of_ble_eq_true rfl) (fun C τ ι av S Q Qr h hr hC hE => ?_)
  obtain ⟨m, D, rfl, hm, hCR, ht, hQ0, hQ⟩ := h
  show zR C τ ι _ 0 0 0 [(0, .ref 1), (1, .int (nI m))] [] _
  refine zr_aload_n hC dX0_tryLeave_0 rfl ?_
  refine zr_iload_n hC dX0_tryLeave_1 rfl ?_
  refine zs_callV hC (b := 1) [_] [] dX0_tryLeave_2 ml_X0_124 mtX0_mayLeave tX0_mayLeave (by decide) (by decide) (by decide) rfl rfl (by decide) (by decide +kernel) (Nat.le_of_ble_eq_true rfl) rfl ?_
  refine ⟨m, D, rfl, hm, hCR.sr, hCR.ms, fun r e => ?_⟩
  rcases e with ⟨rfl, hx⟩ | ⟨rfl, hx⟩
  · dsimp only [Option.toList, List.cons_append, List.nil_append]
    refine zr_if_ne hC dX0_tryLeave_5 (tgt := 10) (by decide) (fun c_5 => ?_) (fun c => absurd c (by decide +kernel))
    refine zr_aload_n hC dX0_tryLeave_10 rfl ?_
    refine zr_iload_n hC dX0_tryLeave_11 rfl ?_
    refine zs_callV hC (b := 1) [_] [] dX0_tryLeave_12 ml_X0_127 mtX0_addLeaver tX0_addLeaver (by decide) (by decide) (by decide) rfl rfl (by decide) (by decide +kernel) (Nat.le_of_ble_eq_true rfl) rfl ?_
    refine ⟨m, D, rfl, hm, hCR, by omega, fun S1 h1 h2 => ?_⟩
    dsimp only [Option.toList, List.nil_append]
    refine zk_iconst hC dX0_tryLeave_15 (v := nI 1) (by decide +kernel) ?_
    exact zr_zreturn hC hE dX0_tryLeave_16 (by first | exact Or.inl rfl | exact Or.inr rfl) (hr _ _ (by first | exact hQ hx _ h1 h2 | exact hQ0 hx))
  · dsimp only [Option.toList, List.cons_append, List.nil_append]
    refine zr_if_ne hC dX0_tryLeave_5 (tgt := 10) (by decide) (fun c => absurd c (by decide +kernel)) (fun c_5 => ?_)
    refine zk_iconst hC dX0_tryLeave_8 (v := nI 0) (by decide +kernel) ?_
    exact zr_zreturn hC hE dX0_tryLeave_9 (by first | exact Or.inl rfl | exact Or.inr rfl) (hr _ _ (by first | exact hQ hx _ h1 h2 | exact hQ0 hx))
