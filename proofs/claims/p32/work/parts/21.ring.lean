theorem zb_or (a b : Bool) : zb a ||| zb b = zb (a || b) := by cases a <;> cases b <;> decide +kernel
theorem zb_ne0 (a : Bool) : ¬ zb a = 0 ↔ a = true := by cases a <;> decide +kernel
theorem zb_eq0 (a : Bool) : zb a = 0 ↔ a = false := by cases a <;> decide +kernel
/-- the ring tells, of n keys, whether they are opened -/
def RG (S : zS) (f : Nat → Bool) (n : Nat) : Prop := S.1 235 1 = nI n ∧ n ≤ 232 ∧ ∀ k, k < n → S.1 236 k = zb (f k)
/-- keys that any of a set holds -/
def f0 (D : zD) (s : Nat) : Nat → Bool := fun k => !(D 9 k &&& s == 0)
/-- letter i opened, if that goes -/
def op1 (D : zD) (f : Nat → Bool) (i : Nat) : Nat → Bool := fun j => f j || (j == D 10 i && f (D 11 i))
def opf (D : zD) (f : Nat → Bool) : Nat → (Nat → Bool) × Bool
  | 0 => (f, false)
  | i + 1 => (op1 D (opf D f i).1 i, (opf D f i).2 || ((opf D f i).1 (D 11 i) && !(opf D f i).1 (D 10 i)))
def opr (D : zD) (f : Nat → Bool) : Nat → (Nat → Bool) × Bool
  | 0 => (f, true)
  | r + 1 => if (opr D f r).2 = true then opf D (opr D f r).1 (D 6 1) else opr D f r
theorem opr_stop {D : zD} {f : Nat → Bool} {r : Nat} (h : (opr D f r).2 = false) : ∀ d, opr D f (r + d) = opr D f r
  | 0 => rfl
  | d + 1 => by
    show (if (opr D f (r + d)).2 = true then _ else opr D f (r + d)) = _
    rw [opr_stop h d, h]
    rfl
theorem KR.kept {S S' : zS} {D : zD} (h : KR S D) (h5 : S'.1 5 = S.1 5) (h6 : S'.1 6 = S.1 6) (h7 : S'.1 7 = S.1 7) (h8 : S'.1 8 = S.1 8) : KR S' D := by
  unfold KR; rw [h5, h6, h7, h8]; exact h
theorem LR.kept {S S' : zS} {D : zD} (h : LR S D) (h5 : S'.1 10 = S.1 10) (h6 : S'.1 11 = S.1 11) (h7 : S'.1 12 = S.1 12) (h8 : S'.1 13 = S.1 13) : LR S' D := by
  unfold LR; rw [h5, h6, h7, h8]; exact h
set_option maxHeartbeats 4000000 in
set_option maxRecDepth 100000 in
theorem l4_take {C : zCx} {τ : Nat → ClassId} {ι : Nat → Nat} (hC : zOK C τ (zrm 0 0 0) yX4_take.cls cX4_take 4) {S0 : zS} {D : zD} {s : Nat} (hs : s < 65536) (hK : KR S0 D) (hn : D 6 0 ≤ 232) (k : ∀ S lv, zfrm 235 237 S0 S → RG S (f0 D s) (D 6 0) → zR C τ ι 4 0 0 46 lv [] (zcells S)) : ∀ (n i : Nat) (S : zS), i + n = D 6 0 → zfrm 235 237 S0 S → S.1 235 1 = nI (D 6 0) → (∀ k, k < i → S.1 236 k = zb (f0 D s k)) → zR C τ ι 4 0 0 10 [(0, .ref 235), (1, .ref 5), (2, .int (nI s)), (3, .int (nI i))] [] (zcells S) := by
  intro n
  induction n with
  | zero =>
    intro i S hi hf hs1 hs2
    refine zr_iload_n hC dX4_take_10 rfl ?_
    refine zr_aload_n hC dX4_take_11 rfl ?_
    refine zv_geti hC dX4_take_12 fl_X4_21 (a := 235) rfl (by decide) (hs1) ?_
    refine zr_icmp_ge hC dX4_take_15 (tgt := 46) (by decide) (fun c_15 => ?_) (fun c => absurd c (not_not_intro (nI_le (by omega) (by omega))))
    exact k S _ hf ⟨by rw [hs1], hn, fun j hj => hs2 j (by omega)⟩
  | succ n ih =>
    intro i S hi hf hs1 hs2
    refine zr_iload_n hC dX4_take_10 rfl ?_
    refine zr_aload_n hC dX4_take_11 rfl ?_
    refine zv_geti hC dX4_take_12 fl_X4_21 (a := 235) rfl (by decide) (hs1) ?_
    refine zr_icmp_ge hC dX4_take_15 (tgt := 46) (by decide) (fun c => absurd c (nI_ge (by omega) (by omega))) (fun c_15 => ?_)
    refine zr_aload_n hC dX4_take_18 rfl ?_
    refine zs_getr hC dX4_take_19 fl_X4_9 (a := 235) (r := 236) rfl (by decide) ?_
    refine zr_iload_n hC dX4_take_22 rfl ?_
    refine zr_aload_n hC dX4_take_23 rfl ?_
    refine zs_getr hC dX4_take_24 fl_X4_24 (a := 5) (r := 8) rfl (by decide) ?_
    refine zr_iload_n hC dX4_take_27 rfl ?_
    refine zv_iald hC dX4_take_28 (a := 8) (n := 232) rfl (by decide) (by decide) (j := _) rfl (by omega) (((congrFun (hf.1 8 (by omega)) i).trans (hK.2 i (by omega)).2.2)) ?_
    refine zr_iload_n hC dX4_take_29 rfl ?_
    refine zn_iand hC dX4_take_30 (nx_and _ _) ?_
    refine zr_if_eq hC dX4_take_31 (tgt := 38) (by decide) (fun c_31 => ?_) (fun c_31 => ?_)
    · rw [z_ne0 (Nat.lt_of_le_of_lt Nat.and_le_right (by omega))] at c_31
      refine zk_iconst hC dX4_take_38 (v := nI 0) (by decide +kernel) ?_
      refine zs_zast hC dX4_take_39 (a := 236) (n := 232) rfl (by decide) (by decide) (j := _) rfl (by omega) (by first | exact Or.inl rfl | exact Or.inr rfl) ?_
      refine zn_iinc hC dX4_take_40 rfl (by decide) (zk_inc _ 1) ?_
      refine zr_goto hC dX4_take_43 (tgt := 10) (by decide) ?_
      refine zR_sub [(0, .ref 235), (1, .ref 5), (2, .int (nI s)), (3, .int (nI (i + 1)))] ⟨rfl, rfl, rfl, rfl, trivial⟩ (ih (i + 1) _ (by omega) (hf.put (by decide) (by decide)) ((congrFun (zput_ne _ _ (by decide)) 1).trans hs1) fun j hj => ?_)
      by_cases hji : j = i
      · subst hji; rw [zput_at]; simp [f0, zb, c_31]
      · rw [zput_k _ _ hji]; exact hs2 j (by omega)
    · rw [z_ne0 (Nat.lt_of_le_of_lt Nat.and_le_right (by omega))] at c_31
      refine zk_iconst hC dX4_take_34 (v := nI 1) (by decide +kernel) ?_
      refine zr_goto hC dX4_take_35 (tgt := 39) (by decide) ?_
      refine zs_zast hC dX4_take_39 (a := 236) (n := 232) rfl (by decide) (by decide) (j := _) rfl (by omega) (by first | exact Or.inl rfl | exact Or.inr rfl) ?_
      refine zn_iinc hC dX4_take_40 rfl (by decide) (zk_inc _ 1) ?_
      refine zr_goto hC dX4_take_43 (tgt := 10) (by decide) ?_
      refine zR_sub [(0, .ref 235), (1, .ref 5), (2, .int (nI s)), (3, .int (nI (i + 1)))] ⟨rfl, rfl, rfl, rfl, trivial⟩ (ih (i + 1) _ (by omega) (hf.put (by decide) (by decide)) ((congrFun (zput_ne _ _ (by decide)) 1).trans hs1) fun j hj => ?_)
      by_cases hji : j = i
      · subst hji; rw [zput_at]; simp [f0, zb, c_31]
      · rw [zput_k _ _ hji]; exact hs2 j (by omega)
def spX4_take : zSp := fun av S Q => ∃ (s : Nat) (D : zD), av = [.ref 235, .ref 5, .int (nI s)] ∧ s < 65536 ∧ KR S D ∧ D 6 0 ≤ 232 ∧ ∀ S', RG S' (f0 D s) (D 6 0) → zfrm 235 237 S S' → Q none S'
set_option maxHeartbeats 4000000 in
set_option maxRecDepth 100000 in
theorem tX4_take : zM yX4_take cX4_take 4 none 0 spX4_take := by
  refine zM.of (by decide) (by decide) (fun av S Q h => by obtain ⟨s, D, rfl, hs, hK, hn, hQ⟩ := h; exact Nat.le_of_ble_eq_true rfl) (fun C τ ι av S Q Qr h hr hC hE => ?_)
  obtain ⟨s, D, rfl, hs, hK, hn, hQ⟩ := h
  show zR C τ ι _ 0 0 0 [(0, .ref 235), (1, .ref 5), (2, .int (nI s))] [] _
  refine zr_aload_n hC dX4_take_0 rfl ?_
  refine zr_aload_n hC dX4_take_1 rfl ?_
  refine zv_geti hC dX4_take_2 fl_X4_15 (a := 5) rfl (by decide) (hK.1) ?_
  refine zs_puti hC dX4_take_5 fl_X4_21 fp_X4_1 (a := 235) rfl (by decide) ?_
  refine zk_iconst hC dX4_take_8 (v := nI 0) (by decide +kernel) ?_
  refine zr_istore_n hC dX4_take_9 (by decide) ?_
  refine zR_sub [(0, .ref 235), (1, .ref 5), (2, .int (nI s)), (3, .int (nI 0))] ⟨rfl, rfl, rfl, rfl, trivial⟩ ?_
  exact l4_take hC hs hK hn (fun S1 lv h1 h2 => zr_vreturn hC hE dX4_take_46 (hr _ _ (hQ _ h2 h1))) (D 6 0) 0 _ (by omega) (zfrm.rf.put (by decide) (by decide)) (zput_at _ _ _ _) (fun k hk => absurd hk (Nat.not_lt_zero k))
def spX4_has : zSp := fun av S Q => ∃ (x : Int32) (f : Nat → Bool) (n : Nat), av = [.ref 235, .int x] ∧ RG S f n ∧ ∀ r, (r = nI 1 ∧ ∃ j, j < n ∧ x = nI j ∧ f j = true) ∨ (r = nI 0 ∧ ∀ j, j < n → x = nI j → f j = false) → Q (some (.int r)) S
set_option maxHeartbeats 4000000 in
set_option maxRecDepth 100000 in
theorem tX4_has : zM yX4_has cX4_has 2 (some .boolean) 0 spX4_has := by
  refine zM.of (by decide) (by decide) (fun av S Q h => by obtain ⟨x, f, n, rfl, hG, hQ⟩ := h; exact Nat.le_of_ble_eq_true rfl) (fun C τ ι av S Q Qr h hr hC hE => ?_)
  obtain ⟨x, f, n, rfl, hG, hQ⟩ := h
  show zR C τ ι _ 0 0 0 [(0, .ref 235), (1, .int x)] [] _
  refine zr_iload_n hC dX4_has_0 rfl ?_
  refine zr_if_lt hC dX4_has_1 (tgt := 25) (by decide) (fun c_1 => ?_) (fun c_1 => ?_)
  · have hz : ∀ j, j < n → x = nI j → f j = false := fun j hj e => absurd c_1 (by rw [e]; have := hG.2.1; exact nI_pos (by omega))
    refine zk_iconst hC dX4_has_25 (v := nI 0) (by decide +kernel) ?_
    exact zr_zreturn hC hE dX4_has_26 (by first | exact Or.inl rfl | exact Or.inr rfl) (hr _ _ (hQ _ (by first | exact Or.inl ⟨rfl, j, hj, rfl, hz⟩ | exact Or.inr ⟨rfl, hz⟩)))
  · refine zr_iload_n hC dX4_has_4 rfl ?_
    refine zr_aload_n hC dX4_has_5 rfl ?_
    refine zv_geti hC dX4_has_6 fl_X4_21 (a := 235) rfl (by decide) (hG.1) ?_
    refine zr_icmp_ge hC dX4_has_9 (tgt := 25) (by decide) (fun c_9 => ?_) (fun c_9 => ?_)
    · have hz : ∀ j, j < n → x = nI j → f j = false := fun j hj e => absurd c_9 (by rw [e]; have := hG.2.1; exact nI_ge hj (by omega))
      refine zk_iconst hC dX4_has_25 (v := nI 0) (by decide +kernel) ?_
      exact zr_zreturn hC hE dX4_has_26 (by first | exact Or.inl rfl | exact Or.inr rfl) (hr _ _ (hQ _ (by first | exact Or.inl ⟨rfl, j, hj, rfl, hz⟩ | exact Or.inr ⟨rfl, hz⟩)))
    · obtain ⟨j, hj, rfl⟩ := z_in c_1 (Int32.not_le.mp c_9) (by have := hG.2.1; omega)
      refine zr_aload_n hC dX4_has_12 rfl ?_
      refine zs_getr hC dX4_has_13 fl_X4_9 (a := 235) (r := 236) rfl (by decide) ?_
      refine zr_iload_n hC dX4_has_16 rfl ?_
      refine zv_zald hC dX4_has_17 (a := 236) (n := 232) rfl (by decide) (by decide) (j := j) rfl (by have := hG.2.1; omega) (hG.2.2 j hj) ?_
      refine zr_if_eq hC dX4_has_18 (tgt := 25) (by decide) (fun c_18 => ?_) (fun c_18 => ?_)
      · have hz : ∀ i, i < n → nI j = nI i → f i = false := fun i hi e => by
          have := hG.2.1
          rw [nI_eq (by omega) (by omega)] at e
          subst e
          exact (zb_eq0 _).mp c_18
        refine zk_iconst hC dX4_has_25 (v := nI 0) (by decide +kernel) ?_
        exact zr_zreturn hC hE dX4_has_26 (by first | exact Or.inl rfl | exact Or.inr rfl) (hr _ _ (hQ _ (by first | exact Or.inl ⟨rfl, j, hj, rfl, hz⟩ | exact Or.inr ⟨rfl, hz⟩)))
      · have hz : f j = true := (zb_ne0 _).mp c_18
        refine zk_iconst hC dX4_has_21 (v := nI 1) (by decide +kernel) ?_
        refine zr_goto hC dX4_has_22 (tgt := 26) (by decide) ?_
        exact zr_zreturn hC hE dX4_has_26 (by first | exact Or.inl rfl | exact Or.inr rfl) (hr _ _ (hQ _ (by first | exact Or.inl ⟨rfl, j, hj, rfl, hz⟩ | exact Or.inr ⟨rfl, hz⟩)))
def spX4_lacks : zSp := fun av S Q => ∃ (x : Int32) (f : Nat → Bool) (n : Nat), av = [.ref 235, .int x] ∧ RG S f n ∧ ∀ r, (r = nI 1 ∧ ∃ j, j < n ∧ x = nI j ∧ f j = false) ∨ (r = nI 0 ∧ ∀ j, j < n → x = nI j → f j = true) → Q (some (.int r)) S
set_option maxHeartbeats 4000000 in
set_option maxRecDepth 100000 in
theorem tX4_lacks : zM yX4_lacks cX4_lacks 2 (some .boolean) 0 spX4_lacks := by
  refine zM.of (by decide) (by decide) (fun av S Q h => by obtain ⟨x, f, n, rfl, hG, hQ⟩ := h; exact Nat.le_of_ble_eq_true rfl) (fun C τ ι av S Q Qr h hr hC hE => ?_)
  obtain ⟨x, f, n, rfl, hG, hQ⟩ := h
  show zR C τ ι _ 0 0 0 [(0, .ref 235), (1, .int x)] [] _
  refine zr_iload_n hC dX4_lacks_0 rfl ?_
  refine zr_if_lt hC dX4_lacks_1 (tgt := 25) (by decide) (fun c_1 => ?_) (fun c_1 => ?_)
  · have hz : ∀ j, j < n → x = nI j → f j = true := fun j hj e => absurd c_1 (by rw [e]; have := hG.2.1; exact nI_pos (by omega))
    refine zk_iconst hC dX4_lacks_25 (v := nI 0) (by decide +kernel) ?_
    exact zr_zreturn hC hE dX4_lacks_26 (by first | exact Or.inl rfl | exact Or.inr rfl) (hr _ _ (hQ _ (by first | exact Or.inl ⟨rfl, j, hj, rfl, hz⟩ | exact Or.inr ⟨rfl, hz⟩)))
  · refine zr_iload_n hC dX4_lacks_4 rfl ?_
    refine zr_aload_n hC dX4_lacks_5 rfl ?_
    refine zv_geti hC dX4_lacks_6 fl_X4_21 (a := 235) rfl (by decide) (hG.1) ?_
    refine zr_icmp_ge hC dX4_lacks_9 (tgt := 25) (by decide) (fun c_9 => ?_) (fun c_9 => ?_)
    · have hz : ∀ j, j < n → x = nI j → f j = true := fun j hj e => absurd c_9 (by rw [e]; have := hG.2.1; exact nI_ge hj (by omega))
      refine zk_iconst hC dX4_lacks_25 (v := nI 0) (by decide +kernel) ?_
      exact zr_zreturn hC hE dX4_lacks_26 (by first | exact Or.inl rfl | exact Or.inr rfl) (hr _ _ (hQ _ (by first | exact Or.inl ⟨rfl, j, hj, rfl, hz⟩ | exact Or.inr ⟨rfl, hz⟩)))
    · obtain ⟨j, hj, rfl⟩ := z_in c_1 (Int32.not_le.mp c_9) (by have := hG.2.1; omega)
      refine zr_aload_n hC dX4_lacks_12 rfl ?_
      refine zs_getr hC dX4_lacks_13 fl_X4_9 (a := 235) (r := 236) rfl (by decide) ?_
      refine zr_iload_n hC dX4_lacks_16 rfl ?_
      refine zv_zald hC dX4_lacks_17 (a := 236) (n := 232) rfl (by decide) (by decide) (j := j) rfl (by have := hG.2.1; omega) (hG.2.2 j hj) ?_
      refine zr_if_ne hC dX4_lacks_18 (tgt := 25) (by decide) (fun c_18 => ?_) (fun c_18 => ?_)
      · have hz : ∀ i, i < n → nI j = nI i → f i = true := fun i hi e => by
          have := hG.2.1
          rw [nI_eq (by omega) (by omega)] at e
          subst e
          exact (zb_ne0 _).mp c_18
        refine zk_iconst hC dX4_lacks_25 (v := nI 0) (by decide +kernel) ?_
        exact zr_zreturn hC hE dX4_lacks_26 (by first | exact Or.inl rfl | exact Or.inr rfl) (hr _ _ (hQ _ (by first | exact Or.inl ⟨rfl, j, hj, rfl, hz⟩ | exact Or.inr ⟨rfl, hz⟩)))
      · have hz : f j = false := (zb_eq0 _).mp c_18
        refine zk_iconst hC dX4_lacks_21 (v := nI 1) (by decide +kernel) ?_
        refine zr_goto hC dX4_lacks_22 (tgt := 26) (by decide) ?_
        exact zr_zreturn hC hE dX4_lacks_26 (by first | exact Or.inl rfl | exact Or.inr rfl) (hr _ _ (hQ _ (by first | exact Or.inl ⟨rfl, j, hj, rfl, hz⟩ | exact Or.inr ⟨rfl, hz⟩)))
def spX4_open : zSp := fun av S Q => ∃ (i a b n : Nat) (f : Nat → Bool), av = [.ref 235, .ref 10, .int (nI i)] ∧ i < 192 ∧ S.1 11 i = nI a ∧ S.1 12 i = nI b ∧ a < n ∧ b < n ∧ RG S f n ∧ ∀ S', RG S' (fun j => f j || (j == a && f b)) n → zfrm 235 237 S S' → Q (some (.int (zb (f b && !f a)))) S'
set_option maxHeartbeats 4000000 in
set_option maxRecDepth 100000 in
theorem tX4_open : zM yX4_open cX4_open 5 (some .boolean) 1 spX4_open := by
  refine zM.of (by decide) (by decide) (fun av S Q h => by obtain ⟨i, a, b, n, f, rfl, hi, ha, hb, han, hbn, hG, hQ⟩ := h; exact Nat.le_of_ble_eq_true rfl) (fun C τ ι av S Q Qr h hr hC hE => ?_)
  obtain ⟨i, a, b, n, f, rfl, hi, ha, hb, han, hbn, hG, hQ⟩ := h
  show zR C τ ι _ 0 0 0 [(0, .ref 235), (1, .ref 10), (2, .int (nI i))] [] _
  refine zr_aload_n hC dX4_open_0 rfl ?_
  refine zs_getr hC dX4_open_1 fl_X4_28 (a := 10) (r := 11) rfl (by decide) ?_
  refine zr_iload_n hC dX4_open_4 rfl ?_
  refine zv_iald hC dX4_open_5 (a := 11) (n := 192) rfl (by decide) (by decide) (j := _) rfl (by omega) (ha) ?_
  refine zr_istore_n hC dX4_open_6 (by decide) ?_
  refine zr_aload_n hC dX4_open_7 rfl ?_
  refine zr_aload_n hC dX4_open_8 rfl ?_
  refine zs_getr hC dX4_open_9 fl_X4_33 (a := 10) (r := 12) rfl (by decide) ?_
  refine zr_iload_n hC dX4_open_12 rfl ?_
  refine zv_iald hC dX4_open_13 (a := 12) (n := 192) rfl (by decide) (by decide) (j := _) rfl (by omega) (hb) ?_
  refine zs_callV hC (b := 235) [_] [] dX4_open_14 ml_X4_36 mtX4_has tX4_has (by decide) (by decide) (by decide) rfl rfl (by decide) (by decide +kernel) (Nat.le_of_ble_eq_true rfl) rfl ?_
  refine ⟨_, f, n, rfl, hG, fun r e => ?_⟩
  rcases e with ⟨rfl, j, hj, hj2, hfb⟩ | ⟨rfl, hfb⟩
  · have hjb : j = b := by have := hG.2.1; rw [nI_eq (by omega) (by omega)] at hj2; exact hj2.symm
    subst hjb
    dsimp only [Option.toList, List.cons_append, List.nil_append]
    refine zr_if_eq hC dX4_open_17 (tgt := 32) (by decide) (fun c => absurd c (by decide +kernel)) (fun c_17 => ?_)
    refine zr_aload_n hC dX4_open_20 rfl ?_
    refine zr_iload_n hC dX4_open_21 rfl ?_
    refine zs_callV hC (b := 235) [_] [] dX4_open_22 ml_X4_40 mtX4_lacks tX4_lacks (by decide) (by decide) (by decide) rfl rfl (by decide) (by decide +kernel) (Nat.le_of_ble_eq_true rfl) rfl ?_
    refine ⟨_, f, n, rfl, hG, fun r e => ?_⟩
    rcases e with ⟨rfl, j2, hj3, hj4, hfa⟩ | ⟨rfl, hfa⟩
    · have hja : j2 = a := by have := hG.2.1; rw [nI_eq (by omega) (by omega)] at hj4; exact hj4.symm
      subst hja
      dsimp only [Option.toList, List.cons_append, List.nil_append]
      refine zr_if_eq hC dX4_open_25 (tgt := 32) (by decide) (fun c => absurd c (by decide +kernel)) (fun c_25 => ?_)
      refine zk_iconst hC dX4_open_28 (v := nI 1) (by decide +kernel) ?_
      refine zr_goto hC dX4_open_29 (tgt := 33) (by decide) ?_
      refine zr_istore hC dX4_open_33 (by decide) ?_
      refine zr_iload hC dX4_open_35 rfl ?_
      refine zr_if_eq hC dX4_open_37 (tgt := 47) (by decide) (fun c => absurd c (by decide +kernel)) (fun c_37 => ?_)
      refine zr_aload_n hC dX4_open_40 rfl ?_
      refine zs_getr hC dX4_open_41 fl_X4_9 (a := 235) (r := 236) rfl (by decide) ?_
      refine zr_iload_n hC dX4_open_44 rfl ?_
      refine zk_iconst hC dX4_open_45 (v := nI 1) (by decide +kernel) ?_
      refine zs_zast hC dX4_open_46 (a := 236) (n := 232) rfl (by decide) (by decide) (j := _) rfl (by have := hG.2.1; omega) (Or.inr rfl) ?_
      refine zr_iload hC dX4_open_47 rfl ?_
      have hg : RG (zput S 236 j2 (nI 1)) (fun i => f i || (i == j2 && f j)) n := by
        refine ⟨(congrFun (zput_ne _ _ (by decide)) 1).trans hG.1, hG.2.1, fun k hk => ?_⟩
        by_cases hk2 : k = j2
        · subst hk2; rw [zput_at]; simp [hfb, zb]
        · have hbq : (k == j2) = false := by simpa using hk2
          rw [zput_k _ _ hk2, hG.2.2 k hk]; simp [hbq]
      have h := hQ _ hg (zfrm.rf.put (by decide) (by decide))
      rw [show zb (f j && !f j2) = nI 1 by rw [hfb, hfa]; rfl] at h
      exact zr_zreturn hC hE dX4_open_49 (by first | exact Or.inl rfl | exact Or.inr rfl) (hr _ _ h)
    · have hfa := hfa a han rfl
      dsimp only [Option.toList, List.cons_append, List.nil_append]
      refine zr_if_eq hC dX4_open_25 (tgt := 32) (by decide) (fun c_25 => ?_) (fun c => absurd c (by decide +kernel))
      refine zk_iconst hC dX4_open_32 (v := nI 0) (by decide +kernel) ?_
      refine zr_istore hC dX4_open_33 (by decide) ?_
      refine zr_iload hC dX4_open_35 rfl ?_
      refine zr_if_eq hC dX4_open_37 (tgt := 47) (by decide) (fun c_37 => ?_) (fun c => absurd c (by decide +kernel))
      refine zr_iload hC dX4_open_47 rfl ?_
      have hg : RG S (fun i => f i || (i == a && f j)) n := by
        refine ⟨hG.1, hG.2.1, fun k hk => ?_⟩
        rw [hG.2.2 k hk]
        congr 1
        by_cases hk2 : k = a
        · subst hk2; simp [hfa]
        · have hbq : (k == a) = false := by simpa using hk2
          simp [hbq]
      have h := hQ _ hg zfrm.rf
      rw [show zb (f j && !f a) = nI 0 by simp [hfa, zb]] at h
      exact zr_zreturn hC hE dX4_open_49 (by first | exact Or.inl rfl | exact Or.inr rfl) (hr _ _ h)
  · have hfb := hfb b hbn rfl
    dsimp only [Option.toList, List.cons_append, List.nil_append]
    refine zr_if_eq hC dX4_open_17 (tgt := 32) (by decide) (fun c_17 => ?_) (fun c => absurd c (by decide +kernel))
    refine zk_iconst hC dX4_open_32 (v := nI 0) (by decide +kernel) ?_
    refine zr_istore hC dX4_open_33 (by decide) ?_
    refine zr_iload hC dX4_open_35 rfl ?_
    refine zr_if_eq hC dX4_open_37 (tgt := 47) (by decide) (fun c_37 => ?_) (fun c => absurd c (by decide +kernel))
    refine zr_iload hC dX4_open_47 rfl ?_
    have hg : RG S (fun i => f i || (i == a && f b)) n := by
      refine ⟨hG.1, hG.2.1, fun k hk => ?_⟩
      rw [hG.2.2 k hk]
      congr 1
      by_cases hk2 : k = a
      · subst hk2; simp [hfb]
      · have hbq : (k == a) = false := by simpa using hk2
        simp [hbq]
    have h := hQ _ hg zfrm.rf
    rw [show zb (f b && !f a) = nI 0 by simp [hfb, zb]] at h
    exact zr_zreturn hC hE dX4_open_49 (by first | exact Or.inl rfl | exact Or.inr rfl) (hr _ _ h)
set_option maxHeartbeats 4000000 in
set_option maxRecDepth 100000 in
theorem l4_open1 {C : zCx} {τ : Nat → ClassId} {ι : Nat → Nat} (hC : zOK C τ (zrm 2 0 0) yX4_openAll.cls cX4_openAll 5) {S0 : zS} {D : zD} {nn rr : Nat} {f : Nat → Bool} (hL : LR S0 D) (hw : D 6 1 ≤ 189) (hin : ∀ i, i < D 6 1 → D 10 i < nn ∧ D 11 i < nn) (k : (∀ S' lv, RG S' (opf D f (D 6 1)).1 nn → zfrm 235 237 S0 S' → zsub lv [(0, .ref 235), (1, .ref 10), (2, .int (zb (opf D f (D 6 1)).2)), (3, .int (nI rr))] → zR C τ ι 5 0 0 45 lv [] (zcells S'))) : ∀ (n i : Nat) (S : zS), i + n = D 6 1 → RG S (opf D f i).1 nn → zfrm 235 237 S0 S → zR C τ ι 5 0 0 20 [(0, .ref 235), (1, .ref 10), (2, .int (zb (opf D f i).2)), (3, .int (nI rr)), (4, .int (nI i))] [] (zcells S) := by
  intro n
  induction n with
  | zero =>
    intro i S hi hG hfr
    refine zr_iload hC dX4_openAll_20 rfl ?_
    refine zr_aload_n hC dX4_openAll_22 rfl ?_
    refine zv_geti hC dX4_openAll_23 fl_X4_43 (a := 10) rfl (by decide) (((congrFun (hfr.1 10 (by omega)) 0).trans hL.1)) ?_
    refine zr_icmp_ge hC dX4_openAll_26 (tgt := 45) (by decide) (fun c_26 => ?_) (fun c => absurd c (not_not_intro (nI_le (by omega) (by omega))))
    exact k S _ (by rw [show D 6 1 = i by omega]; exact hG) hfr (by rw [show D 6 1 = i by omega]; exact ⟨rfl, rfl, rfl, rfl, trivial⟩)
  | succ n ih =>
    intro i S hi hG hfr
    refine zr_iload hC dX4_openAll_20 rfl ?_
    refine zr_aload_n hC dX4_openAll_22 rfl ?_
    refine zv_geti hC dX4_openAll_23 fl_X4_43 (a := 10) rfl (by decide) (((congrFun (hfr.1 10 (by omega)) 0).trans hL.1)) ?_
    refine zr_icmp_ge hC dX4_openAll_26 (tgt := 45) (by decide) (fun c => absurd c (nI_ge (by omega) (by omega))) (fun c_26 => ?_)
    refine zr_iload_n hC dX4_openAll_29 rfl ?_
    refine zr_aload_n hC dX4_openAll_30 rfl ?_
    refine zr_aload_n hC dX4_openAll_31 rfl ?_
    refine zr_iload hC dX4_openAll_32 rfl ?_
    refine zs_callV hC (b := 235) [_, _] [_] dX4_openAll_34 ml_X4_46 mtX4_open tX4_open (by decide) (by decide) (by decide) rfl rfl (by decide) (by decide +kernel) (Nat.le_of_ble_eq_true rfl) rfl ?_
    refine ⟨i, D 10 i, D 11 i, nn, _, rfl, by omega, (congrFun (hfr.1 11 (by omega)) i).trans (hL.2 i (by omega)).1, (congrFun (hfr.1 12 (by omega)) i).trans (hL.2 i (by omega)).2.1, (hin i (by omega)).1, (hin i (by omega)).2, hG, fun S1 h1 h2 => ?_⟩
    dsimp only [Option.toList, List.cons_append, List.nil_append]
    refine zn_ior hC dX4_openAll_37 (zb_or _ _) ?_
    refine zr_istore_n hC dX4_openAll_38 (by decide) ?_
    refine zn_iinc hC dX4_openAll_39 rfl (by decide) (zk_inc _ 1) ?_
    refine zr_goto hC dX4_openAll_42 (tgt := 20) (by decide) ?_
    refine zR_sub [(0, .ref 235), (1, .ref 10), (2, .int (zb (opf D f (i + 1)).2)), (3, .int (nI rr)), (4, .int (nI (i + 1)))] ⟨rfl, rfl, rfl, rfl, rfl, trivial⟩ (ih (i + 1) S1 (by omega) h1 (hfr.tr h2))
set_option maxHeartbeats 4000000 in
set_option maxRecDepth 100000 in
theorem l4_openAll {C : zCx} {τ : Nat → ClassId} {ι : Nat → Nat} (hC : zOK C τ (zrm 2 0 0) yX4_openAll.cls cX4_openAll 5) {S0 : zS} {D : zD} {nn : Nat} {f : Nat → Bool} (hL : LR S0 D) (hw : D 6 1 ≤ 189) (hin : ∀ i, i < D 6 1 → D 10 i < nn ∧ D 11 i < nn) (k : ∀ S lv, RG S (opr D f 232).1 nn → zfrm 235 237 S0 S → zR C τ ι 5 0 0 51 lv [] (zcells S)) : ∀ (n i : Nat) (S : zS), i + n = 232 → RG S (opr D f i).1 nn → zfrm 235 237 S0 S → zR C τ ι 5 0 0 4 [(0, .ref 235), (1, .ref 10), (2, .int (zb (opr D f i).2)), (3, .int (nI i))] [] (zcells S) := by
  intro n
  induction n with
  | zero =>
    intro i S hi hG hfr
    have hi : i = 232 := by omega
    subst hi
    refine zr_iload_n hC dX4_openAll_4 rfl ?_
    refine zr_if_eq hC dX4_openAll_5 (tgt := 51) (by decide) (fun c_5 => ?_) (fun c_5 => ?_)
    · first | (exact k S _ (by rw [show 232 = i + (232 - i) by omega, opr_stop ((zb_eq0 _).mp c_5)]; exact hG) hfr) | exact k S _ hG hfr
    · refine zr_iload_n hC dX4_openAll_8 rfl ?_
      refine zk_sipush hC dX4_openAll_9 (v := nI 232) (by decide +kernel) ?_
      refine zr_icmp_ge hC dX4_openAll_12 (tgt := 51) (by decide) (fun c_12 => ?_) (fun c => absurd c (not_not_intro (nI_le (by omega) (by omega))))
      first | (exact k S _ (by rw [show 232 = i + (232 - i) by omega, opr_stop ((zb_eq0 _).mp c_5)]; exact hG) hfr) | exact k S _ hG hfr
  | succ n ih =>
    intro i S hi hG hfr
    refine zr_iload_n hC dX4_openAll_4 rfl ?_
    refine zr_if_eq hC dX4_openAll_5 (tgt := 51) (by decide) (fun c_5 => ?_) (fun c_5 => ?_)
    · exact k S _ (by rw [show 232 = i + (232 - i) by omega, opr_stop ((zb_eq0 _).mp c_5)]; exact hG) hfr
    · have hm : (opr D f i).2 = true := by cases h : (opr D f i).2 with
        | true => rfl
        | false => exact absurd ((zb_eq0 _).mpr h) c_5
      refine zr_iload_n hC dX4_openAll_8 rfl ?_
      refine zk_sipush hC dX4_openAll_9 (v := nI 232) (by decide +kernel) ?_
      refine zr_icmp_ge hC dX4_openAll_12 (tgt := 51) (by decide) (fun c => absurd c (nI_ge (by omega) (by decide))) (fun c_12 => ?_)
      refine zk_iconst hC dX4_openAll_15 (v := nI 0) (by decide +kernel) ?_
      refine zr_istore_n hC dX4_openAll_16 (by decide) ?_
      refine zk_iconst hC dX4_openAll_17 (v := nI 0) (by decide +kernel) ?_
      refine zr_istore hC dX4_openAll_18 (by decide) ?_
      have hor : opr D f (i + 1) = opf D (opr D f i).1 (D 6 1) := if_pos hm
      refine zR_sub [(0, .ref 235), (1, .ref 10), (2, .int (zb (opf D (opr D f i).1 0).2)), (3, .int (nI i)), (4, .int (nI 0))] ⟨rfl, rfl, rfl, rfl, rfl, trivial⟩ ?_
      refine l4_open1 hC (S0 := S) (hL.kept (hfr.1 10 (by omega)) (hfr.1 11 (by omega)) (hfr.1 12 (by omega)) (hfr.1 13 (by omega))) hw hin (fun S1 lv h1 h2 h3 => ?_) (D 6 1) 0 S (by omega) hG zfrm.rf
      obtain ⟨a0, a1, a2, a3, -⟩ := h3
      rw [← hor] at h1 a2
      refine zn_iinc hC dX4_openAll_45 a3 (by decide) (zk_inc _ 1) ?_
      refine zr_goto hC dX4_openAll_48 (tgt := 4) (by decide) ?_
      exact zR_sub [(0, .ref 235), (1, .ref 10), (2, .int (zb (opr D f (i + 1)).2)), (3, .int (nI (i + 1)))] ⟨zlk_set (show 0 ≠ 3 by decide) a0, zlk_set (show 1 ≠ 3 by decide) a1, zlk_set (show 2 ≠ 3 by decide) a2, rfl, trivial⟩ (ih (i + 1) _ (by omega) h1 (hfr.tr h2))
def spX4_openAll : zSp := fun av S Q => ∃ (D : zD) (nn : Nat) (f : Nat → Bool), av = [.ref 235, .ref 10] ∧ LR S D ∧ D 6 1 ≤ 189 ∧ (∀ i, i < D 6 1 → D 10 i < nn ∧ D 11 i < nn) ∧ RG S f nn ∧ ∀ S', RG S' (opr D f 232).1 nn → zfrm 235 237 S S' → Q none S'
set_option maxHeartbeats 4000000 in
set_option maxRecDepth 100000 in
theorem tX4_openAll : zM yX4_openAll cX4_openAll 5 none 2 spX4_openAll := by
  refine zM.of (by decide) (by decide) (fun av S Q h => by obtain ⟨D, nn, f, rfl, hL, hw, hin, hG, hQ⟩ := h; exact Nat.le_of_ble_eq_true rfl) (fun C τ ι av S Q Qr h hr hC hE => ?_)
  obtain ⟨D, nn, f, rfl, hL, hw, hin, hG, hQ⟩ := h
  show zR C τ ι _ 0 0 0 [(0, .ref 235), (1, .ref 10)] [] _
  refine zk_iconst hC dX4_openAll_0 (v := nI 1) (by decide +kernel) ?_
  refine zr_istore_n hC dX4_openAll_1 (by decide) ?_
  refine zk_iconst hC dX4_openAll_2 (v := nI 0) (by decide +kernel) ?_
  refine zr_istore_n hC dX4_openAll_3 (by decide) ?_
  refine zR_sub [(0, .ref 235), (1, .ref 10), (2, .int (zb (opr D f 0).2)), (3, .int (nI 0))] ⟨rfl, rfl, rfl, rfl, trivial⟩ ?_
  exact l4_openAll hC hL hw hin (fun S1 lv h1 h2 => zr_vreturn hC hE dX4_openAll_51 (hr _ _ (hQ _ h1 h2))) 232 0 S (by decide) hG zfrm.rf
