theorem z_subI {z a : Nat} (hz : z < 1073741824) (ha : a < 2147483648) : (nI z - nI a).toInt = (z : Int) - a := by
  rw [Int32.toInt_sub, nI_toInt (by omega), nI_toInt ha]
  rw [Int.bmod_def]
  omega
/-- the sheets' shapes -/
theorem sh_sh {t : Nat} (h : t < 4) : zsh (237 + 2 * t) = .inl (6, [some (238 + 2 * t), none, none]) := by rcases (by omega : t = 0 ∨ t = 1 ∨ t = 2 ∨ t = 3) with rfl | rfl | rfl | rfl <;> rfl
theorem sh_f0 {t : Nat} (h : t < 4) : zfd (237 + 2 * t) 0 = some (6, some (238 + 2 * t)) := by unfold zfd; rw [sh_sh h]; rfl
theorem sh_f1 {t : Nat} (h : t < 4) : zfd (237 + 2 * t) 1 = some (6, none) := by unfold zfd; rw [sh_sh h]; rfl
theorem sh_f2 {t : Nat} (h : t < 4) : zfd (237 + 2 * t) 2 = some (6, none) := by unfold zfd; rw [sh_sh h]; rfl
theorem sh_ar {t : Nat} (h : t < 4) : zar (238 + 2 * t) = some (1, 24) := by rcases (by omega : t = 0 ∨ t = 1 ∨ t = 2 ∨ t = 3) with rfl | rfl | rfl | rfl <;> rfl
/-- n items from i on lie in z -/
def LK (i n : Int32) (z : Nat) : Prop := ∃ a b : Nat, i = nI a ∧ n = nI b ∧ a + b ≤ z
theorem LK_1 {i n : Int32} {z : Nat} (hz : z ≤ 24) (h : i < 0) : ¬ LK i n z := fun ⟨a, b, h1, h2, h3⟩ => by rw [h1] at h; exact nI_pos (by omega) h
theorem LK_2 {i n : Int32} {z : Nat} (hz : z ≤ 24) (h : n < 0) : ¬ LK i n z := fun ⟨a, b, h1, h2, h3⟩ => by rw [h2] at h; exact nI_pos (by omega) h
theorem LK_3 {i n : Int32} {z : Nat} (hz : z ≤ 24) (hi : ¬ i < 0) (hn : ¬ n < 0) : n ≤ nI z - i ↔ LK i n z := by
  obtain ⟨a, ha, rfl⟩ := nI_of hi
  obtain ⟨b, hb, rfl⟩ := nI_of hn
  rw [Int32.le_iff_toInt_le, z_subI (by omega) ha, nI_toInt hb]
  constructor
  · intro h; exact ⟨a, b, rfl, rfl, by omega⟩
  · rintro ⟨a2, b2, h1, h2, h3⟩
    rw [nI_eq ha (by omega)] at h1
    rw [nI_eq hb (by omega)] at h2
    omega
/-- the lowest bits that a lane takes -/
def lcut (c : Nat) (v : Int64) : Int64 := match c with
  | 0 => v.toInt32.toInt8.toInt32.toInt64
  | 1 => v.toInt32.toInt16.toInt32.toInt64
  | 2 => v.toInt32.toInt64
  | _ => v
def fig (c : Nat) : Option Nat := if 48 ≤ c ∧ c ≤ 57 then some (c - 48) else if 97 ≤ c ∧ c ≤ 102 then some (c - 97 + 10) else none
theorem fig_1 {c : Nat} (h : 48 ≤ c ∧ c ≤ 57) : fig c = some (c - 48) := if_pos h
theorem fig_2 {c : Nat} (h : 97 ≤ c ∧ c ≤ 102) : fig c = some (c - 97 + 10) := by
  unfold fig; rw [if_neg (by omega), if_pos h]
theorem fig_3 {c : Nat} (h : ¬ (48 ≤ c ∧ c ≤ 57) ∧ ¬ (97 ≤ c ∧ c ≤ 102)) : fig c = none := by
  unfold fig; rw [if_neg h.1, if_neg h.2]
/-- a sign, behind: was there an event, is a member wanted -/
def fst1 (c : Nat) (aw : Bool × Bool) : Option (Bool × Bool) := if c = 32 then some aw else if aw.2 = true then (if (fig c).isSome = true then some (true, false) else none) else if c = 43 ∨ c = 45 then some (aw.1, true) else if c = 33 then some (true, false) else none
def flt (tp : Nat → Nat) (tn : Nat) : Nat → Bool × Bool → Option Nat
  | 0, aw => if aw.2 = true ∨ aw.1 = false then some tn else none
  | d + 1, aw => match fst1 (tp (tn - (d + 1))) aw with
    | none => some (tn - (d + 1))
    | some aw' => flt tp tn d aw'
def flI : Option Nat → Int32
  | some p => nI p
  | none => -1
/-- THE TAPE -/
def TR (S : zS) (tp : Nat → Nat) (tn : Nat) : Prop := S.1 229 1 = nI tn ∧ tn ≤ 90 ∧ ∀ i, i < tn → S.1 230 i = nI (tp i) ∧ tp i < 127
def spX6_renew : zSp := fun av S Q => ∃ (t : Nat) (l z : Int32), av = [.ref (237 + 2 * t), .int l, .int z] ∧ t < 4 ∧ Q none (zfillL (zput (zput S (237 + 2 * t) 1 l) (237 + 2 * t) 2 z) (238 + 2 * t) 24 (Int64.ofNat 0))
set_option maxHeartbeats 4000000 in
set_option maxRecDepth 100000 in
theorem tX6_renew : zM yX6_renew cX6_renew 3 none 1 spX6_renew := by
  refine zM.of (by decide) (by decide) (fun av S Q h => by obtain ⟨t, l, z, rfl, ht, hQ⟩ := h; exact Nat.le_of_ble_eq_true rfl) (fun C τ ι av S Q Qr h hr hC hE => ?_)
  obtain ⟨t, l, z, rfl, ht, hQ⟩ := h
  show zR C τ ι _ 0 0 0 [(0, .ref (237 + 2 * t)), (1, .int l), (2, .int z)] [] _
  refine zr_aload_n hC dX6_renew_0 rfl ?_
  refine zr_iload_n hC dX6_renew_1 rfl ?_
  refine zs_puti hC dX6_renew_2 fl_X6_15 fp_X6_1 (a := 237 + 2 * t) (sh_f1 ht) (by omega) ?_
  refine zr_aload_n hC dX6_renew_5 rfl ?_
  refine zr_iload_n hC dX6_renew_6 rfl ?_
  refine zs_puti hC dX6_renew_7 fl_X6_19 fp_X6_2 (a := 237 + 2 * t) (sh_f2 ht) (by omega) ?_
  refine zr_aload_n hC dX6_renew_10 rfl ?_
  refine zs_getr hC dX6_renew_11 fl_X6_9 (a := 237 + 2 * t) (r := 238 + 2 * t) (sh_f0 ht) (by omega) ?_
  refine zr_lconst hC dX6_renew_14 ?_
  refine zs_callS hC [_, _] [] dX6_renew_15 ml_X6_22 mtJ7_fill_d0a16 tJ7_fill_d0a16 (by decide) (by decide) (by decide) rfl (Nat.le_of_ble_eq_true rfl) rfl ?_
  refine ⟨_, 24, _, rfl, sh_ar ht, by decide, by omega, ?_⟩
  dsimp only [Option.toList, List.nil_append]
  exact zr_vreturn hC hE dX6_renew_18 (hr _ _ (hQ))
def spX6_lacks : zSp := fun av S Q => ∃ (t z : Nat) (i n : Int32), av = [.ref (237 + 2 * t), .int i, .int n] ∧ t < 4 ∧ S.1 (237 + 2 * t) 2 = nI z ∧ z ≤ 24 ∧ ∀ r, (r = nI 1 ∧ ¬ LK i n z) ∨ (r = nI 0 ∧ LK i n z) → Q (some (.int r)) S
set_option maxHeartbeats 4000000 in
set_option maxRecDepth 100000 in
theorem tX6_lacks : zM yX6_lacks cX6_lacks 3 (some .boolean) 0 spX6_lacks := by
  refine zM.of (by decide) (by decide) (fun av S Q h => by obtain ⟨t, z, i, n, rfl, ht, hz, hz2, hQ⟩ := h; exact Nat.le_of_ble_eq_true rfl) (fun C τ ι av S Q Qr h hr hC hE => ?_)
  obtain ⟨t, z, i, n, rfl, ht, hz, hz2, hQ⟩ := h
  show zR C τ ι _ 0 0 0 [(0, .ref (237 + 2 * t)), (1, .int i), (2, .int n)] [] _
  refine zr_iload_n hC dX6_lacks_0 rfl ?_
  refine zr_if_lt hC dX6_lacks_1 (tgt := 18) (by decide) (fun c_1 => ?_) (fun c_1 => ?_)
  · refine zk_iconst hC dX6_lacks_18 (v := nI 1) (by decide +kernel) ?_
    refine zr_goto hC dX6_lacks_19 (tgt := 23) (by decide) ?_
    exact zr_zreturn hC hE dX6_lacks_23 (by first | exact Or.inl rfl | exact Or.inr rfl) (hr _ _ (hQ _ (by first | exact Or.inl ⟨rfl, LK_1 hz2 c_1⟩ | exact Or.inl ⟨rfl, LK_2 hz2 c_5⟩ | exact Or.inl ⟨rfl, c_15⟩ | exact Or.inr ⟨rfl, c_15⟩)))
  · refine zr_iload_n hC dX6_lacks_4 rfl ?_
    refine zr_if_lt hC dX6_lacks_5 (tgt := 18) (by decide) (fun c_5 => ?_) (fun c_5 => ?_)
    · refine zk_iconst hC dX6_lacks_18 (v := nI 1) (by decide +kernel) ?_
      refine zr_goto hC dX6_lacks_19 (tgt := 23) (by decide) ?_
      exact zr_zreturn hC hE dX6_lacks_23 (by first | exact Or.inl rfl | exact Or.inr rfl) (hr _ _ (hQ _ (by first | exact Or.inl ⟨rfl, LK_1 hz2 c_1⟩ | exact Or.inl ⟨rfl, LK_2 hz2 c_5⟩ | exact Or.inl ⟨rfl, c_15⟩ | exact Or.inr ⟨rfl, c_15⟩)))
    · refine zr_iload_n hC dX6_lacks_8 rfl ?_
      refine zr_aload_n hC dX6_lacks_9 rfl ?_
      refine zv_geti hC dX6_lacks_10 fl_X6_19 (a := 237 + 2 * t) (sh_f2 ht) (by omega) (hz) ?_
      refine zr_iload_n hC dX6_lacks_13 rfl ?_
      refine zr_isub hC dX6_lacks_14 ?_
      refine zr_icmp_le hC dX6_lacks_15 (tgt := 22) (by decide) (fun c_15 => ?_) (fun c_15 => ?_)
      · rw [LK_3 hz2 c_1 c_5] at c_15
        refine zk_iconst hC dX6_lacks_22 (v := nI 0) (by decide +kernel) ?_
        exact zr_zreturn hC hE dX6_lacks_23 (by first | exact Or.inl rfl | exact Or.inr rfl) (hr _ _ (hQ _ (by first | exact Or.inl ⟨rfl, LK_1 hz2 c_1⟩ | exact Or.inl ⟨rfl, LK_2 hz2 c_5⟩ | exact Or.inl ⟨rfl, c_15⟩ | exact Or.inr ⟨rfl, c_15⟩)))
      · rw [LK_3 hz2 c_1 c_5] at c_15
        refine zk_iconst hC dX6_lacks_18 (v := nI 1) (by decide +kernel) ?_
        refine zr_goto hC dX6_lacks_19 (tgt := 23) (by decide) ?_
        exact zr_zreturn hC hE dX6_lacks_23 (by first | exact Or.inl rfl | exact Or.inr rfl) (hr _ _ (hQ _ (by first | exact Or.inl ⟨rfl, LK_1 hz2 c_1⟩ | exact Or.inl ⟨rfl, LK_2 hz2 c_5⟩ | exact Or.inl ⟨rfl, c_15⟩ | exact Or.inr ⟨rfl, c_15⟩)))
def spX6_refusal : zSp := fun av S Q => ∃ (t z : Nat) (x i n : Int32), av = [.ref (237 + 2 * t), .int x, .int i, .int n] ∧ t < 4 ∧ S.1 (237 + 2 * t) 2 = nI z ∧ z ≤ 24 ∧ ∀ r, (r = -11 ∧ S.1 (237 + 2 * t) 1 = -1) ∨ (S.1 (237 + 2 * t) 1 ≠ -1 ∧ r = -12 ∧ S.1 (237 + 2 * t) 1 ≠ x) ∨ (S.1 (237 + 2 * t) 1 ≠ -1 ∧ S.1 (237 + 2 * t) 1 = x ∧ ((r = -13 ∧ ¬ LK i n z) ∨ (r = nI 0 ∧ LK i n z))) → Q (some (.int r)) S
set_option maxHeartbeats 4000000 in
set_option maxRecDepth 100000 in
theorem tX6_refusal : zM yX6_refusal cX6_refusal 4 (some .int) 1 spX6_refusal := by
  refine zM.of (by decide) (by decide) (fun av S Q h => by obtain ⟨t, z, x, i, n, rfl, ht, hz, hz2, hQ⟩ := h; exact Nat.le_of_ble_eq_true rfl) (fun C τ ι av S Q Qr h hr hC hE => ?_)
  obtain ⟨t, z, x, i, n, rfl, ht, hz, hz2, hQ⟩ := h
  show zR C τ ι _ 0 0 0 [(0, .ref (237 + 2 * t)), (1, .int x), (2, .int i), (3, .int n)] [] _
  refine zr_aload_n hC dX6_refusal_0 rfl ?_
  refine zs_geti hC dX6_refusal_1 fl_X6_15 (a := 237 + 2 * t) (sh_f1 ht) (by omega) ?_
  refine zk_iconst hC dX6_refusal_4 (v := (-1)) (by decide +kernel) ?_
  refine zr_icmp_ne hC dX6_refusal_5 (tgt := 11) (by decide) (fun c_5 => ?_) (fun c_5 => ?_)
  · refine zr_aload_n hC dX6_refusal_11 rfl ?_
    refine zs_geti hC dX6_refusal_12 fl_X6_15 (a := 237 + 2 * t) (sh_f1 ht) (by omega) ?_
    refine zr_iload_n hC dX6_refusal_15 rfl ?_
    refine zr_icmp_eq hC dX6_refusal_16 (tgt := 22) (by decide) (fun c_16 => ?_) (fun c_16 => ?_)
    · refine zr_aload_n hC dX6_refusal_22 rfl ?_
      refine zr_iload_n hC dX6_refusal_23 rfl ?_
      refine zr_iload_n hC dX6_refusal_24 rfl ?_
      refine zs_callV hC (b := 237 + 2 * t) [_, _] [] dX6_refusal_25 ml_X6_28 mtX6_lacks tX6_lacks (by decide) (by decide) (by decide) rfl (sh_sh ht) (by omega) (by decide +kernel) (Nat.le_of_ble_eq_true rfl) rfl ?_
      refine ⟨t, z, _, _, rfl, ht, hz, hz2, fun r e => ?_⟩
      rcases e with ⟨rfl, hk⟩ | ⟨rfl, hk⟩
      · dsimp only [Option.toList, List.cons_append, List.nil_append]
        refine zr_if_eq hC dX6_refusal_28 (tgt := 36) (by decide) (fun c => absurd c (by decide +kernel)) (fun c_28 => ?_)
        refine zk_bipush hC dX6_refusal_31 (v := (-13)) (by decide +kernel) ?_
        refine zr_goto hC dX6_refusal_33 (tgt := 37) (by decide) ?_
        exact zr_ireturn hC hE dX6_refusal_37 (hr _ _ (hQ _ (by first | exact Or.inl ⟨rfl, c_5⟩ | exact Or.inr (Or.inl ⟨c_5, rfl, c_16⟩) | exact Or.inr (Or.inr ⟨c_5, c_16, Or.inl ⟨rfl, hk⟩⟩) | exact Or.inr (Or.inr ⟨c_5, c_16, Or.inr ⟨rfl, hk⟩⟩))))
      · dsimp only [Option.toList, List.cons_append, List.nil_append]
        refine zr_if_eq hC dX6_refusal_28 (tgt := 36) (by decide) (fun c_28 => ?_) (fun c => absurd c (by decide +kernel))
        refine zk_iconst hC dX6_refusal_36 (v := nI 0) (by decide +kernel) ?_
        exact zr_ireturn hC hE dX6_refusal_37 (hr _ _ (hQ _ (by first | exact Or.inl ⟨rfl, c_5⟩ | exact Or.inr (Or.inl ⟨c_5, rfl, c_16⟩) | exact Or.inr (Or.inr ⟨c_5, c_16, Or.inl ⟨rfl, hk⟩⟩) | exact Or.inr (Or.inr ⟨c_5, c_16, Or.inr ⟨rfl, hk⟩⟩))))
    · refine zk_bipush hC dX6_refusal_19 (v := (-12)) (by decide +kernel) ?_
      exact zr_ireturn hC hE dX6_refusal_21 (hr _ _ (hQ _ (by first | exact Or.inl ⟨rfl, c_5⟩ | exact Or.inr (Or.inl ⟨c_5, rfl, c_16⟩) | exact Or.inr (Or.inr ⟨c_5, c_16, Or.inl ⟨rfl, hk⟩⟩) | exact Or.inr (Or.inr ⟨c_5, c_16, Or.inr ⟨rfl, hk⟩⟩))))
  · refine zk_bipush hC dX6_refusal_8 (v := (-11)) (by decide +kernel) ?_
    exact zr_ireturn hC hE dX6_refusal_10 (hr _ _ (hQ _ (by first | exact Or.inl ⟨rfl, c_5⟩ | exact Or.inr (Or.inl ⟨c_5, rfl, c_16⟩) | exact Or.inr (Or.inr ⟨c_5, c_16, Or.inl ⟨rfl, hk⟩⟩) | exact Or.inr (Or.inr ⟨c_5, c_16, Or.inr ⟨rfl, hk⟩⟩))))
def spX6_put : zSp := fun av S Q => ∃ (t c j : Nat) (v : Int64), av = [.ref (237 + 2 * t), .int (nI j), .long v] ∧ t < 4 ∧ S.1 (237 + 2 * t) 1 = nI c ∧ c < 4 ∧ j < 24 ∧ Q none (zputL S (238 + 2 * t) j (lcut c v))
set_option maxHeartbeats 4000000 in
set_option maxRecDepth 100000 in
theorem tX6_put : zM yX6_put cX6_put 4 none 0 spX6_put := by
  refine zM.of (by decide) (by decide) (fun av S Q h => by obtain ⟨t, c, j, v, rfl, ht, hc, hc4, hj, hQ⟩ := h; exact Nat.le_of_ble_eq_true rfl) (fun C τ ι av S Q Qr h hr hC hE => ?_)
  obtain ⟨t, c, j, v, rfl, ht, hc, hc4, hj, hQ⟩ := h
  rcases (by omega : c = 0 ∨ c = 1 ∨ c = 2 ∨ c = 3) with rfl | rfl | rfl | rfl
  · show zR C τ ι _ 0 0 0 [(0, .ref (237 + 2 * t)), (1, .int (nI j)), (2, .long v)] [] _
    refine zr_aload_n hC dX6_put_0 rfl ?_
    refine zv_geti hC dX6_put_1 fl_X6_15 (a := 237 + 2 * t) (sh_f1 ht) (by omega) (hc) ?_
    refine zr_tableIn hC dX6_put_4 (off := 28) (tgt := 32) (by decide +kernel) (by decide +kernel) (by decide +kernel) (by decide) ?_
    refine zr_aload_n hC dX6_put_32 rfl ?_
    refine zs_getr hC dX6_put_33 fl_X6_9 (a := 237 + 2 * t) (r := 238 + 2 * t) (sh_f0 ht) (by omega) ?_
    refine zr_iload_n hC dX6_put_36 rfl ?_
    refine zr_lload_n hC dX6_put_37 rfl ?_
    refine zr_l2i hC dX6_put_38 ?_
    refine zr_i2b hC dX6_put_39 ?_
    refine zr_i2l hC dX6_put_40 ?_
    refine zs_last hC dX6_put_41 (a := 238 + 2 * t) (n := 24) (sh_ar ht) (by decide) (by omega) (j := j) rfl hj ?_
    refine zr_goto hC dX6_put_42 (tgt := 77) (by decide) ?_
    exact zr_vreturn hC hE dX6_put_77 (hr _ _ (hQ))
  · show zR C τ ι _ 0 0 0 [(0, .ref (237 + 2 * t)), (1, .int (nI j)), (2, .long v)] [] _
    refine zr_aload_n hC dX6_put_0 rfl ?_
    refine zv_geti hC dX6_put_1 fl_X6_15 (a := 237 + 2 * t) (sh_f1 ht) (by omega) (hc) ?_
    refine zr_tableIn hC dX6_put_4 (off := 41) (tgt := 45) (by decide +kernel) (by decide +kernel) (by decide +kernel) (by decide) ?_
    refine zr_aload_n hC dX6_put_45 rfl ?_
    refine zs_getr hC dX6_put_46 fl_X6_9 (a := 237 + 2 * t) (r := 238 + 2 * t) (sh_f0 ht) (by omega) ?_
    refine zr_iload_n hC dX6_put_49 rfl ?_
    refine zr_lload_n hC dX6_put_50 rfl ?_
    refine zr_l2i hC dX6_put_51 ?_
    refine zr_i2s hC dX6_put_52 ?_
    refine zr_i2l hC dX6_put_53 ?_
    refine zs_last hC dX6_put_54 (a := 238 + 2 * t) (n := 24) (sh_ar ht) (by decide) (by omega) (j := j) rfl hj ?_
    refine zr_goto hC dX6_put_55 (tgt := 77) (by decide) ?_
    exact zr_vreturn hC hE dX6_put_77 (hr _ _ (hQ))
  · show zR C τ ι _ 0 0 0 [(0, .ref (237 + 2 * t)), (1, .int (nI j)), (2, .long v)] [] _
    refine zr_aload_n hC dX6_put_0 rfl ?_
    refine zv_geti hC dX6_put_1 fl_X6_15 (a := 237 + 2 * t) (sh_f1 ht) (by omega) (hc) ?_
    refine zr_tableIn hC dX6_put_4 (off := 54) (tgt := 58) (by decide +kernel) (by decide +kernel) (by decide +kernel) (by decide) ?_
    refine zr_aload_n hC dX6_put_58 rfl ?_
    refine zs_getr hC dX6_put_59 fl_X6_9 (a := 237 + 2 * t) (r := 238 + 2 * t) (sh_f0 ht) (by omega) ?_
    refine zr_iload_n hC dX6_put_62 rfl ?_
    refine zr_lload_n hC dX6_put_63 rfl ?_
    refine zr_l2i hC dX6_put_64 ?_
    refine zr_i2l hC dX6_put_65 ?_
    refine zs_last hC dX6_put_66 (a := 238 + 2 * t) (n := 24) (sh_ar ht) (by decide) (by omega) (j := j) rfl hj ?_
    refine zr_goto hC dX6_put_67 (tgt := 77) (by decide) ?_
    exact zr_vreturn hC hE dX6_put_77 (hr _ _ (hQ))
  · show zR C τ ι _ 0 0 0 [(0, .ref (237 + 2 * t)), (1, .int (nI j)), (2, .long v)] [] _
    refine zr_aload_n hC dX6_put_0 rfl ?_
    refine zv_geti hC dX6_put_1 fl_X6_15 (a := 237 + 2 * t) (sh_f1 ht) (by omega) (hc) ?_
    refine zr_tableOut hC dX6_put_4 (tgt := 70) (by decide +kernel) (by decide) ?_
    refine zr_aload_n hC dX6_put_70 rfl ?_
    refine zs_getr hC dX6_put_71 fl_X6_9 (a := 237 + 2 * t) (r := 238 + 2 * t) (sh_f0 ht) (by omega) ?_
    refine zr_iload_n hC dX6_put_74 rfl ?_
    refine zr_lload_n hC dX6_put_75 rfl ?_
    refine zs_last hC dX6_put_76 (a := 238 + 2 * t) (n := 24) (sh_ar ht) (by decide) (by omega) (j := j) rfl hj ?_
    exact zr_vreturn hC hE dX6_put_77 (hr _ _ (hQ))
theorem z_chr : ∀ c, c < 128 → vp_nar .char (nI c) = nI c := by decide +kernel
def spX7_add : zSp := fun av S Q => ∃ c n : Nat, av = [.ref 229, .int (nI c)] ∧ c < 128 ∧ S.1 229 1 = nI n ∧ n < 90 ∧ Q none (zput (zput S 230 n (nI c)) 229 1 (nI (n + 1)))
def spX7_startsEvent : zSp := fun av S Q => ∃ c : Nat, av = [.int (nI c)] ∧ c < 128 ∧ ∀ r, (r = nI 1 ∧ (c = 43 ∨ c = 45 ∨ c = 33)) ∨ (r = nI 0 ∧ ¬ (c = 43 ∨ c = 45 ∨ c = 33)) → Q (some (.int r)) S
def spX7_figure : zSp := fun av S Q => ∃ c : Nat, av = [.int (nI c)] ∧ c < 128 ∧ ∀ r, (∃ f, fig c = some f ∧ f < 16 ∧ r = nI f) ∨ (fig c = none ∧ r = -1) → Q (some (.int r)) S
theorem zlk_or {lv : List (Nat × Value)} {i : Nat} (a : Bool) (h : zlk i lv = some (.int (zb a ||| nI 1)) := by rfl) : zlk i lv = some (.int (zb true)) := by
  rw [h, show zb a ||| nI 1 = zb true by cases a <;> decide +kernel]
theorem zlk_or0 {lv : List (Nat × Value)} {i : Nat} (a : Bool) (h : zlk i lv = some (.int (zb a ||| nI 0)) := by rfl) : zlk i lv = some (.int (zb a)) := by
  rw [h, show zb a ||| nI 0 = zb a by cases a <;> decide +kernel]
def spX7_fault : zSp := fun av S Q => ∃ (tp : Nat → Nat) (tn : Nat), av = [.ref 229] ∧ TR S tp tn ∧ Q (some (.int (flI (flt tp tn tn (false, false))))) S