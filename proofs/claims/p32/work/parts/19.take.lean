/-- the cells b .. b + 15 are a book's -/
def isB (b : Nat) : Prop := ∀ o, o < 16 → zsh (b + o) = zbookSh b o ∧ b + o < 245
theorem isB_1 : isB 1 := by
  intro o ho
  rcases (by omega : o = 0 ∨ o = 1 ∨ o = 2 ∨ o = 3 ∨ o = 4 ∨ o = 5 ∨ o = 6 ∨ o = 7 ∨ o = 8 ∨ o = 9 ∨ o = 10 ∨ o = 11 ∨ o = 12 ∨ o = 13 ∨ o = 14 ∨ o = 15) with rfl | rfl | rfl | rfl | rfl | rfl | rfl | rfl | rfl | rfl | rfl | rfl | rfl | rfl | rfl | rfl <;> exact ⟨rfl, by decide⟩
theorem isB_115 : isB 115 := by
  intro o ho
  rcases (by omega : o = 0 ∨ o = 1 ∨ o = 2 ∨ o = 3 ∨ o = 4 ∨ o = 5 ∨ o = 6 ∨ o = 7 ∨ o = 8 ∨ o = 9 ∨ o = 10 ∨ o = 11 ∨ o = 12 ∨ o = 13 ∨ o = 14 ∨ o = 15) with rfl | rfl | rfl | rfl | rfl | rfl | rfl | rfl | rfl | rfl | rfl | rfl | rfl | rfl | rfl | rfl <;> exact ⟨rfl, by decide⟩
theorem isB_p {x : Nat} (h : x < 6) : isB (19 + 16 * x) := by
  intro o ho
  rcases (by omega : x = 0 ∨ x = 1 ∨ x = 2 ∨ x = 3 ∨ x = 4 ∨ x = 5) with rfl | rfl | rfl | rfl | rfl | rfl <;> rcases (by omega : o = 0 ∨ o = 1 ∨ o = 2 ∨ o = 3 ∨ o = 4 ∨ o = 5 ∨ o = 6 ∨ o = 7 ∨ o = 8 ∨ o = 9 ∨ o = 10 ∨ o = 11 ∨ o = 12 ∨ o = 13 ∨ o = 14 ∨ o = 15) with rfl | rfl | rfl | rfl | rfl | rfl | rfl | rfl | rfl | rfl | rfl | rfl | rfl | rfl | rfl | rfl <;> exact ⟨rfl, by decide⟩
theorem isB_i {x : Nat} (h : x < 6) : isB (133 + 16 * x) := by
  intro o ho
  rcases (by omega : x = 0 ∨ x = 1 ∨ x = 2 ∨ x = 3 ∨ x = 4 ∨ x = 5) with rfl | rfl | rfl | rfl | rfl | rfl <;> rcases (by omega : o = 0 ∨ o = 1 ∨ o = 2 ∨ o = 3 ∨ o = 4 ∨ o = 5 ∨ o = 6 ∨ o = 7 ∨ o = 8 ∨ o = 9 ∨ o = 10 ∨ o = 11 ∨ o = 12 ∨ o = 13 ∨ o = 14 ∨ o = 15) with rfl | rfl | rfl | rfl | rfl | rfl | rfl | rfl | rfl | rfl | rfl | rfl | rfl | rfl | rfl | rfl <;> exact ⟨rfl, by decide⟩
def zfdB (b o k : Nat) : Option (Nat × Option Nat) := match zbookSh b o with
  | .inl (ci, fl) => (fl[k]?).map fun o => (ci, o)
  | _ => none
def zarB (b o : Nat) : Option (Nat × Nat) := match zbookSh b o with
  | .inr (.inl x) => some x
  | _ => none
theorem bk_fd {b o k : Nat} {x : Nat × Option Nat} (h : isB b) (ho : o < 16) (e : zfdB b o k = some x) : zfd (b + o) k = some x := by
  unfold zfd; rw [(h o ho).1]; exact e
theorem bk_ar {b o : Nat} {x : Nat × Nat} (h : isB b) (ho : o < 16) (e : zarB b o = some x) : zar (b + o) = some x := by
  unfold zar; rw [(h o ho).1]; exact e
theorem bk_lt {b : Nat} (h : isB b) (o : Nat) (ho : o < 16) : b + o < 245 := (h o ho).2
/-- the places of a book that mean something -/
def vald (o k : Nat) : Bool := match o with
  | 0 => decide (3 ≤ k ∧ k < 8)
  | 2 => decide (k < 16)
  | 3 => decide (k < 32)
  | 4 => decide (k = 0)
  | 5 => decide (k < 232)
  | 6 => decide (k < 232)
  | 7 => decide (k < 232)
  | 8 => decide (k < 32)
  | 9 => decide (k = 0)
  | 10 => decide (k < 192)
  | 11 => decide (k < 192)
  | 12 => decide (k < 192)
  | 13 => decide (k < 16)
  | 14 => decide (k < 16)
  | 15 => decide (k < 16)
  | _ => false
/-- so far the places P of the book at d are as those of the book at s were -/
def TK (d s : Nat) (S0 S : zS) (P : Nat → Nat → Prop) : Prop := (∀ a, (a < d ∨ d + 16 ≤ a) → S.1 a = S0.1 a) ∧ S.2 = S0.2 ∧ ∀ o k, o < 16 → P o k → S.1 (d + o) k = S0.1 (s + o) k
theorem TK.rf (d s : Nat) (S : zS) : TK d s S S (fun _ _ => False) := ⟨fun _ _ => rfl, rfl, fun _ _ _ h => h.elim⟩
theorem TK.src {d s : Nat} {S0 S : zS} {P : Nat → Nat → Prop} (h : TK d s S0 S P) (hsep : s + 16 ≤ d ∨ d + 16 ≤ s) {o : Nat} (ho : o < 16) : S.1 (s + o) = S0.1 (s + o) := h.1 _ (by omega)
theorem TK.cpy {d s : Nat} {S0 S : zS} {P : Nat → Nat → Prop} (h : TK d s S0 S P) (hsep : s + 16 ≤ d ∨ d + 16 ≤ s) (o n : Nat) (ho : o < 16) : TK d s S0 (zcpy S (s + o) 0 (d + o) 0 n) (fun o' k => (o' = o ∧ k < n) ∨ P o' k) := by
  refine ⟨fun a ha => ?_, h.2.1, fun o' k ho' hp => ?_⟩
  · rw [← h.1 a ha]
    funext k
    have : ¬ a = d + o := by omega
    simp [zcpy, this]
  · by_cases hc : o' = o ∧ k < n
    · obtain ⟨rfl, hk⟩ := hc
      have e : (zcpy S (s + o') 0 (d + o') 0 n).1 (d + o') k = S.1 (s + o') k := by simp [zcpy, hk]
      rw [e, h.src hsep ho]
    · have hp2 : P o' k := hp.resolve_left hc
      rw [← h.2.2 o' k ho' hp2]
      have : ¬ (d + o' = d + o ∧ 0 ≤ k ∧ k < 0 + n) := fun q => hc ⟨by omega, by omega⟩
      simp only [zcpy, if_neg this]
theorem TK.put {d s : Nat} {S0 S : zS} {P : Nat → Nat → Prop} (h : TK d s S0 S P) (o k0 : Nat) (ho : o < 16) {x : Int32} (hx : x = S0.1 (s + o) k0) : TK d s S0 (zput S (d + o) k0 x) (fun o' k => (o' = o ∧ k = k0) ∨ P o' k) := by
  subst hx
  refine ⟨fun a ha => ?_, h.2.1, fun o' k ho' hp => ?_⟩
  · rw [← h.1 a ha]
    exact zput_ne _ _ (by omega)
  · by_cases hc : o' = o ∧ k = k0
    · obtain ⟨rfl, rfl⟩ := hc
      rw [zput_at]
    · have hp2 : P o' k := hp.resolve_left hc
      rw [← h.2.2 o' k ho' hp2]
      have : ¬ (d + o' = d + o ∧ k = k0) := fun q => hc ⟨by omega, q.2⟩
      simp only [zput, if_neg this]
abbrev TKp (d s : Nat) (S0 S : zS) : Prop := TK d s S0 S (fun o k => vald o k = true)
theorem TK.mono {d s : Nat} {S0 S : zS} {P P' : Nat → Nat → Prop} (h : TK d s S0 S P) (hp : ∀ o k, o < 16 → P' o k → P o k) : TK d s S0 S P' := ⟨h.1, h.2.1, fun o k ho hk => h.2.2 o k ho (hp o k ho hk)⟩
/-- Seats at q -/
def SQ (q : Nat) : Prop := zfd q 0 = some (5, some (q + 1)) ∧ zfd q 1 = some (5, some (q + 2)) ∧ zar (q + 1) = some (0, 16) ∧ zar (q + 2) = some (0, 32) ∧ q + 2 < 245
theorem SQ_232 : SQ 232 := by unfold SQ; decide +kernel
theorem SQ_B {b : Nat} (h : isB b) : SQ (b + 1) := ⟨bk_fd h (by decide) rfl, bk_fd h (by decide) rfl, bk_ar (o := 2) h (by decide) rfl, bk_ar (o := 3) h (by decide) rfl, bk_lt h 3 (by decide)⟩
theorem vald_all {o k : Nat} (ho : o < 16) (h : vald o k = true) : (o = 15 ∧ k < 16) ∨ (o = 14 ∧ k < 16) ∨ (o = 13 ∧ k < 16) ∨ (o = 0 ∧ k = 7) ∨ (o = 0 ∧ k = 6) ∨ (o = 0 ∧ k = 5) ∨ (o = 0 ∧ k = 4) ∨ (o = 0 ∧ k = 3) ∨ (o = 12 ∧ k < 192) ∨ (o = 11 ∧ k < 192) ∨ (o = 10 ∧ k < 192) ∨ (o = 9 ∧ k = 0) ∨ (o = 8 ∧ k < 32) ∨ (o = 7 ∧ k < 232) ∨ (o = 6 ∧ k < 232) ∨ (o = 5 ∧ k < 232) ∨ (o = 4 ∧ k = 0) ∨ (o = 3 ∧ k < 32) ∨ (o = 2 ∧ k < 16) ∨ False := by
  rcases (by omega : o = 0 ∨ o = 1 ∨ o = 2 ∨ o = 3 ∨ o = 4 ∨ o = 5 ∨ o = 6 ∨ o = 7 ∨ o = 8 ∨ o = 9 ∨ o = 10 ∨ o = 11 ∨ o = 12 ∨ o = 13 ∨ o = 14 ∨ o = 15) with rfl | rfl | rfl | rfl | rfl | rfl | rfl | rfl | rfl | rfl | rfl | rfl | rfl | rfl | rfl | rfl <;> simp [vald] at h ⊢ <;> omega
def spX5_take : zSp := fun av S Q => ∃ q r : Nat, av = [.ref q, .ref r] ∧ SQ q ∧ SQ r ∧ Q none (zcpy (zcpy S (r + 1) 0 (q + 1) 0 16) (r + 2) 0 (q + 2) 0 32)
set_option maxHeartbeats 4000000 in
set_option maxRecDepth 100000 in
theorem tX5_take : zM yX5_take cX5_take 2 none 1 spX5_take := by
  refine zM.of (by decide) (by decide) (fun av S Q h => by obtain ⟨q, r, rfl, hq, hr2, hQ⟩ := h; exact Nat.le_of_ble_eq_true rfl) (fun C τ ι av S Q Qr h hr hC hE => ?_)
  obtain ⟨q, r, rfl, hq, hr2, hQ⟩ := h
  show zR C τ ι _ 0 0 0 [(0, .ref q), (1, .ref r)] [] _
  refine zr_aload_n hC dX5_take_0 rfl ?_
  refine zs_getr hC dX5_take_1 fl_X5_9 (a := r) (r := r + 1) (hr2.1) (by have := hr2.2.2.2.2; omega) ?_
  refine zk_iconst hC dX5_take_4 (v := nI 0) (by decide +kernel) ?_
  refine zr_aload_n hC dX5_take_5 rfl ?_
  refine zs_getr hC dX5_take_6 fl_X5_9 (a := q) (r := q + 1) (hq.1) (by have := hq.2.2.2.2; omega) ?_
  refine zk_iconst hC dX5_take_9 (v := nI 0) (by decide +kernel) ?_
  refine zk_bipush hC dX5_take_10 (v := nI 16) (by decide +kernel) ?_
  refine zs_copyi hC (by decide) (a := r + 1) (b := q + 1) dX5_take_12 ml_X5_18 (hr2.2.2.1) (hq.2.2.1) (by have := hr2.2.2.2.2; omega) (by have := hq.2.2.2.2; omega) (by decide) (by decide) rfl rfl rfl (by decide) (by decide) ?_
  refine zr_aload_n hC dX5_take_15 rfl ?_
  refine zs_getr hC dX5_take_16 fl_X5_15 (a := r) (r := r + 2) (hr2.2.1) (by have := hr2.2.2.2.2; omega) ?_
  refine zk_iconst hC dX5_take_19 (v := nI 0) (by decide +kernel) ?_
  refine zr_aload_n hC dX5_take_20 rfl ?_
  refine zs_getr hC dX5_take_21 fl_X5_15 (a := q) (r := q + 2) (hq.2.1) (by have := hq.2.2.2.2; omega) ?_
  refine zk_iconst hC dX5_take_24 (v := nI 0) (by decide +kernel) ?_
  refine zk_bipush hC dX5_take_25 (v := nI 32) (by decide +kernel) ?_
  refine zs_copyi hC (by decide) (a := r + 2) (b := q + 2) dX5_take_27 ml_X5_18 (hr2.2.2.2.1) (hq.2.2.2.1) (hr2.2.2.2.2) (hq.2.2.2.2) (by decide) (by decide) rfl rfl rfl (by decide) (by decide) ?_
  exact zr_vreturn hC hE dX5_take_30 (hr _ _ (hQ))
def spX1_take : zSp := fun av S Q => ∃ d s : Nat, av = [.ref (d + 4), .ref (s + 4)] ∧ isB d ∧ isB s ∧ Q none (zcpy (zcpy (zcpy (zcpy (zput S (d + 4) 0 (S.1 (s + 4) 0)) (s + 5) 0 (d + 5) 0 232) (s + 6) 0 (d + 6) 0 232) (s + 7) 0 (d + 7) 0 232) (s + 8) 0 (d + 8) 0 32)
set_option maxHeartbeats 4000000 in
set_option maxRecDepth 100000 in
theorem tX1_take : zM yX1_take cX1_take 2 none 1 spX1_take := by
  refine zM.of (by decide) (by decide) (fun av S Q h => by obtain ⟨d, s, rfl, hd, hs, hQ⟩ := h; exact Nat.le_of_ble_eq_true rfl) (fun C τ ι av S Q Qr h hr hC hE => ?_)
  obtain ⟨d, s, rfl, hd, hs, hQ⟩ := h
  show zR C τ ι _ 0 0 0 [(0, .ref (d + 4)), (1, .ref (s + 4))] [] _
  refine zr_aload_n hC dX1_take_0 rfl ?_
  refine zr_aload_n hC dX1_take_1 rfl ?_
  refine zs_geti hC dX1_take_2 fl_X1_30 (a := s + 4) (bk_fd hs (by decide) rfl) (bk_lt hs 4 (by decide)) ?_
  refine zs_puti hC dX1_take_5 fl_X1_30 fp_X1_0 (a := d + 4) (bk_fd hd (by decide) rfl) (bk_lt hd 4 (by decide)) ?_
  refine zr_aload_n hC dX1_take_8 rfl ?_
  refine zs_getr hC dX1_take_9 fl_X1_9 (a := s + 4) (r := s + 5) (bk_fd hs (by decide) rfl) (bk_lt hs 4 (by decide)) ?_
  refine zk_iconst hC dX1_take_12 (v := nI 0) (by decide +kernel) ?_
  refine zr_aload_n hC dX1_take_13 rfl ?_
  refine zs_getr hC dX1_take_14 fl_X1_9 (a := d + 4) (r := d + 5) (bk_fd hd (by decide) rfl) (bk_lt hd 4 (by decide)) ?_
  refine zk_iconst hC dX1_take_17 (v := nI 0) (by decide +kernel) ?_
  refine zk_sipush hC dX1_take_18 (v := nI 232) (by decide +kernel) ?_
  refine zs_copyi hC (by decide) (a := s + 5) (b := d + 5) dX1_take_21 ml_X1_34 (bk_ar (o := 5) hs (by decide) rfl) (bk_ar (o := 5) hd (by decide) rfl) (bk_lt hs 5 (by decide)) (bk_lt hd 5 (by decide)) (by decide) (by decide) rfl rfl rfl (by decide) (by decide) ?_
  refine zr_aload_n hC dX1_take_24 rfl ?_
  refine zs_getr hC dX1_take_25 fl_X1_15 (a := s + 4) (r := s + 6) (bk_fd hs (by decide) rfl) (bk_lt hs 4 (by decide)) ?_
  refine zk_iconst hC dX1_take_28 (v := nI 0) (by decide +kernel) ?_
  refine zr_aload_n hC dX1_take_29 rfl ?_
  refine zs_getr hC dX1_take_30 fl_X1_15 (a := d + 4) (r := d + 6) (bk_fd hd (by decide) rfl) (bk_lt hd 4 (by decide)) ?_
  refine zk_iconst hC dX1_take_33 (v := nI 0) (by decide +kernel) ?_
  refine zk_sipush hC dX1_take_34 (v := nI 232) (by decide +kernel) ?_
  refine zs_copyi hC (by decide) (a := s + 6) (b := d + 6) dX1_take_37 ml_X1_34 (bk_ar (o := 6) hs (by decide) rfl) (bk_ar (o := 6) hd (by decide) rfl) (bk_lt hs 6 (by decide)) (bk_lt hd 6 (by decide)) (by decide) (by decide) rfl rfl rfl (by decide) (by decide) ?_
  refine zr_aload_n hC dX1_take_40 rfl ?_
  refine zs_getr hC dX1_take_41 fl_X1_18 (a := s + 4) (r := s + 7) (bk_fd hs (by decide) rfl) (bk_lt hs 4 (by decide)) ?_
  refine zk_iconst hC dX1_take_44 (v := nI 0) (by decide +kernel) ?_
  refine zr_aload_n hC dX1_take_45 rfl ?_
  refine zs_getr hC dX1_take_46 fl_X1_18 (a := d + 4) (r := d + 7) (bk_fd hd (by decide) rfl) (bk_lt hd 4 (by decide)) ?_
  refine zk_iconst hC dX1_take_49 (v := nI 0) (by decide +kernel) ?_
  refine zk_sipush hC dX1_take_50 (v := nI 232) (by decide +kernel) ?_
  refine zs_copyi hC (by decide) (a := s + 7) (b := d + 7) dX1_take_53 ml_X1_34 (bk_ar (o := 7) hs (by decide) rfl) (bk_ar (o := 7) hd (by decide) rfl) (bk_lt hs 7 (by decide)) (bk_lt hd 7 (by decide)) (by decide) (by decide) rfl rfl rfl (by decide) (by decide) ?_
  refine zr_aload_n hC dX1_take_56 rfl ?_
  refine zs_getr hC dX1_take_57 fl_X1_21 (a := s + 4) (r := s + 8) (bk_fd hs (by decide) rfl) (bk_lt hs 4 (by decide)) ?_
  refine zk_iconst hC dX1_take_60 (v := nI 0) (by decide +kernel) ?_
  refine zr_aload_n hC dX1_take_61 rfl ?_
  refine zs_getr hC dX1_take_62 fl_X1_21 (a := d + 4) (r := d + 8) (bk_fd hd (by decide) rfl) (bk_lt hd 4 (by decide)) ?_
  refine zk_iconst hC dX1_take_65 (v := nI 0) (by decide +kernel) ?_
  refine zk_bipush hC dX1_take_66 (v := nI 32) (by decide +kernel) ?_
  refine zs_copyi hC (by decide) (a := s + 8) (b := d + 8) dX1_take_68 ml_X1_34 (bk_ar (o := 8) hs (by decide) rfl) (bk_ar (o := 8) hd (by decide) rfl) (bk_lt hs 8 (by decide)) (bk_lt hd 8 (by decide)) (by decide) (by decide) rfl rfl rfl (by decide) (by decide) ?_
  exact zr_vreturn hC hE dX1_take_71 (hr _ _ (hQ))
def spX2_take : zSp := fun av S Q => ∃ d s : Nat, av = [.ref (d + 9), .ref (s + 9)] ∧ isB d ∧ isB s ∧ Q none (zcpy (zcpy (zcpy (zput S (d + 9) 0 (S.1 (s + 9) 0)) (s + 10) 0 (d + 10) 0 192) (s + 11) 0 (d + 11) 0 192) (s + 12) 0 (d + 12) 0 192)
set_option maxHeartbeats 4000000 in
set_option maxRecDepth 100000 in
theorem tX2_take : zM yX2_take cX2_take 2 none 1 spX2_take := by
  refine zM.of (by decide) (by decide) (fun av S Q h => by obtain ⟨d, s, rfl, hd, hs, hQ⟩ := h; exact Nat.le_of_ble_eq_true rfl) (fun C τ ι av S Q Qr h hr hC hE => ?_)
  obtain ⟨d, s, rfl, hd, hs, hQ⟩ := h
  show zR C τ ι _ 0 0 0 [(0, .ref (d + 9)), (1, .ref (s + 9))] [] _
  refine zr_aload_n hC dX2_take_0 rfl ?_
  refine zr_aload_n hC dX2_take_1 rfl ?_
  refine zs_geti hC dX2_take_2 fl_X2_21 (a := s + 9) (bk_fd hs (by decide) rfl) (bk_lt hs 9 (by decide)) ?_
  refine zs_puti hC dX2_take_5 fl_X2_21 fp_X2_0 (a := d + 9) (bk_fd hd (by decide) rfl) (bk_lt hd 9 (by decide)) ?_
  refine zr_aload_n hC dX2_take_8 rfl ?_
  refine zs_getr hC dX2_take_9 fl_X2_9 (a := s + 9) (r := s + 10) (bk_fd hs (by decide) rfl) (bk_lt hs 9 (by decide)) ?_
  refine zk_iconst hC dX2_take_12 (v := nI 0) (by decide +kernel) ?_
  refine zr_aload_n hC dX2_take_13 rfl ?_
  refine zs_getr hC dX2_take_14 fl_X2_9 (a := d + 9) (r := d + 10) (bk_fd hd (by decide) rfl) (bk_lt hd 9 (by decide)) ?_
  refine zk_iconst hC dX2_take_17 (v := nI 0) (by decide +kernel) ?_
  refine zk_sipush hC dX2_take_18 (v := nI 192) (by decide +kernel) ?_
  refine zs_copyi hC (by decide) (a := s + 10) (b := d + 10) dX2_take_21 ml_X2_25 (bk_ar (o := 10) hs (by decide) rfl) (bk_ar (o := 10) hd (by decide) rfl) (bk_lt hs 10 (by decide)) (bk_lt hd 10 (by decide)) (by decide) (by decide) rfl rfl rfl (by decide) (by decide) ?_
  refine zr_aload_n hC dX2_take_24 rfl ?_
  refine zs_getr hC dX2_take_25 fl_X2_15 (a := s + 9) (r := s + 11) (bk_fd hs (by decide) rfl) (bk_lt hs 9 (by decide)) ?_
  refine zk_iconst hC dX2_take_28 (v := nI 0) (by decide +kernel) ?_
  refine zr_aload_n hC dX2_take_29 rfl ?_
  refine zs_getr hC dX2_take_30 fl_X2_15 (a := d + 9) (r := d + 11) (bk_fd hd (by decide) rfl) (bk_lt hd 9 (by decide)) ?_
  refine zk_iconst hC dX2_take_33 (v := nI 0) (by decide +kernel) ?_
  refine zk_sipush hC dX2_take_34 (v := nI 192) (by decide +kernel) ?_
  refine zs_copyi hC (by decide) (a := s + 11) (b := d + 11) dX2_take_37 ml_X2_25 (bk_ar (o := 11) hs (by decide) rfl) (bk_ar (o := 11) hd (by decide) rfl) (bk_lt hs 11 (by decide)) (bk_lt hd 11 (by decide)) (by decide) (by decide) rfl rfl rfl (by decide) (by decide) ?_
  refine zr_aload_n hC dX2_take_40 rfl ?_
  refine zs_getr hC dX2_take_41 fl_X2_18 (a := s + 9) (r := s + 12) (bk_fd hs (by decide) rfl) (bk_lt hs 9 (by decide)) ?_
  refine zk_iconst hC dX2_take_44 (v := nI 0) (by decide +kernel) ?_
  refine zr_aload_n hC dX2_take_45 rfl ?_
  refine zs_getr hC dX2_take_46 fl_X2_18 (a := d + 9) (r := d + 12) (bk_fd hd (by decide) rfl) (bk_lt hd 9 (by decide)) ?_
  refine zk_iconst hC dX2_take_49 (v := nI 0) (by decide +kernel) ?_
  refine zk_sipush hC dX2_take_50 (v := nI 192) (by decide +kernel) ?_
  refine zs_copyi hC (by decide) (a := s + 12) (b := d + 12) dX2_take_53 ml_X2_25 (bk_ar (o := 12) hs (by decide) rfl) (bk_ar (o := 12) hd (by decide) rfl) (bk_lt hs 12 (by decide)) (bk_lt hd 12 (by decide)) (by decide) (by decide) rfl rfl rfl (by decide) (by decide) ?_
  exact zr_vreturn hC hE dX2_take_56 (hr _ _ (hQ))
def spX0_take : zSp := fun av S Q => ∃ d s : Nat, av = [.ref d, .ref s] ∧ isB d ∧ isB s ∧ (s + 16 ≤ d ∨ d + 16 ≤ s) ∧ ∀ S', TKp d s S S' → Q none S'
set_option maxHeartbeats 4000000 in
set_option maxRecDepth 100000 in
theorem tX0_take : zM yX0_take cX0_take 2 none 2 spX0_take := by
  refine zM.of (by decide) (by decide) (fun av S Q h => by obtain ⟨d, s, rfl, hd, hs, hsep, hQ⟩ := h; exact Nat.le_of_ble_eq_true rfl) (fun C τ ι av S Q Qr h hr hC hE => ?_)
  obtain ⟨d, s, rfl, hd, hs, hsep, hQ⟩ := h
  show zR C τ ι _ 0 0 0 [(0, .ref d), (1, .ref s)] [] _
  refine zr_aload_n hC dX0_take_0 rfl ?_
  refine zs_getr hC dX0_take_1 fl_X0_12 (a := d) (r := d + 1) (bk_fd (o := 0) hd (by decide) rfl) (bk_lt hd 0 (by decide)) ?_
  refine zr_aload_n hC dX0_take_4 rfl ?_
  refine zs_getr hC dX0_take_5 fl_X0_12 (a := s) (r := s + 1) (bk_fd (o := 0) hs (by decide) rfl) (bk_lt hs 0 (by decide)) ?_
  refine zs_callV hC (b := d + 1) [_] [] dX0_take_8 ml_X0_52 mtX5_take tX5_take (by decide) (by decide) (by decide) rfl ((hd 1 (by decide)).1) (bk_lt hd 1 (by decide)) (by decide +kernel) (Nat.le_of_ble_eq_true rfl) rfl ?_
  refine ⟨d + 1, s + 1, rfl, SQ_B hd, SQ_B hs, ?_⟩
  have T1 := ((TK.rf d s S).cpy hsep 2 16 (by decide)).cpy hsep 3 32 (by decide)
  revert T1
  generalize zcpy (zcpy S (s + 1 + 1) 0 (d + 1 + 1) 0 16) (s + 1 + 2) 0 (d + 1 + 2) 0 32 = S1
  intro T1
  dsimp only [Option.toList, List.nil_append]
  refine zr_aload_n hC dX0_take_11 rfl ?_
  refine zs_getr hC dX0_take_12 fl_X0_21 (a := d) (r := d + 4) (bk_fd (o := 0) hd (by decide) rfl) (bk_lt hd 0 (by decide)) ?_
  refine zr_aload_n hC dX0_take_15 rfl ?_
  refine zs_getr hC dX0_take_16 fl_X0_21 (a := s) (r := s + 4) (bk_fd (o := 0) hs (by decide) rfl) (bk_lt hs 0 (by decide)) ?_
  refine zs_callV hC (b := d + 4) [_] [] dX0_take_19 ml_X0_56 mtX1_take tX1_take (by decide) (by decide) (by decide) rfl ((hd 4 (by decide)).1) (bk_lt hd 4 (by decide)) (by decide +kernel) (Nat.le_of_ble_eq_true rfl) rfl ?_
  refine ⟨d, s, rfl, hd, hs, ?_⟩
  have T2 := ((((T1.put 4 0 (by decide) (congrFun (T1.src hsep (by decide)) 0)).cpy hsep 5 232 (by decide)).cpy hsep 6 232 (by decide)).cpy hsep 7 232 (by decide)).cpy hsep 8 32 (by decide)
  clear T1
  revert T2
  generalize zcpy (zcpy (zcpy (zcpy (zput S1 (d + 4) 0 (S1.1 (s + 4) 0)) (s + 5) 0 (d + 5) 0 232) (s + 6) 0 (d + 6) 0 232) (s + 7) 0 (d + 7) 0 232) (s + 8) 0 (d + 8) 0 32 = S2
  intro T2
  dsimp only [Option.toList, List.nil_append]
  refine zr_aload_n hC dX0_take_22 rfl ?_
  refine zs_getr hC dX0_take_23 fl_X0_28 (a := d) (r := d + 9) (bk_fd (o := 0) hd (by decide) rfl) (bk_lt hd 0 (by decide)) ?_
  refine zr_aload_n hC dX0_take_26 rfl ?_
  refine zs_getr hC dX0_take_27 fl_X0_28 (a := s) (r := s + 9) (bk_fd (o := 0) hs (by decide) rfl) (bk_lt hs 0 (by decide)) ?_
  refine zs_callV hC (b := d + 9) [_] [] dX0_take_30 ml_X0_59 mtX2_take tX2_take (by decide) (by decide) (by decide) rfl ((hd 9 (by decide)).1) (bk_lt hd 9 (by decide)) (by decide +kernel) (Nat.le_of_ble_eq_true rfl) rfl ?_
  refine ⟨d, s, rfl, hd, hs, ?_⟩
  have T3 := (((T2.put 9 0 (by decide) (congrFun (T2.src hsep (by decide)) 0)).cpy hsep 10 192 (by decide)).cpy hsep 11 192 (by decide)).cpy hsep 12 192 (by decide)
  clear T2
  revert T3
  generalize zcpy (zcpy (zcpy (zput S2 (d + 9) 0 (S2.1 (s + 9) 0)) (s + 10) 0 (d + 10) 0 192) (s + 11) 0 (d + 11) 0 192) (s + 12) 0 (d + 12) 0 192 = S3
  intro T3
  dsimp only [Option.toList, List.nil_append]
  refine zr_aload_n hC dX0_take_33 rfl ?_
  refine zr_aload_n hC dX0_take_34 rfl ?_
  refine zv_geti hC dX0_take_35 fl_X0_62 (a := s) (bk_fd (o := 0) hs (by decide) rfl) (bk_lt hs 0 (by decide)) (congrFun (TK.src T3 hsep (o := 0) (by decide)) 3) ?_
  refine zs_puti hC dX0_take_38 fl_X0_62 fp_X0_3 (a := d) (bk_fd (o := 0) hd (by decide) rfl) (bk_lt hd 0 (by decide)) ?_
  refine zr_aload_n hC dX0_take_41 rfl ?_
  refine zr_aload_n hC dX0_take_42 rfl ?_
  refine zv_geti hC dX0_take_43 fl_X0_65 (a := s) (bk_fd (o := 0) hs (by decide) rfl) (bk_lt hs 0 (by decide)) (congrFun (TK.src (T3.put 0 3 (by decide) rfl) hsep (o := 0) (by decide)) 4) ?_
  refine zs_puti hC dX0_take_46 fl_X0_65 fp_X0_4 (a := d) (bk_fd (o := 0) hd (by decide) rfl) (bk_lt hd 0 (by decide)) ?_
  refine zr_aload_n hC dX0_take_49 rfl ?_
  refine zr_aload_n hC dX0_take_50 rfl ?_
  refine zv_geti hC dX0_take_51 fl_X0_68 (a := s) (bk_fd (o := 0) hs (by decide) rfl) (bk_lt hs 0 (by decide)) (congrFun (TK.src ((T3.put 0 3 (by decide) rfl).put 0 4 (by decide) rfl) hsep (o := 0) (by decide)) 5) ?_
  refine zs_puti hC dX0_take_54 fl_X0_68 fp_X0_5 (a := d) (bk_fd (o := 0) hd (by decide) rfl) (bk_lt hd 0 (by decide)) ?_
  refine zr_aload_n hC dX0_take_57 rfl ?_
  refine zr_aload_n hC dX0_take_58 rfl ?_
  refine zv_geti hC dX0_take_59 fl_X0_71 (a := s) (bk_fd (o := 0) hs (by decide) rfl) (bk_lt hs 0 (by decide)) (congrFun (TK.src (((T3.put 0 3 (by decide) rfl).put 0 4 (by decide) rfl).put 0 5 (by decide) rfl) hsep (o := 0) (by decide)) 6) ?_
  refine zs_puti hC dX0_take_62 fl_X0_71 fp_X0_6 (a := d) (bk_fd (o := 0) hd (by decide) rfl) (bk_lt hd 0 (by decide)) ?_
  refine zr_aload_n hC dX0_take_65 rfl ?_
  refine zr_aload_n hC dX0_take_66 rfl ?_
  refine zv_geti hC dX0_take_67 fl_X0_32 (a := s) (bk_fd (o := 0) hs (by decide) rfl) (bk_lt hs 0 (by decide)) (congrFun (TK.src ((((T3.put 0 3 (by decide) rfl).put 0 4 (by decide) rfl).put 0 5 (by decide) rfl).put 0 6 (by decide) rfl) hsep (o := 0) (by decide)) 7) ?_
  refine zs_puti hC dX0_take_70 fl_X0_32 fp_X0_7 (a := d) (bk_fd (o := 0) hd (by decide) rfl) (bk_lt hd 0 (by decide)) ?_
  refine zr_aload_n hC dX0_take_73 rfl ?_
  refine zs_getr hC dX0_take_74 fl_X0_36 (a := s) (r := s + 13) (bk_fd (o := 0) hs (by decide) rfl) (bk_lt hs 0 (by decide)) ?_
  refine zk_iconst hC dX0_take_77 (v := nI 0) (by decide +kernel) ?_
  refine zr_aload_n hC dX0_take_78 rfl ?_
  refine zs_getr hC dX0_take_79 fl_X0_36 (a := d) (r := d + 13) (bk_fd (o := 0) hd (by decide) rfl) (bk_lt hd 0 (by decide)) ?_
  refine zk_iconst hC dX0_take_82 (v := nI 0) (by decide +kernel) ?_
  refine zk_bipush hC dX0_take_83 (v := nI 16) (by decide +kernel) ?_
  refine zs_copyi hC (by decide) (a := s + 13) (b := d + 13) dX0_take_85 ml_X0_74 (bk_ar (o := 13) hs (by decide) rfl) (bk_ar (o := 13) hd (by decide) rfl) (bk_lt hs 13 (by decide)) (bk_lt hd 13 (by decide)) (by decide) (by decide) rfl rfl rfl (by decide) (by decide) ?_
  refine zr_aload_n hC dX0_take_88 rfl ?_
  refine zs_getr hC dX0_take_89 fl_X0_40 (a := s) (r := s + 14) (bk_fd (o := 0) hs (by decide) rfl) (bk_lt hs 0 (by decide)) ?_
  refine zk_iconst hC dX0_take_92 (v := nI 0) (by decide +kernel) ?_
  refine zr_aload_n hC dX0_take_93 rfl ?_
  refine zs_getr hC dX0_take_94 fl_X0_40 (a := d) (r := d + 14) (bk_fd (o := 0) hd (by decide) rfl) (bk_lt hd 0 (by decide)) ?_
  refine zk_iconst hC dX0_take_97 (v := nI 0) (by decide +kernel) ?_
  refine zk_bipush hC dX0_take_98 (v := nI 16) (by decide +kernel) ?_
  refine zs_copyi hC (by decide) (a := s + 14) (b := d + 14) dX0_take_100 ml_X0_74 (bk_ar (o := 14) hs (by decide) rfl) (bk_ar (o := 14) hd (by decide) rfl) (bk_lt hs 14 (by decide)) (bk_lt hd 14 (by decide)) (by decide) (by decide) rfl rfl rfl (by decide) (by decide) ?_
  refine zr_aload_n hC dX0_take_103 rfl ?_
  refine zs_getr hC dX0_take_104 fl_X0_43 (a := s) (r := s + 15) (bk_fd (o := 0) hs (by decide) rfl) (bk_lt hs 0 (by decide)) ?_
  refine zk_iconst hC dX0_take_107 (v := nI 0) (by decide +kernel) ?_
  refine zr_aload_n hC dX0_take_108 rfl ?_
  refine zs_getr hC dX0_take_109 fl_X0_43 (a := d) (r := d + 15) (bk_fd (o := 0) hd (by decide) rfl) (bk_lt hd 0 (by decide)) ?_
  refine zk_iconst hC dX0_take_112 (v := nI 0) (by decide +kernel) ?_
  refine zk_bipush hC dX0_take_113 (v := nI 16) (by decide +kernel) ?_
  refine zs_copyi hC (by decide) (a := s + 15) (b := d + 15) dX0_take_115 ml_X0_74 (bk_ar (o := 15) hs (by decide) rfl) (bk_ar (o := 15) hd (by decide) rfl) (bk_lt hs 15 (by decide)) (bk_lt hd 15 (by decide)) (by decide) (by decide) rfl rfl rfl (by decide) (by decide) ?_
  exact zr_vreturn hC hE dX0_take_118 (hr _ _ (hQ _ (TK.mono ((((((((T3.put 0 3 (by decide) rfl).put 0 4 (by decide) rfl).put 0 5 (by decide) rfl).put 0 6 (by decide) rfl).put 0 7 (by decide) rfl).cpy hsep 13 16 (by decide)).cpy hsep 14 16 (by decide)).cpy hsep 15 16 (by decide)) fun o k ho hv => vald_all ho hv)))
