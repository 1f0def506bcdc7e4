/-! THE MODEL: an event of a text -/
/-- d letters are left: how many are behind the spaces -/
def sk (tp : Nat → Nat) (tn : Nat) : Nat → Nat
  | 0 => 0
  | d + 1 => if tp (tn - (d + 1)) = 32 then sk tp tn d else d + 1
theorem sk_le {tp : Nat → Nat} {tn : Nat} : ∀ d, sk tp tn d ≤ d
  | 0 => Nat.le_refl 0
  | d + 1 => by
    have := sk_le (tp := tp) (tn := tn) d
    unfold sk
    split <;> omega
theorem sk_ne {tp : Nat → Nat} {tn : Nat} : ∀ d, sk tp tn d ≠ 0 → tp (tn - sk tp tn d) ≠ 32
  | 0, h => absurd rfl h
  | d + 1, h => by
    unfold sk at h ⊢
    split
    next q => rw [if_pos q] at h; exact sk_ne d h
    next q => exact q
theorem sk_sk {tp : Nat → Nat} {tn : Nat} (d : Nat) : sk tp tn (sk tp tn d) = sk tp tn d := by
  have h := sk_ne (tp := tp) (tn := tn) d
  generalize sk tp tn d = e at *
  cases e with
  | zero => rfl
  | succ e => exact if_neg (h (Nat.succ_ne_zero e))
/-- the letter there; 0 at the end -/
def hcN (tp : Nat → Nat) (tn d : Nat) : Nat := if d = 0 then 0 else tp (tn - d)
/-- an event, and how many letters are left then -/
def evn (tp : Nat → Nat) (tn d : Nat) : Option Nat × Nat := if hcN tp tn (sk tp tn d) = 33 then (some 32, sk tp tn d - 1) else if hcN tp tn (sk tp tn d) = 43 ∨ hcN tp tn (sk tp tn d) = 45 then (match fig (hcN tp tn (sk tp tn (sk tp tn d - 1))) with
  | some f => (some (if hcN tp tn (sk tp tn d) = 43 then f else 16 + f), sk tp tn (sk tp tn d - 1) - 1)
  | none => (none, sk tp tn (sk tp tn d - 1))) else (none, sk tp tn d)
def evI : Option Nat → Int32
  | none => -1
  | some e => nI e
theorem evn_33 {tp : Nat → Nat} {tn d : Nat} (h : hcN tp tn (sk tp tn d) = 33) : evn tp tn d = (some 32, sk tp tn d - 1) := if_pos h
theorem evn_no {tp : Nat → Nat} {tn d : Nat} (h : hcN tp tn (sk tp tn d) ≠ 33) (h2 : hcN tp tn (sk tp tn d) ≠ 43) (h3 : hcN tp tn (sk tp tn d) ≠ 45) : evn tp tn d = (none, sk tp tn d) := (if_neg h).trans (if_neg (fun q => q.elim h2 h3))
theorem evn_43 {tp : Nat → Nat} {tn d f : Nat} (h : hcN tp tn (sk tp tn d) = 43) (hf : fig (hcN tp tn (sk tp tn (sk tp tn d - 1))) = some f) : evn tp tn d = (some f, sk tp tn (sk tp tn d - 1) - 1) := by
  unfold evn; rw [if_neg (by omega), if_pos (Or.inl h), hf]; dsimp only; rw [if_pos h]
theorem evn_45 {tp : Nat → Nat} {tn d f : Nat} (h : hcN tp tn (sk tp tn d) = 45) (hf : fig (hcN tp tn (sk tp tn (sk tp tn d - 1))) = some f) : evn tp tn d = (some (16 + f), sk tp tn (sk tp tn d - 1) - 1) := by
  unfold evn; rw [if_neg (by omega), if_pos (Or.inr h), hf]; dsimp only; rw [if_neg (by omega)]
theorem evn_x {tp : Nat → Nat} {tn d : Nat} (h : hcN tp tn (sk tp tn d) = 43 ∨ hcN tp tn (sk tp tn d) = 45) (hf : fig (hcN tp tn (sk tp tn (sk tp tn d - 1))) = none) : evn tp tn d = (none, sk tp tn (sk tp tn d - 1)) := by
  unfold evn; rw [if_neg (by omega), if_pos h, hf]
theorem zput_2 (S : zS) {a k : Nat} {x y : Int32} : zput (zput S a k x) a k y = zput S a k y := by
  unfold zput
  apply Prod.ext
  · funext a' k'
    show (if a' = a ∧ k' = k then y else if a' = a ∧ k' = k then x else S.1 a' k') = if a' = a ∧ k' = k then y else S.1 a' k'
    split
    · rfl
    · rfl
  · rfl
theorem zput_id (S : zS) {a k : Nat} {x : Int32} (h : S.1 a k = x) : zput S a k x = S := by
  unfold zput
  apply Prod.ext
  · funext a' k'
    show (if a' = a ∧ k' = k then x else S.1 a' k') = S.1 a' k'
    split
    next q => rw [q.1, q.2, h]
    next => rfl
  · rfl
theorem MT.p7 {S : zS} {t : (Nat → Nat) × Nat} {x : Int32} (h : MT S t) : MT (zput S 245 7 x) t := h.fr (zput_k _ _ (by decide)) (zput_ne _ _ (by decide))
set_option maxHeartbeats 4000000 in
set_option maxRecDepth 100000 in
theorem l9_here {C : zCx} {τ : Nat → ClassId} {ι : Nat → Nat} (hC : zOK C τ (zrm 0 0 0) yX9_here.cls cX9_here 1) {S0 : zS} {tp : Nat → Nat} {tn : Nat} (hT : MT S0 (tp, tn)) (hL : ∀ i, i < tn → 32 ≤ tp i ∧ tp i ≤ 126) : ∀ (d : Nat), d ≤ tn → zR C τ ι 1 0 0 38 [(0, .ref 245)] [] (zcells (zput S0 245 7 (nI (tn - sk tp tn d)))) → zR C τ ι 1 0 0 0 [(0, .ref 245)] [] (zcells (zput S0 245 7 (nI (tn - d)))) := by
  intro d
  induction d with
  | zero =>
    intro hd k
    refine zr_aload_n hC dX9_here_0 rfl ?_
    refine zv_geti hC dX9_here_1 fl_X9_207 (a := 245) rfl (by decide) (zput_at _ 245 7 _) ?_
    refine zr_aload_n hC dX9_here_4 rfl ?_
    refine zv_geti hC dX9_here_5 fl_X9_204 (a := 245) rfl (by decide) (hT.p7.1) ?_
    refine zr_icmp_ge hC dX9_here_8 (tgt := 38) (by decide) (fun c_8 => ?_) (fun c => absurd c (not_not_intro (nI_le (by omega) (by have := hT.2.1; dsimp only at this; omega))))
    exact k
  | succ d ih =>
    intro hd k
    refine zr_aload_n hC dX9_here_0 rfl ?_
    refine zv_geti hC dX9_here_1 fl_X9_207 (a := 245) rfl (by decide) (zput_at _ 245 7 _) ?_
    refine zr_aload_n hC dX9_here_4 rfl ?_
    refine zv_geti hC dX9_here_5 fl_X9_204 (a := 245) rfl (by decide) (hT.p7.1) ?_
    refine zr_icmp_ge hC dX9_here_8 (tgt := 38) (by decide) (fun c => absurd c (nI_ge (by omega) (by have := hT.2.1; dsimp only at this; omega))) (fun c_8 => ?_)
    by_cases h32 : tp (tn - (d + 1)) = 32
    · refine zr_aload_n hC dX9_here_11 rfl ?_
      refine zs_getr hC dX9_here_12 fl_X9_26 (a := 245) (r := 251) rfl (by decide) ?_
      refine zr_aload_n hC dX9_here_15 rfl ?_
      refine zv_geti hC dX9_here_16 fl_X9_207 (a := 245) rfl (by decide) (zput_at _ 245 7 _) ?_
      refine zv_iald hC dX9_here_19 (a := 251) (n := 90) rfl (by decide) (by decide) (j := tn - (d + 1)) rfl (by have := hT.2.1; dsimp only at this; omega) (((congrFun (zput_ne S0 _ (by decide)) _).trans (show S0.1 251 (tn - (d + 1)) = nI (tp (tn - (d + 1))) from hT.2.2 _ (show tn - (d + 1) < tn by omega))).trans (congrArg nI h32)) ?_
      refine zk_bipush hC dX9_here_20 (v := nI 32) (by decide +kernel) ?_
      refine zr_icmp_ne hC dX9_here_22 (tgt := 38) (by decide) (fun c => absurd c (by decide +kernel)) (fun c_22 => ?_)
      refine zr_aload_n hC dX9_here_25 rfl ?_
      refine zr_dup hC dX9_here_26 rfl ?_
      refine zv_geti hC dX9_here_27 fl_X9_207 (a := 245) rfl (by decide) (zput_at _ 245 7 _) ?_
      refine zk_iconst hC dX9_here_30 (v := nI 1) (by decide +kernel) ?_
      refine zn_iadd hC dX9_here_31 (nI_add _ _) ?_
      refine zs_puti hC dX9_here_32 fl_X9_207 fp_X9_7 (a := 245) rfl (by decide) ?_
      refine zr_goto hC dX9_here_35 (tgt := 0) (by decide) ?_
      rw [zput_2, show tn - (d + 1) + 1 = tn - d by omega]
      refine ih (by omega) ?_
      rw [show sk tp tn (d + 1) = sk tp tn d from if_pos h32] at k
      exact k
    · refine zr_aload_n hC dX9_here_11 rfl ?_
      refine zs_getr hC dX9_here_12 fl_X9_26 (a := 245) (r := 251) rfl (by decide) ?_
      refine zr_aload_n hC dX9_here_15 rfl ?_
      refine zv_geti hC dX9_here_16 fl_X9_207 (a := 245) rfl (by decide) (zput_at _ 245 7 _) ?_
      refine zv_iald hC dX9_here_19 (a := 251) (n := 90) rfl (by decide) (by decide) (j := tn - (d + 1)) rfl (by have := hT.2.1; dsimp only at this; omega) (((congrFun (zput_ne S0 _ (by decide)) _).trans (show S0.1 251 (tn - (d + 1)) = nI (tp (tn - (d + 1))) from hT.2.2 _ (show tn - (d + 1) < tn by omega)))) ?_
      refine zk_bipush hC dX9_here_20 (v := nI 32) (by decide +kernel) ?_
      refine zr_icmp_ne hC dX9_here_22 (tgt := 38) (by decide) (fun c_22 => ?_) (fun c => absurd c (fun q => h32 (by rwa [nI_eq (by have := hL (tn - (d + 1)) (by omega); omega) (by decide)] at q)))
      rw [show sk tp tn (d + 1) = d + 1 from if_neg h32] at k
      exact k
def spX9_here : zSp := fun av S Q => ∃ (tp : Nat → Nat) (tn d : Nat), av = [.ref 245] ∧ MT S (tp, tn) ∧ (∀ i, i < tn → 32 ≤ tp i ∧ tp i ≤ 126) ∧ S.1 245 7 = nI (tn - d) ∧ d ≤ tn ∧ Q (some (.int (nI (hcN tp tn (sk tp tn d))))) (zput S 245 7 (nI (tn - sk tp tn d)))
set_option maxHeartbeats 4000000 in
set_option maxRecDepth 100000 in
theorem tX9_here : zM yX9_here cX9_here 1 (some .int) 0 spX9_here := by
  refine zM.of (by decide) (by decide) (fun av S Q h => by obtain ⟨tp, tn, d, rfl, hT, hL, h7, hd, hQ⟩ := h; exact Nat.le_of_ble_eq_true rfl) (fun C τ ι av S Q Qr h hr hC hE => ?_)
  obtain ⟨tp, tn, d, rfl, hT, hL, h7, hd, hQ⟩ := h
  show zR C τ ι _ 0 0 0 [(0, .ref 245)] [] _
  have q0 := l9_here (S0 := S) hC (ι := ι) hT hL d hd ?_
  · rwa [zput_id S h7] at q0
  · have hle := sk_le (tp := tp) (tn := tn) d
    by_cases h0 : sk tp tn d = 0
    · rw [h0] at hQ ⊢
      refine zr_aload_n hC dX9_here_38 rfl ?_
      refine zv_geti hC dX9_here_39 fl_X9_207 (a := 245) rfl (by decide) (zput_at _ 245 7 _) ?_
      refine zr_aload_n hC dX9_here_42 rfl ?_
      refine zv_geti hC dX9_here_43 fl_X9_204 (a := 245) rfl (by decide) (hT.p7.1) ?_
      refine zr_icmp_ge hC dX9_here_46 (tgt := 61) (by decide) (fun c_46 => ?_) (fun c => absurd c (not_not_intro (nI_le (by omega) (by have := hT.2.1; dsimp only at this; omega))))
      refine zk_iconst hC dX9_here_61 (v := nI 0) (by decide +kernel) ?_
      exact zr_ireturn hC hE dX9_here_62 (hr _ _ (hQ))
    · refine zr_aload_n hC dX9_here_38 rfl ?_
      refine zv_geti hC dX9_here_39 fl_X9_207 (a := 245) rfl (by decide) (zput_at _ 245 7 _) ?_
      refine zr_aload_n hC dX9_here_42 rfl ?_
      refine zv_geti hC dX9_here_43 fl_X9_204 (a := 245) rfl (by decide) (hT.p7.1) ?_
      refine zr_icmp_ge hC dX9_here_46 (tgt := 61) (by decide) (fun c => absurd c (nI_ge (by omega) (by have := hT.2.1; dsimp only at this; omega))) (fun c_46 => ?_)
      refine zr_aload_n hC dX9_here_49 rfl ?_
      refine zs_getr hC dX9_here_50 fl_X9_26 (a := 245) (r := 251) rfl (by decide) ?_
      refine zr_aload_n hC dX9_here_53 rfl ?_
      refine zv_geti hC dX9_here_54 fl_X9_207 (a := 245) rfl (by decide) (zput_at _ 245 7 _) ?_
      refine zv_iald hC dX9_here_57 (a := 251) (n := 90) rfl (by decide) (by decide) (j := tn - sk tp tn d) rfl (by have := hT.2.1; dsimp only at this; omega) (((congrFun (zput_ne S _ (by decide)) _).trans (show S.1 251 (tn - sk tp tn d) = nI (tp (tn - sk tp tn d)) from hT.2.2 _ (show tn - sk tp tn d < tn by omega))).trans (show nI (tp (tn - sk tp tn d)) = nI (hcN tp tn (sk tp tn d)) from congrArg nI (if_neg h0).symm)) ?_
      refine zr_goto hC dX9_here_58 (tgt := 62) (by decide) ?_
      exact zr_ireturn hC hE dX9_here_62 (hr _ _ (hQ))
theorem z_sg (c : Nat) : c = 33 ∨ c = 43 ∨ c = 45 ∨ (c ≠ 33 ∧ c ≠ 43 ∧ c ≠ 45) := by omega
theorem hcN_0 {tp : Nat → Nat} {tn : Nat} : hcN tp tn 0 = 0 := rfl
theorem hcN_lt {tp : Nat → Nat} {tn d : Nat} (hL : ∀ i, i < tn → 32 ≤ tp i ∧ tp i ≤ 126) (h : d ≤ tn) : hcN tp tn d < 2147483648 := by
  unfold hcN
  split
  · decide
  · have := hL (tn - d) (by omega); omega
def spX9_event : zSp := fun av S Q => ∃ (tp : Nat → Nat) (tn d : Nat), av = [.ref 245] ∧ MT S (tp, tn) ∧ (∀ i, i < tn → 32 ≤ tp i ∧ tp i ≤ 126) ∧ S.1 245 7 = nI (tn - d) ∧ d ≤ tn ∧ Q (some (.int (evI (evn tp tn d).1))) (zput S 245 7 (nI (tn - (evn tp tn d).2)))
set_option maxHeartbeats 4000000 in
set_option maxRecDepth 100000 in
theorem tX9_event : zM yX9_event cX9_event 4 (some .int) 1 spX9_event := by
  refine zM.of (by decide) (by decide) (fun av S Q h => by obtain ⟨tp, tn, d, rfl, hT, hL, h7, hd, hQ⟩ := h; exact Nat.le_of_ble_eq_true rfl) (fun C τ ι av S Q Qr h hr hC hE => ?_)
  obtain ⟨tp, tn, d, rfl, hT, hL, h7, hd, hQ⟩ := h
  show zR C τ ι _ 0 0 0 [(0, .ref 245)] [] _
  refine zr_aload_n hC dX9_event_0 rfl ?_
  refine zs_callV hC (b := 245) [] [] dX9_event_1 ml_X9_210 mtX9_here tX9_here (by decide) (by decide) (by decide) rfl rfl (by decide) (by decide +kernel) (Nat.le_of_ble_eq_true rfl) rfl ?_
  refine ⟨tp, tn, d, rfl, hT, hL, h7, hd, ?_⟩
  dsimp only [Option.toList, List.cons_append, List.nil_append]
  have hle := sk_le (tp := tp) (tn := tn) d
  rcases z_sg (hcN tp tn (sk tp tn d)) with h | h | h | h
  · rw [h]
    have h1 : sk tp tn d ≠ 0 := fun q => by rw [q, hcN_0] at h; omega
    refine zr_istore_n hC dX9_event_4 (by decide) ?_
    refine zr_iload_n hC dX9_event_5 rfl ?_
    refine zk_bipush hC dX9_event_6 (v := nI 33) (by decide +kernel) ?_
    refine zr_icmp_eq hC dX9_event_8 (tgt := 25) (by decide) (fun c_8 => ?_) (fun c => absurd c (by decide +kernel))
    refine zr_aload_n hC dX9_event_25 rfl ?_
    refine zr_dup hC dX9_event_26 rfl ?_
    refine zv_geti hC dX9_event_27 fl_X9_207 (a := 245) rfl (by decide) (zput_at _ 245 7 _) ?_
    refine zk_iconst hC dX9_event_30 (v := nI 1) (by decide +kernel) ?_
    refine zn_iadd hC dX9_event_31 (nI_add _ _) ?_
    refine zs_puti hC dX9_event_32 fl_X9_207 fp_X9_7 (a := 245) rfl (by decide) ?_
    refine zr_iload_n hC dX9_event_35 rfl ?_
    refine zk_bipush hC dX9_event_36 (v := nI 33) (by decide +kernel) ?_
    refine zr_icmp_ne hC dX9_event_38 (tgt := 44) (by decide) (fun c => absurd c (by decide +kernel)) (fun c_38 => ?_)
    refine zk_bipush hC dX9_event_41 (v := nI 32) (by decide +kernel) ?_
    exact zr_ireturn hC hE dX9_event_43 (hr _ _ (by rw [evn_33 h] at hQ; rw [zput_2, show tn - sk tp tn d + 1 = tn - (sk tp tn d - 1) by omega]; exact hQ))
  · rw [h]
    have h1 : sk tp tn d ≠ 0 := fun q => by rw [q, hcN_0] at h; omega
    refine zr_istore_n hC dX9_event_4 (by decide) ?_
    refine zr_iload_n hC dX9_event_5 rfl ?_
    refine zk_bipush hC dX9_event_6 (v := nI 33) (by decide +kernel) ?_
    refine zr_icmp_eq hC dX9_event_8 (tgt := 25) (by decide) (fun c => absurd c (by decide +kernel)) (fun c_8 => ?_)
    refine zr_iload_n hC dX9_event_11 rfl ?_
    refine zk_bipush hC dX9_event_12 (v := nI 43) (by decide +kernel) ?_
    refine zr_icmp_eq hC dX9_event_14 (tgt := 25) (by decide) (fun c_14 => ?_) (fun c => absurd c (by decide +kernel))
    refine zr_aload_n hC dX9_event_25 rfl ?_
    refine zr_dup hC dX9_event_26 rfl ?_
    refine zv_geti hC dX9_event_27 fl_X9_207 (a := 245) rfl (by decide) (zput_at _ 245 7 _) ?_
    refine zk_iconst hC dX9_event_30 (v := nI 1) (by decide +kernel) ?_
    refine zn_iadd hC dX9_event_31 (nI_add _ _) ?_
    refine zs_puti hC dX9_event_32 fl_X9_207 fp_X9_7 (a := 245) rfl (by decide) ?_
    refine zr_iload_n hC dX9_event_35 rfl ?_
    refine zk_bipush hC dX9_event_36 (v := nI 33) (by decide +kernel) ?_
    refine zr_icmp_ne hC dX9_event_38 (tgt := 44) (by decide) (fun c_38 => ?_) (fun c => absurd c (by decide +kernel))
    refine zr_aload_n hC dX9_event_44 rfl ?_
    rw [zput_2, show tn - sk tp tn d + 1 = tn - (sk tp tn d - 1) by omega]
    refine zs_callV hC (b := 245) [] [] dX9_event_45 ml_X9_210 mtX9_here tX9_here (by decide) (by decide) (by decide) rfl rfl (by decide) (by decide +kernel) (Nat.le_of_ble_eq_true rfl) rfl ?_
    refine ⟨tp, tn, sk tp tn d - 1, rfl, hT.p7, hL, zput_at _ _ _ _, by omega, ?_⟩
    rw [zput_2]
    dsimp only [Option.toList, List.cons_append, List.nil_append]
    have hle2 := sk_le (tp := tp) (tn := tn) (sk tp tn d - 1)
    have hb2 := hcN_lt hL (d := sk tp tn (sk tp tn d - 1)) (Nat.le_trans hle2 (by omega))
    refine zr_istore_n hC dX9_event_48 (by decide) ?_
    refine zr_iload_n hC dX9_event_49 rfl ?_
    refine zr_i2l hC dX9_event_50 ?_
    refine zr_ldc2 hC dX9_event_51 kl_X9_213 ?_
    refine zr_ldc2 hC dX9_event_54 kl_X9_215 ?_
    refine zs_callS hC [_, _, _] [] dX9_event_57 ml_X9_60 mtX9_in tX9_in (by decide) (by decide) (by decide) rfl (Nat.le_of_ble_eq_true rfl) rfl ?_
    refine ⟨_, _, _, rfl, fun r e => ?_⟩
    obtain ⟨w1, w2⟩ := z_one (x := nI (hcN tp tn (sk tp tn (sk tp tn d - 1)))) (lo := nI 48) (hi := nI 57) rfl (show (48 : Int64) = _ by decide +kernel) (show (57 : Int64) = _ by decide +kernel)
    have e : (r = nI 1 ∧ ¬ nI (hcN tp tn (sk tp tn (sk tp tn d - 1))) < nI 48 ∧ ¬ nI 57 < nI (hcN tp tn (sk tp tn (sk tp tn d - 1)))) ∨ (r = nI 0 ∧ (nI (hcN tp tn (sk tp tn (sk tp tn d - 1))) < nI 48 ∨ nI 57 < nI (hcN tp tn (sk tp tn (sk tp tn d - 1))))) := by
      rcases e with ⟨e, e1, e2⟩ | ⟨e, e1⟩
      · exact Or.inl ⟨e, fun q => e1 (w1.mpr q), fun q => e2 (w2.mpr q)⟩
      · exact Or.inr ⟨e, e1.imp w1.mp w2.mp⟩
    rcases e with ⟨rfl, e1, e2⟩ | ⟨rfl, e1⟩
    · rw [z_nlt hb2 (by decide)] at e1
      rw [z_nlt (by decide) hb2] at e2
      have hf := fig_1 ⟨e1, e2⟩
      have hc0 : sk tp tn (sk tp tn d - 1) ≠ 0 := fun q => by rw [q, hcN_0] at e1; omega
      dsimp only [Option.toList, List.cons_append, List.nil_append]
      refine zr_if_eq hC dX9_event_60 (tgt := 70) (by decide) (fun c => absurd c (by decide +kernel)) (fun c_60 => ?_)
      refine zr_iload_n hC dX9_event_63 rfl ?_
      refine zk_bipush hC dX9_event_64 (v := nI 48) (by decide +kernel) ?_
      refine zn_isub hC dX9_event_66 (pk_sub e1) ?_
      refine zr_goto hC dX9_event_67 (tgt := 92) (by decide) ?_
      refine zr_istore_n hC dX9_event_92 (by decide) ?_
      refine zr_aload_n hC dX9_event_93 rfl ?_
      refine zr_dup hC dX9_event_94 rfl ?_
      refine zv_geti hC dX9_event_95 fl_X9_207 (a := 245) rfl (by decide) (zput_at _ 245 7 _) ?_
      refine zr_iload_n hC dX9_event_98 rfl ?_
      refine zr_if_ge hC dX9_event_99 (tgt := 106) (by decide) (fun c_99 => ?_) (fun c => absurd c (not_not_intro (nI_pos' (by omega))))
      refine zk_iconst hC dX9_event_106 (v := nI 1) (by decide +kernel) ?_
      refine zn_iadd hC dX9_event_107 (nI_add _ _) ?_
      refine zs_puti hC dX9_event_108 fl_X9_207 fp_X9_7 (a := 245) rfl (by decide) ?_
      refine zr_iload_n hC dX9_event_111 rfl ?_
      refine zr_if_ge hC dX9_event_112 (tgt := 119) (by decide) (fun c_112 => ?_) (fun c => absurd c (not_not_intro (nI_pos' (by omega))))
      refine zr_iload_n hC dX9_event_119 rfl ?_
      refine zk_bipush hC dX9_event_120 (v := nI 43) (by decide +kernel) ?_
      refine zr_icmp_ne hC dX9_event_122 (tgt := 129) (by decide) (fun c => absurd c (by decide +kernel)) (fun c_122 => ?_)
      refine zr_iload_n hC dX9_event_125 rfl ?_
      refine zr_goto hC dX9_event_126 (tgt := 133) (by decide) ?_
      exact zr_ireturn hC hE dX9_event_133 (hr _ _ (by rw [evn_43 h hf] at hQ; rw [zput_2, show tn - sk tp tn (sk tp tn d - 1) + 1 = tn - (sk tp tn (sk tp tn d - 1) - 1) by omega]; exact hQ))
    · have e1 : hcN tp tn (sk tp tn (sk tp tn d - 1)) < 48 ∨ 57 < hcN tp tn (sk tp tn (sk tp tn d - 1)) := e1.imp (nI_ltI hb2 (by decide)).mp (nI_ltI (by decide) hb2).mp
      dsimp only [Option.toList, List.cons_append, List.nil_append]
      refine zr_if_eq hC dX9_event_60 (tgt := 70) (by decide) (fun c_60 => ?_) (fun c => absurd c (by decide +kernel))
      refine zr_iload_n hC dX9_event_70 rfl ?_
      refine zr_i2l hC dX9_event_71 ?_
      refine zr_ldc2 hC dX9_event_72 kl_X9_217 ?_
      refine zr_ldc2 hC dX9_event_75 kl_X9_219 ?_
      refine zs_callS hC [_, _, _] [] dX9_event_78 ml_X9_60 mtX9_in tX9_in (by decide) (by decide) (by decide) rfl (Nat.le_of_ble_eq_true rfl) rfl ?_
      refine ⟨_, _, _, rfl, fun r e => ?_⟩
      obtain ⟨w1, w2⟩ := z_one (x := nI (hcN tp tn (sk tp tn (sk tp tn d - 1)))) (lo := nI 97) (hi := nI 102) rfl (show (97 : Int64) = _ by decide +kernel) (show (102 : Int64) = _ by decide +kernel)
      have e : (r = nI 1 ∧ ¬ nI (hcN tp tn (sk tp tn (sk tp tn d - 1))) < nI 97 ∧ ¬ nI 102 < nI (hcN tp tn (sk tp tn (sk tp tn d - 1)))) ∨ (r = nI 0 ∧ (nI (hcN tp tn (sk tp tn (sk tp tn d - 1))) < nI 97 ∨ nI 102 < nI (hcN tp tn (sk tp tn (sk tp tn d - 1))))) := by
        rcases e with ⟨e, e1, e2⟩ | ⟨e, e1⟩
        · exact Or.inl ⟨e, fun q => e1 (w1.mpr q), fun q => e2 (w2.mpr q)⟩
        · exact Or.inr ⟨e, e1.imp w1.mp w2.mp⟩
      rcases e with ⟨rfl, e2, e3⟩ | ⟨rfl, e2⟩
      · rw [z_nlt hb2 (by decide)] at e2
        rw [z_nlt (by decide) hb2] at e3
        have hf := fig_2 ⟨e2, e3⟩
        have hc0 : sk tp tn (sk tp tn d - 1) ≠ 0 := fun q => by rw [q, hcN_0] at e2; omega
        rw [show hcN tp tn (sk tp tn (sk tp tn d - 1)) - 97 + 10 = hcN tp tn (sk tp tn (sk tp tn d - 1)) - 87 by omega] at hf
        dsimp only [Option.toList, List.cons_append, List.nil_append]
        refine zr_if_eq hC dX9_event_81 (tgt := 91) (by decide) (fun c => absurd c (by decide +kernel)) (fun c_81 => ?_)
        refine zr_iload_n hC dX9_event_84 rfl ?_
        refine zk_bipush hC dX9_event_85 (v := nI 87) (by decide +kernel) ?_
        refine zn_isub hC dX9_event_87 (pk_sub (by omega)) ?_
        refine zr_goto hC dX9_event_88 (tgt := 92) (by decide) ?_
        refine zr_istore_n hC dX9_event_92 (by decide) ?_
        refine zr_aload_n hC dX9_event_93 rfl ?_
        refine zr_dup hC dX9_event_94 rfl ?_
        refine zv_geti hC dX9_event_95 fl_X9_207 (a := 245) rfl (by decide) (zput_at _ 245 7 _) ?_
        refine zr_iload_n hC dX9_event_98 rfl ?_
        refine zr_if_ge hC dX9_event_99 (tgt := 106) (by decide) (fun c_99 => ?_) (fun c => absurd c (not_not_intro (nI_pos' (by omega))))
        refine zk_iconst hC dX9_event_106 (v := nI 1) (by decide +kernel) ?_
        refine zn_iadd hC dX9_event_107 (nI_add _ _) ?_
        refine zs_puti hC dX9_event_108 fl_X9_207 fp_X9_7 (a := 245) rfl (by decide) ?_
        refine zr_iload_n hC dX9_event_111 rfl ?_
        refine zr_if_ge hC dX9_event_112 (tgt := 119) (by decide) (fun c_112 => ?_) (fun c => absurd c (not_not_intro (nI_pos' (by omega))))
        refine zr_iload_n hC dX9_event_119 rfl ?_
        refine zk_bipush hC dX9_event_120 (v := nI 43) (by decide +kernel) ?_
        refine zr_icmp_ne hC dX9_event_122 (tgt := 129) (by decide) (fun c => absurd c (by decide +kernel)) (fun c_122 => ?_)
        refine zr_iload_n hC dX9_event_125 rfl ?_
        refine zr_goto hC dX9_event_126 (tgt := 133) (by decide) ?_
        exact zr_ireturn hC hE dX9_event_133 (hr _ _ (by rw [evn_43 h hf] at hQ; rw [zput_2, show tn - sk tp tn (sk tp tn d - 1) + 1 = tn - (sk tp tn (sk tp tn d - 1) - 1) by omega]; exact hQ))
      · have e2 : hcN tp tn (sk tp tn (sk tp tn d - 1)) < 97 ∨ 102 < hcN tp tn (sk tp tn (sk tp tn d - 1)) := e2.imp (nI_ltI hb2 (by decide)).mp (nI_ltI (by decide) hb2).mp
        have hf := fig_3 (c := hcN tp tn (sk tp tn (sk tp tn d - 1))) (by omega)
        dsimp only [Option.toList, List.cons_append, List.nil_append]
        refine zr_if_eq hC dX9_event_81 (tgt := 91) (by decide) (fun c_81 => ?_) (fun c => absurd c (by decide +kernel))
        refine zk_iconst hC dX9_event_91 (v := (-1)) (by decide +kernel) ?_
        refine zr_istore_n hC dX9_event_92 (by decide) ?_
        refine zr_aload_n hC dX9_event_93 rfl ?_
        refine zr_dup hC dX9_event_94 rfl ?_
        refine zv_geti hC dX9_event_95 fl_X9_207 (a := 245) rfl (by decide) (zput_at _ 245 7 _) ?_
        refine zr_iload_n hC dX9_event_98 rfl ?_
        refine zr_if_ge hC dX9_event_99 (tgt := 106) (by decide) (fun c => absurd c (by decide)) (fun c_99 => ?_)
        refine zk_iconst hC dX9_event_102 (v := nI 0) (by decide +kernel) ?_
        refine zr_goto hC dX9_event_103 (tgt := 107) (by decide) ?_
        refine zn_iadd hC dX9_event_107 (nI_add _ _) ?_
        refine zs_puti hC dX9_event_108 fl_X9_207 fp_X9_7 (a := 245) rfl (by decide) ?_
        refine zr_iload_n hC dX9_event_111 rfl ?_
        refine zr_if_ge hC dX9_event_112 (tgt := 119) (by decide) (fun c => absurd c (by decide)) (fun c_112 => ?_)
        refine zk_iconst hC dX9_event_115 (v := (-1)) (by decide +kernel) ?_
        refine zr_goto hC dX9_event_116 (tgt := 133) (by decide) ?_
        exact zr_ireturn hC hE dX9_event_133 (hr _ _ (by rw [evn_x (Or.inl h) hf] at hQ; rw [zput_2]; exact hQ))
  · rw [h]
    have h1 : sk tp tn d ≠ 0 := fun q => by rw [q, hcN_0] at h; omega
    refine zr_istore_n hC dX9_event_4 (by decide) ?_
    refine zr_iload_n hC dX9_event_5 rfl ?_
    refine zk_bipush hC dX9_event_6 (v := nI 33) (by decide +kernel) ?_
    refine zr_icmp_eq hC dX9_event_8 (tgt := 25) (by decide) (fun c => absurd c (by decide +kernel)) (fun c_8 => ?_)
    refine zr_iload_n hC dX9_event_11 rfl ?_
    refine zk_bipush hC dX9_event_12 (v := nI 43) (by decide +kernel) ?_
    refine zr_icmp_eq hC dX9_event_14 (tgt := 25) (by decide) (fun c => absurd c (by decide +kernel)) (fun c_14 => ?_)
    refine zr_iload_n hC dX9_event_17 rfl ?_
    refine zk_bipush hC dX9_event_18 (v := nI 45) (by decide +kernel) ?_
    refine zr_icmp_eq hC dX9_event_20 (tgt := 25) (by decide) (fun c_20 => ?_) (fun c => absurd c (by decide +kernel))
    refine zr_aload_n hC dX9_event_25 rfl ?_
    refine zr_dup hC dX9_event_26 rfl ?_
    refine zv_geti hC dX9_event_27 fl_X9_207 (a := 245) rfl (by decide) (zput_at _ 245 7 _) ?_
    refine zk_iconst hC dX9_event_30 (v := nI 1) (by decide +kernel) ?_
    refine zn_iadd hC dX9_event_31 (nI_add _ _) ?_
    refine zs_puti hC dX9_event_32 fl_X9_207 fp_X9_7 (a := 245) rfl (by decide) ?_
    refine zr_iload_n hC dX9_event_35 rfl ?_
    refine zk_bipush hC dX9_event_36 (v := nI 33) (by decide +kernel) ?_
    refine zr_icmp_ne hC dX9_event_38 (tgt := 44) (by decide) (fun c_38 => ?_) (fun c => absurd c (by decide +kernel))
    refine zr_aload_n hC dX9_event_44 rfl ?_
    rw [zput_2, show tn - sk tp tn d + 1 = tn - (sk tp tn d - 1) by omega]
    refine zs_callV hC (b := 245) [] [] dX9_event_45 ml_X9_210 mtX9_here tX9_here (by decide) (by decide) (by decide) rfl rfl (by decide) (by decide +kernel) (Nat.le_of_ble_eq_true rfl) rfl ?_
    refine ⟨tp, tn, sk tp tn d - 1, rfl, hT.p7, hL, zput_at _ _ _ _, by omega, ?_⟩
    rw [zput_2]
    dsimp only [Option.toList, List.cons_append, List.nil_append]
    have hle2 := sk_le (tp := tp) (tn := tn) (sk tp tn d - 1)
    have hb2 := hcN_lt hL (d := sk tp tn (sk tp tn d - 1)) (Nat.le_trans hle2 (by omega))
    refine zr_istore_n hC dX9_event_48 (by decide) ?_
    refine zr_iload_n hC dX9_event_49 rfl ?_
    refine zr_i2l hC dX9_event_50 ?_
    refine zr_ldc2 hC dX9_event_51 kl_X9_213 ?_
    refine zr_ldc2 hC dX9_event_54 kl_X9_215 ?_
    refine zs_callS hC [_, _, _] [] dX9_event_57 ml_X9_60 mtX9_in tX9_in (by decide) (by decide) (by decide) rfl (Nat.le_of_ble_eq_true rfl) rfl ?_
    refine ⟨_, _, _, rfl, fun r e => ?_⟩
    obtain ⟨w1, w2⟩ := z_one (x := nI (hcN tp tn (sk tp tn (sk tp tn d - 1)))) (lo := nI 48) (hi := nI 57) rfl (show (48 : Int64) = _ by decide +kernel) (show (57 : Int64) = _ by decide +kernel)
    have e : (r = nI 1 ∧ ¬ nI (hcN tp tn (sk tp tn (sk tp tn d - 1))) < nI 48 ∧ ¬ nI 57 < nI (hcN tp tn (sk tp tn (sk tp tn d - 1)))) ∨ (r = nI 0 ∧ (nI (hcN tp tn (sk tp tn (sk tp tn d - 1))) < nI 48 ∨ nI 57 < nI (hcN tp tn (sk tp tn (sk tp tn d - 1))))) := by
      rcases e with ⟨e, e1, e2⟩ | ⟨e, e1⟩
      · exact Or.inl ⟨e, fun q => e1 (w1.mpr q), fun q => e2 (w2.mpr q)⟩
      · exact Or.inr ⟨e, e1.imp w1.mp w2.mp⟩
    rcases e with ⟨rfl, e1, e2⟩ | ⟨rfl, e1⟩
    · rw [z_nlt hb2 (by decide)] at e1
      rw [z_nlt (by decide) hb2] at e2
      have hf := fig_1 ⟨e1, e2⟩
      have hc0 : sk tp tn (sk tp tn d - 1) ≠ 0 := fun q => by rw [q, hcN_0] at e1; omega
      dsimp only [Option.toList, List.cons_append, List.nil_append]
      refine zr_if_eq hC dX9_event_60 (tgt := 70) (by decide) (fun c => absurd c (by decide +kernel)) (fun c_60 => ?_)
      refine zr_iload_n hC dX9_event_63 rfl ?_
      refine zk_bipush hC dX9_event_64 (v := nI 48) (by decide +kernel) ?_
      refine zn_isub hC dX9_event_66 (pk_sub e1) ?_
      refine zr_goto hC dX9_event_67 (tgt := 92) (by decide) ?_
      refine zr_istore_n hC dX9_event_92 (by decide) ?_
      refine zr_aload_n hC dX9_event_93 rfl ?_
      refine zr_dup hC dX9_event_94 rfl ?_
      refine zv_geti hC dX9_event_95 fl_X9_207 (a := 245) rfl (by decide) (zput_at _ 245 7 _) ?_
      refine zr_iload_n hC dX9_event_98 rfl ?_
      refine zr_if_ge hC dX9_event_99 (tgt := 106) (by decide) (fun c_99 => ?_) (fun c => absurd c (not_not_intro (nI_pos' (by omega))))
      refine zk_iconst hC dX9_event_106 (v := nI 1) (by decide +kernel) ?_
      refine zn_iadd hC dX9_event_107 (nI_add _ _) ?_
      refine zs_puti hC dX9_event_108 fl_X9_207 fp_X9_7 (a := 245) rfl (by decide) ?_
      refine zr_iload_n hC dX9_event_111 rfl ?_
      refine zr_if_ge hC dX9_event_112 (tgt := 119) (by decide) (fun c_112 => ?_) (fun c => absurd c (not_not_intro (nI_pos' (by omega))))
      refine zr_iload_n hC dX9_event_119 rfl ?_
      refine zk_bipush hC dX9_event_120 (v := nI 43) (by decide +kernel) ?_
      refine zr_icmp_ne hC dX9_event_122 (tgt := 129) (by decide) (fun c_122 => ?_) (fun c => absurd c (by decide +kernel))
      refine zk_bipush hC dX9_event_129 (v := nI 16) (by decide +kernel) ?_
      refine zr_iload_n hC dX9_event_131 rfl ?_
      refine zn_iadd hC dX9_event_132 (nI_add _ _) ?_
      exact zr_ireturn hC hE dX9_event_133 (hr _ _ (by rw [evn_45 h hf] at hQ; rw [zput_2, show tn - sk tp tn (sk tp tn d - 1) + 1 = tn - (sk tp tn (sk tp tn d - 1) - 1) by omega]; exact hQ))
    · have e1 : hcN tp tn (sk tp tn (sk tp tn d - 1)) < 48 ∨ 57 < hcN tp tn (sk tp tn (sk tp tn d - 1)) := e1.imp (nI_ltI hb2 (by decide)).mp (nI_ltI (by decide) hb2).mp
      dsimp only [Option.toList, List.cons_append, List.nil_append]
      refine zr_if_eq hC dX9_event_60 (tgt := 70) (by decide) (fun c_60 => ?_) (fun c => absurd c (by decide +kernel))
      refine zr_iload_n hC dX9_event_70 rfl ?_
      refine zr_i2l hC dX9_event_71 ?_
      refine zr_ldc2 hC dX9_event_72 kl_X9_217 ?_
      refine zr_ldc2 hC dX9_event_75 kl_X9_219 ?_
      refine zs_callS hC [_, _, _] [] dX9_event_78 ml_X9_60 mtX9_in tX9_in (by decide) (by decide) (by decide) rfl (Nat.le_of_ble_eq_true rfl) rfl ?_
      refine ⟨_, _, _, rfl, fun r e => ?_⟩
      obtain ⟨w1, w2⟩ := z_one (x := nI (hcN tp tn (sk tp tn (sk tp tn d - 1)))) (lo := nI 97) (hi := nI 102) rfl (show (97 : Int64) = _ by decide +kernel) (show (102 : Int64) = _ by decide +kernel)
      have e : (r = nI 1 ∧ ¬ nI (hcN tp tn (sk tp tn (sk tp tn d - 1))) < nI 97 ∧ ¬ nI 102 < nI (hcN tp tn (sk tp tn (sk tp tn d - 1)))) ∨ (r = nI 0 ∧ (nI (hcN tp tn (sk tp tn (sk tp tn d - 1))) < nI 97 ∨ nI 102 < nI (hcN tp tn (sk tp tn (sk tp tn d - 1))))) := by
        rcases e with ⟨e, e1, e2⟩ | ⟨e, e1⟩
        · exact Or.inl ⟨e, fun q => e1 (w1.mpr q), fun q => e2 (w2.mpr q)⟩
        · exact Or.inr ⟨e, e1.imp w1.mp w2.mp⟩
      rcases e with ⟨rfl, e2, e3⟩ | ⟨rfl, e2⟩
      · rw [z_nlt hb2 (by decide)] at e2
        rw [z_nlt (by decide) hb2] at e3
        have hf := fig_2 ⟨e2, e3⟩
        have hc0 : sk tp tn (sk tp tn d - 1) ≠ 0 := fun q => by rw [q, hcN_0] at e2; omega
        rw [show hcN tp tn (sk tp tn (sk tp tn d - 1)) - 97 + 10 = hcN tp tn (sk tp tn (sk tp tn d - 1)) - 87 by omega] at hf
        dsimp only [Option.toList, List.cons_append, List.nil_append]
        refine zr_if_eq hC dX9_event_81 (tgt := 91) (by decide) (fun c => absurd c (by decide +kernel)) (fun c_81 => ?_)
        refine zr_iload_n hC dX9_event_84 rfl ?_
        refine zk_bipush hC dX9_event_85 (v := nI 87) (by decide +kernel) ?_
        refine zn_isub hC dX9_event_87 (pk_sub (by omega)) ?_
        refine zr_goto hC dX9_event_88 (tgt := 92) (by decide) ?_
        refine zr_istore_n hC dX9_event_92 (by decide) ?_
        refine zr_aload_n hC dX9_event_93 rfl ?_
        refine zr_dup hC dX9_event_94 rfl ?_
        refine zv_geti hC dX9_event_95 fl_X9_207 (a := 245) rfl (by decide) (zput_at _ 245 7 _) ?_
        refine zr_iload_n hC dX9_event_98 rfl ?_
        refine zr_if_ge hC dX9_event_99 (tgt := 106) (by decide) (fun c_99 => ?_) (fun c => absurd c (not_not_intro (nI_pos' (by omega))))
        refine zk_iconst hC dX9_event_106 (v := nI 1) (by decide +kernel) ?_
        refine zn_iadd hC dX9_event_107 (nI_add _ _) ?_
        refine zs_puti hC dX9_event_108 fl_X9_207 fp_X9_7 (a := 245) rfl (by decide) ?_
        refine zr_iload_n hC dX9_event_111 rfl ?_
        refine zr_if_ge hC dX9_event_112 (tgt := 119) (by decide) (fun c_112 => ?_) (fun c => absurd c (not_not_intro (nI_pos' (by omega))))
        refine zr_iload_n hC dX9_event_119 rfl ?_
        refine zk_bipush hC dX9_event_120 (v := nI 43) (by decide +kernel) ?_
        refine zr_icmp_ne hC dX9_event_122 (tgt := 129) (by decide) (fun c_122 => ?_) (fun c => absurd c (by decide +kernel))
        refine zk_bipush hC dX9_event_129 (v := nI 16) (by decide +kernel) ?_
        refine zr_iload_n hC dX9_event_131 rfl ?_
        refine zn_iadd hC dX9_event_132 (nI_add _ _) ?_
        exact zr_ireturn hC hE dX9_event_133 (hr _ _ (by rw [evn_45 h hf] at hQ; rw [zput_2, show tn - sk tp tn (sk tp tn d - 1) + 1 = tn - (sk tp tn (sk tp tn d - 1) - 1) by omega]; exact hQ))
      · have e2 : hcN tp tn (sk tp tn (sk tp tn d - 1)) < 97 ∨ 102 < hcN tp tn (sk tp tn (sk tp tn d - 1)) := e2.imp (nI_ltI hb2 (by decide)).mp (nI_ltI (by decide) hb2).mp
        have hf := fig_3 (c := hcN tp tn (sk tp tn (sk tp tn d - 1))) (by omega)
        dsimp only [Option.toList, List.cons_append, List.nil_append]
        refine zr_if_eq hC dX9_event_81 (tgt := 91) (by decide) (fun c_81 => ?_) (fun c => absurd c (by decide +kernel))
        refine zk_iconst hC dX9_event_91 (v := (-1)) (by decide +kernel) ?_
        refine zr_istore_n hC dX9_event_92 (by decide) ?_
        refine zr_aload_n hC dX9_event_93 rfl ?_
        refine zr_dup hC dX9_event_94 rfl ?_
        refine zv_geti hC dX9_event_95 fl_X9_207 (a := 245) rfl (by decide) (zput_at _ 245 7 _) ?_
        refine zr_iload_n hC dX9_event_98 rfl ?_
        refine zr_if_ge hC dX9_event_99 (tgt := 106) (by decide) (fun c => absurd c (by decide)) (fun c_99 => ?_)
        refine zk_iconst hC dX9_event_102 (v := nI 0) (by decide +kernel) ?_
        refine zr_goto hC dX9_event_103 (tgt := 107) (by decide) ?_
        refine zn_iadd hC dX9_event_107 (nI_add _ _) ?_
        refine zs_puti hC dX9_event_108 fl_X9_207 fp_X9_7 (a := 245) rfl (by decide) ?_
        refine zr_iload_n hC dX9_event_111 rfl ?_
        refine zr_if_ge hC dX9_event_112 (tgt := 119) (by decide) (fun c => absurd c (by decide)) (fun c_112 => ?_)
        refine zk_iconst hC dX9_event_115 (v := (-1)) (by decide +kernel) ?_
        refine zr_goto hC dX9_event_116 (tgt := 133) (by decide) ?_
        exact zr_ireturn hC hE dX9_event_133 (hr _ _ (by rw [evn_x (Or.inr h) hf] at hQ; rw [zput_2]; exact hQ))
  · rw [evn_no h.1 h.2.1 h.2.2] at hQ
    have hb := hcN_lt hL (d := sk tp tn d) (Nat.le_trans hle hd)
    refine zr_istore_n hC dX9_event_4 (by decide) ?_
    refine zr_iload_n hC dX9_event_5 rfl ?_
    refine zk_bipush hC dX9_event_6 (v := nI 33) (by decide +kernel) ?_
    refine zr_icmp_eq hC dX9_event_8 (tgt := 25) (by decide) (fun c => absurd c (fun q => h.1 (by rwa [nI_eq hb (by decide)] at q))) (fun c_8 => ?_)
    refine zr_iload_n hC dX9_event_11 rfl ?_
    refine zk_bipush hC dX9_event_12 (v := nI 43) (by decide +kernel) ?_
    refine zr_icmp_eq hC dX9_event_14 (tgt := 25) (by decide) (fun c => absurd c (fun q => h.2.1 (by rwa [nI_eq hb (by decide)] at q))) (fun c_14 => ?_)
    refine zr_iload_n hC dX9_event_17 rfl ?_
    refine zk_bipush hC dX9_event_18 (v := nI 45) (by decide +kernel) ?_
    refine zr_icmp_eq hC dX9_event_20 (tgt := 25) (by decide) (fun c => absurd c (fun q => h.2.2 (by rwa [nI_eq hb (by decide)] at q))) (fun c_20 => ?_)
    refine zk_iconst hC dX9_event_23 (v := (-1)) (by decide +kernel) ?_
    exact zr_ireturn hC hE dX9_event_24 (hr _ _ (hQ))
/-- an event by its number -/
def ev2 (e : Nat) (D : zD) : Option zD := if e = 32 then (if brf D = nI 0 then some (btc D) else none) else if e < 16 then (if D 0 e = 0 ∧ D 1 e ≠ 1 then some (dset D 1 e 1) else none) else (if D 0 (e - 16) ≠ 0 ∧ D 1 (e - 16) ≠ 2 then some (dset D 1 (e - 16) 2) else none)
theorem ev2_32 (D : zD) : ev2 32 D = if brf D = nI 0 then some (btc D) else none := if_pos rfl
theorem ev2_c (D : zD) {m : Nat} (h : m < 16) : ev2 m D = if D 0 m = 0 ∧ D 1 m ≠ 1 then some (dset D 1 m 1) else none := (if_neg (by omega)).trans (if_pos h)
theorem ev2_l (D : zD) {m : Nat} (h : m < 16) : ev2 (16 + m) D = if D 0 m ≠ 0 ∧ D 1 m ≠ 2 then some (dset D 1 m 2) else none := by
  unfold ev2
  rw [if_neg (by omega), if_neg (by omega), show 16 + m - 16 = m by omega]
theorem z_e3 (e : Nat) (h : e ≤ 32) : e = 32 ∨ e < 16 ∨ ∃ m, m < 16 ∧ e = 16 + m := by
  by_cases h1 : e = 32
  · exact Or.inl h1
  · by_cases h2 : e < 16
    · exact Or.inr (Or.inl h2)
    · exact Or.inr (Or.inr ⟨e - 16, by omega, by omega⟩)
def spX9_does : zSp := fun av S Q => ∃ (e : Nat) (D : zD), av = [.ref 245, .int (nI e)] ∧ e ≤ 32 ∧ MW (S.1 246) D ∧ INV D ∧ (ev2 e D = none → Q (some (.int (nI 0))) S) ∧ (∀ D', ev2 e D = some D' → ∀ S', MW (S'.1 246) D' → zfrm 246 250 S S' → Q (some (.int (nI 1))) S')
set_option maxHeartbeats 4000000 in
set_option maxRecDepth 100000 in
theorem tX9_does : zM yX9_does cX9_does 5 (some .boolean) 5 spX9_does := by
  refine zM.of (by decide) (by decide) (fun av S Q h => by obtain ⟨e, D, rfl, he, hM, hI, hN, hQ⟩ := h; exact Nat.le_of_ble_eq_true rfl) (fun C τ ι av S Q Qr h hr hC hE => ?_)
  obtain ⟨e, D, rfl, he, hM, hI, hN, hQ⟩ := h
  show zR C τ ι _ 0 0 0 [(0, .ref 245), (1, .int (nI e))] [] _
  rcases z_e3 e he with rfl | hm | ⟨m, hm, rfl⟩
  · rw [ev2_32] at hN hQ
    refine zr_iload_n hC dX9_does_0 rfl ?_
    refine zk_bipush hC dX9_does_1 (v := nI 16) (by decide +kernel) ?_
    refine zn_irem hC dX9_does_3 (by decide +kernel) (v := nI 0) (by decide +kernel) ?_
    refine zr_istore_n hC dX9_does_4 (by decide) ?_
    refine zr_iload_n hC dX9_does_5 rfl ?_
    refine zk_bipush hC dX9_does_6 (v := nI 32) (by decide +kernel) ?_
    refine zr_icmp_ne hC dX9_does_8 (tgt := 53) (by decide) (fun c => absurd c (by decide +kernel)) (fun c_8 => ?_)
    refine zr_aload_n hC dX9_does_11 rfl ?_
    refine zs_callV hC (b := 245) [] [] dX9_does_12 ml_X9_149 mtX9_refusal tX9_refusal (by decide) (by decide) (by decide) rfl rfl (by decide) (by decide +kernel) (Nat.le_of_ble_eq_true rfl) rfl ?_
    refine ⟨D, rfl, hM, ?_⟩
    dsimp only [Option.toList, List.cons_append, List.nil_append]
    refine zr_if_ne hC dX9_does_15 (tgt := 22) (by decide) (fun c_15 => ?_) (fun c_15 => ?_)
    · have hb : ¬ brf D = nI 0 := fun q => c_15 (q.trans nI_0)
      refine zk_iconst hC dX9_does_22 (v := nI 0) (by decide +kernel) ?_
      refine zr_istore_n hC dX9_does_23 (by decide) ?_
      refine zr_iload_n hC dX9_does_24 rfl ?_
      refine zr_if_eq hC dX9_does_25 (tgt := 35) (by decide) (fun c_25 => ?_) (fun c => absurd c (by decide +kernel))
      refine zk_iconst hC dX9_does_35 (v := nI 0) (by decide +kernel) ?_
      refine zr_istore hC dX9_does_36 (by decide) ?_
      refine zr_iload_n hC dX9_does_38 rfl ?_
      refine zr_if_eq hC dX9_does_39 (tgt := 51) (by decide) (fun c_39 => ?_) (fun c => absurd c (by decide +kernel))
      refine zk_iconst hC dX9_does_51 (v := nI 0) (by decide +kernel) ?_
      exact zr_zreturn hC hE dX9_does_52 (by first | exact Or.inl rfl | exact Or.inr rfl) (hr _ _ (hN (if_neg hb)))
    · have hb : brf D = nI 0 := c_15.trans nI_0.symm
      refine zk_iconst hC dX9_does_18 (v := nI 1) (by decide +kernel) ?_
      refine zr_goto hC dX9_does_19 (tgt := 23) (by decide) ?_
      refine zr_istore_n hC dX9_does_23 (by decide) ?_
      refine zr_iload_n hC dX9_does_24 rfl ?_
      refine zr_if_eq hC dX9_does_25 (tgt := 35) (by decide) (fun c => absurd c (by decide +kernel)) (fun c_25 => ?_)
      refine zr_aload_n hC dX9_does_28 rfl ?_
      refine zs_callV hC (b := 245) [] [] dX9_does_29 ml_X9_152 mtX9_batches tX9_batches (by decide) (by decide) (by decide) rfl rfl (by decide) (by decide +kernel) (Nat.le_of_ble_eq_true rfl) rfl ?_
      refine ⟨D, rfl, hM, hI, hb, fun S1 hM1 hf1 => ?_⟩
      have h61 := (hI.btc hb).written
      dsimp only [Option.toList, List.cons_append, List.nil_append]
      refine zr_goto hC dX9_does_32 (tgt := 36) (by decide) ?_
      refine zr_istore hC dX9_does_36 (by decide) ?_
      refine zr_iload_n hC dX9_does_38 rfl ?_
      refine zr_if_eq hC dX9_does_39 (tgt := 51) (by decide) (fun c => absurd c (by decide +kernel)) (fun c_39 => ?_)
      refine zr_iload hC dX9_does_42 rfl ?_
      refine zr_if_lt hC dX9_does_44 (tgt := 51) (by decide) (fun c => absurd c (nI_pos (by omega))) (fun c_44 => ?_)
      refine zk_iconst hC dX9_does_47 (v := nI 1) (by decide +kernel) ?_
      refine zr_goto hC dX9_does_48 (tgt := 52) (by decide) ?_
      exact zr_zreturn hC hE dX9_does_52 (by first | exact Or.inl rfl | exact Or.inr rfl) (hr _ _ (hQ _ (if_pos hb) _ hM1 hf1))
  · rw [ev2_c D hm] at hN hQ
    refine zr_iload_n hC dX9_does_0 rfl ?_
    refine zk_bipush hC dX9_does_1 (v := nI 16) (by decide +kernel) ?_
    refine zn_irem hC dX9_does_3 (by decide +kernel) (z_rem16 hm) ?_
    refine zr_istore_n hC dX9_does_4 (by decide) ?_
    refine zr_iload_n hC dX9_does_5 rfl ?_
    refine zk_bipush hC dX9_does_6 (v := nI 32) (by decide +kernel) ?_
    refine zr_icmp_ne hC dX9_does_8 (tgt := 53) (by decide) (fun c_8 => ?_) (fun c => absurd c (fun q => by rw [nI_eq (by omega) (by decide)] at q; omega))
    refine zr_iload_n hC dX9_does_53 rfl ?_
    refine zk_bipush hC dX9_does_54 (v := nI 16) (by decide +kernel) ?_
    refine zr_icmp_ge hC dX9_does_56 (tgt := 63) (by decide) (fun c => absurd c (nI_ge hm (by decide))) (fun c_56 => ?_)
    refine zk_iconst hC dX9_does_59 (v := nI 1) (by decide +kernel) ?_
    refine zr_goto hC dX9_does_60 (tgt := 64) (by decide) ?_
    refine zr_istore_n hC dX9_does_64 (by decide) ?_
    refine zr_iload_n hC dX9_does_65 rfl ?_
    refine zr_if_eq hC dX9_does_66 (tgt := 90) (by decide) (fun c => absurd c (by decide +kernel)) (fun c_66 => ?_)
    refine zr_aload_n hC dX9_does_69 rfl ?_
    refine zr_iload_n hC dX9_does_70 rfl ?_
    refine zs_callV hC (b := 245) [_] [] dX9_does_71 ml_X9_68 mtX9_sits tX9_sits (by decide) (by decide) (by decide) rfl rfl (by decide) (by decide +kernel) (Nat.le_of_ble_eq_true rfl) rfl ?_
    refine ⟨e, D, rfl, hm, hM, fun r e => ?_⟩
    rcases e with ⟨rfl, hx⟩ | ⟨rfl, hx⟩
    · have hm1 := hM.lt1 hm
      dsimp only [Option.toList, List.cons_append, List.nil_append]
      refine zr_if_ne hC dX9_does_74 (tgt := 108) (by decide) (fun c_74 => ?_) (fun c => absurd c (by decide +kernel))
      refine zk_iconst hC dX9_does_108 (v := nI 0) (by decide +kernel) ?_
      exact zr_zreturn hC hE dX9_does_109 (by first | exact Or.inl rfl | exact Or.inr rfl) (hr _ _ (hN (if_neg (fun q => by first | exact hx q.1 | exact q.2 hz))))
    · have hm1 := hM.lt1 hm
      dsimp only [Option.toList, List.cons_append, List.nil_append]
      refine zr_if_ne hC dX9_does_74 (tgt := 108) (by decide) (fun c => absurd c (by decide +kernel)) (fun c_74 => ?_)
      refine zr_aload_n hC dX9_does_77 rfl ?_
      refine zr_iload_n hC dX9_does_78 rfl ?_
      refine zk_iconst hC dX9_does_79 (v := nI 3) (by decide +kernel) ?_
      refine zs_callV hC (b := 245) [_, _] [] dX9_does_80 ml_X9_64 mtX9_of tX9_of (by decide) (by decide) (by decide) rfl rfl (by decide) (by decide +kernel) (Nat.le_of_ble_eq_true rfl) rfl ?_
      refine ⟨e, 3, rfl, hm, by decide, ?_⟩
      rw [show S.1 246 (4 + 6 * e + 3) = nI (D 1 e) from MW.mem hM hm (by decide)]
      dsimp only [Option.toList, List.cons_append, List.nil_append]
      refine zk_iconst hC dX9_does_83 (v := nI 1) (by decide +kernel) ?_
      refine zr_icmp_ne hC dX9_does_84 (tgt := 110) (by decide) (fun c_84 => ?_) (fun c_84 => ?_)
      · have hz : D 1 e ≠ 1 := fun q => c_84 (by rw [q])
        refine zr_aload_n hC dX9_does_110 rfl ?_
        refine zr_iload_n hC dX9_does_111 rfl ?_
        refine zk_iconst hC dX9_does_112 (v := nI 3) (by decide +kernel) ?_
        refine zr_iload_n hC dX9_does_113 rfl ?_
        refine zr_if_eq hC dX9_does_114 (tgt := 121) (by decide) (fun c => absurd c (by decide +kernel)) (fun c_114 => ?_)
        refine zk_iconst hC dX9_does_117 (v := nI 1) (by decide +kernel) ?_
        refine zr_goto hC dX9_does_118 (tgt := 122) (by decide) ?_
        refine zs_callV hC (b := 245) [_, _, _] [] dX9_does_122 ml_X9_104 mtX9_put tX9_put (by decide) (by decide) (by decide) rfl rfl (by decide) (by decide +kernel) (Nat.le_of_ble_eq_true rfl) rfl ?_
        refine ⟨e, 3, _, rfl, hm, by decide, ?_⟩
        have hM2 : MW ((zput S 246 (4 + 6 * e + 3) (nI 1)).1 246) (dset D 1 e 1) := by rw [zput_arr]; exact MW.put (w := 3) hM hm (by decide) ⟨fun q => absurd q (by decide), fun _ => by decide, fun q => absurd q (by decide)⟩
        dsimp only [Option.toList, List.nil_append]
        refine zk_iconst hC dX9_does_125 (v := nI 1) (by decide +kernel) ?_
        exact zr_zreturn hC hE dX9_does_126 (by first | exact Or.inl rfl | exact Or.inr rfl) (hr _ _ (hQ _ (if_pos ⟨hx, hz⟩) _ hM2 (zfrm.rf.put (by decide) (by decide))))
      · have hz : D 1 e = 1 := (nI_eq (by omega) (by decide)).mp c_84
        refine zr_goto hC dX9_does_87 (tgt := 108) (by decide) ?_
        refine zk_iconst hC dX9_does_108 (v := nI 0) (by decide +kernel) ?_
        exact zr_zreturn hC hE dX9_does_109 (by first | exact Or.inl rfl | exact Or.inr rfl) (hr _ _ (hN (if_neg (fun q => by first | exact hx q.1 | exact q.2 hz))))
  · rw [ev2_l D hm] at hN hQ
    refine zr_iload_n hC dX9_does_0 rfl ?_
    refine zk_bipush hC dX9_does_1 (v := nI 16) (by decide +kernel) ?_
    refine zn_irem hC dX9_does_3 (by decide +kernel) (z_rem16b hm) ?_
    refine zr_istore_n hC dX9_does_4 (by decide) ?_
    refine zr_iload_n hC dX9_does_5 rfl ?_
    refine zk_bipush hC dX9_does_6 (v := nI 32) (by decide +kernel) ?_
    refine zr_icmp_ne hC dX9_does_8 (tgt := 53) (by decide) (fun c_8 => ?_) (fun c => absurd c (fun q => by rw [nI_eq (by omega) (by decide)] at q; omega))
    refine zr_iload_n hC dX9_does_53 rfl ?_
    refine zk_bipush hC dX9_does_54 (v := nI 16) (by decide +kernel) ?_
    refine zr_icmp_ge hC dX9_does_56 (tgt := 63) (by decide) (fun c_56 => ?_) (fun c => absurd c (not_not_intro (nI_le (by omega) (by omega))))
    refine zk_iconst hC dX9_does_63 (v := nI 0) (by decide +kernel) ?_
    refine zr_istore_n hC dX9_does_64 (by decide) ?_
    refine zr_iload_n hC dX9_does_65 rfl ?_
    refine zr_if_eq hC dX9_does_66 (tgt := 90) (by decide) (fun c_66 => ?_) (fun c => absurd c (by decide +kernel))
    refine zr_aload_n hC dX9_does_90 rfl ?_
    refine zr_iload_n hC dX9_does_91 rfl ?_
    refine zs_callV hC (b := 245) [_] [] dX9_does_92 ml_X9_68 mtX9_sits tX9_sits (by decide) (by decide) (by decide) rfl rfl (by decide) (by decide +kernel) (Nat.le_of_ble_eq_true rfl) rfl ?_
    refine ⟨m, D, rfl, hm, hM, fun r e => ?_⟩
    rcases e with ⟨rfl, hx⟩ | ⟨rfl, hx⟩
    · have hm1 := hM.lt1 hm
      dsimp only [Option.toList, List.cons_append, List.nil_append]
      refine zr_if_eq hC dX9_does_95 (tgt := 108) (by decide) (fun c => absurd c (by decide +kernel)) (fun c_95 => ?_)
      refine zr_aload_n hC dX9_does_98 rfl ?_
      refine zr_iload_n hC dX9_does_99 rfl ?_
      refine zk_iconst hC dX9_does_100 (v := nI 3) (by decide +kernel) ?_
      refine zs_callV hC (b := 245) [_, _] [] dX9_does_101 ml_X9_64 mtX9_of tX9_of (by decide) (by decide) (by decide) rfl rfl (by decide) (by decide +kernel) (Nat.le_of_ble_eq_true rfl) rfl ?_
      refine ⟨m, 3, rfl, hm, by decide, ?_⟩
      rw [show S.1 246 (4 + 6 * m + 3) = nI (D 1 m) from MW.mem hM hm (by decide)]
      dsimp only [Option.toList, List.cons_append, List.nil_append]
      refine zk_iconst hC dX9_does_104 (v := nI 2) (by decide +kernel) ?_
      refine zr_icmp_ne hC dX9_does_105 (tgt := 110) (by decide) (fun c_105 => ?_) (fun c_105 => ?_)
      · have hz : D 1 m ≠ 2 := fun q => c_105 (by rw [q])
        refine zr_aload_n hC dX9_does_110 rfl ?_
        refine zr_iload_n hC dX9_does_111 rfl ?_
        refine zk_iconst hC dX9_does_112 (v := nI 3) (by decide +kernel) ?_
        refine zr_iload_n hC dX9_does_113 rfl ?_
        refine zr_if_eq hC dX9_does_114 (tgt := 121) (by decide) (fun c_114 => ?_) (fun c => absurd c (by decide +kernel))
        refine zk_iconst hC dX9_does_121 (v := nI 2) (by decide +kernel) ?_
        refine zs_callV hC (b := 245) [_, _, _] [] dX9_does_122 ml_X9_104 mtX9_put tX9_put (by decide) (by decide) (by decide) rfl rfl (by decide) (by decide +kernel) (Nat.le_of_ble_eq_true rfl) rfl ?_
        refine ⟨m, 3, _, rfl, hm, by decide, ?_⟩
        have hM2 : MW ((zput S 246 (4 + 6 * m + 3) (nI 2)).1 246) (dset D 1 m 2) := by rw [zput_arr]; exact MW.put (w := 3) hM hm (by decide) ⟨fun q => absurd q (by decide), fun _ => by decide, fun q => absurd q (by decide)⟩
        dsimp only [Option.toList, List.nil_append]
        refine zk_iconst hC dX9_does_125 (v := nI 1) (by decide +kernel) ?_
        exact zr_zreturn hC hE dX9_does_126 (by first | exact Or.inl rfl | exact Or.inr rfl) (hr _ _ (hQ _ (if_pos ⟨hx, hz⟩) _ hM2 (zfrm.rf.put (by decide) (by decide))))
      · have hz : D 1 m = 2 := (nI_eq (by omega) (by decide)).mp c_105
        refine zk_iconst hC dX9_does_108 (v := nI 0) (by decide +kernel) ?_
        exact zr_zreturn hC hE dX9_does_109 (by first | exact Or.inl rfl | exact Or.inr rfl) (hr _ _ (hN (if_neg (fun q => by first | exact q.1 hx | exact q.2 hz))))
    · have hm1 := hM.lt1 hm
      dsimp only [Option.toList, List.cons_append, List.nil_append]
      refine zr_if_eq hC dX9_does_95 (tgt := 108) (by decide) (fun c_95 => ?_) (fun c => absurd c (by decide +kernel))
      refine zk_iconst hC dX9_does_108 (v := nI 0) (by decide +kernel) ?_
      exact zr_zreturn hC hE dX9_does_109 (by first | exact Or.inl rfl | exact Or.inr rfl) (hr _ _ (hN (if_neg (fun q => by first | exact q.1 hx | exact q.2 hz))))
