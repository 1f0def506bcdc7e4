/-! THE CONSTRUCTOR of KeyTrees: the four sheets -/
def sf (n t : Nat) : Nat → Option Nat := fun j => if j < t then some (n + (236 + 2 * j)) else none
theorem sf_0 (n : Nat) : sf n 0 = fun _ => none := funext fun j => if_neg (Nat.not_lt_zero j)
theorem sf_s (n t : Nat) : va_up (sf n t) t (some (n + (236 + 2 * t))) = sf n (t + 1) := funext fun j => by
  by_cases q : j = t
  · subst q; rw [va_up_self]; exact (if_pos (Nat.lt_succ_self j)).symm
  · rw [va_up_ne _ _ q]
    unfold sf
    by_cases h : j < t
    · rw [if_pos h, if_pos (by omega)]
    · rw [if_neg h, if_neg (by omega)]
def shs (n : Nat) : Nat → List va_E
  | 0 => []
  | t + 1 => shs n t ++ (obX6_init (n + (236 + 2 * t + 1)) :: LxX6_init (n + (236 + 2 * t + 1)))
def SL (n t : Nat) : List va_E := (KL n ++ shs n t).set 230 (zqa 5 4 (sf n t))
theorem shs_len (n : Nat) : ∀ t, (shs n t).length = 2 * t
  | 0 => rfl
  | t + 1 => by
    unfold shs
    rw [List.length_append, shs_len n t]
    show 2 * t + 2 = _
    omega
theorem KL_len (n : Nat) : (KL n).length = 236 := by
  unfold KL
  simp only [List.length_append, List.length_cons, List.length_nil, bks_len]
theorem KL_230 (n : Nat) : (KL n)[230]? = some (zqa 5 4 (fun _ => none)) := by
  unfold KL
  rw [List.getElem?_append_left (by simp only [List.length_append, List.length_cons, List.length_nil, bks_len]; omega), List.getElem?_append_left (by simp only [List.length_append, List.length_cons, List.length_nil, bks_len]; omega), List.getElem?_append_right (by simp only [List.length_append, List.length_cons, List.length_nil, bks_len]; omega)]
  simp [bks_len]
theorem SL_0 (n : Nat) : SL n 0 = KL n := by
  unfold SL
  rw [sf_0]
  have h := zN_0 (KL_230 n)
  unfold zN at h
  show (KL n ++ []).set 230 _ = KL n
  rw [List.append_nil]
  rwa [List.append_nil] at h
theorem SL_len (n t : Nat) : (SL n t).length = 236 + 2 * t := by
  unfold SL; rw [List.length_set, List.length_append, KL_len, shs_len]
theorem SL_230 (n t : Nat) : (SL n t)[230]? = some (zqa 5 4 (sf n t)) := by
  unfold SL
  exact List.getElem?_set_self (by rw [List.length_append, KL_len]; omega)
theorem set_gen {K S M : List va_E} {i : Nat} {a b : va_E} (h : i < K.length) : ((K ++ S).set i a ++ M).set i b = (K ++ (S ++ M)).set i b := by
  have h1 : i < ((K ++ S).set i a).length := by rw [List.length_set, List.length_append]; omega
  have h2 : i < (K ++ S).length := by rw [List.length_append]; omega
  rw [List.set_append_left _ _ h1, List.set_set, ← List.append_assoc, List.set_append_left _ _ h2]
theorem SL_s (n t : Nat) : (SL n t ++ (obX6_init (n + (236 + 2 * t + 1)) :: LxX6_init (n + (236 + 2 * t + 1)))).set 230 (zqa 5 4 (sf n (t + 1))) = SL n (t + 1) := by
  have h : 230 < (KL n).length := by rw [KL_len]; decide
  have e : shs n (t + 1) = shs n t ++ (obX6_init (n + (236 + 2 * t + 1)) :: LxX6_init (n + (236 + 2 * t + 1))) := rfl
  unfold SL
  rw [e]
  generalize KL n = K at *
  exact set_gen h
abbrev LxX8_init (n : Nat) : List va_E := SL n 4
set_option maxHeartbeats 1000000 in
theorem l8_sh {C : zCx} {τ : Nat → ClassId} (hC : zOK C τ (zrm 4 244 20414) yX8_init.cls cX8_init 2) {w : List va_E} {b : Nat} {Qr : List va_E → Prop} {ι0 : Nat → Nat} (hE : zRetN C τ ι0 w.length 244 20414 Qr) (hQ : Qr (zN w b (obX8_init w.length) (LxX8_init w.length))) : ∀ (d t : Nat) (ι : Nat → Nat), t + d = 4 → (∀ k, k < w.length → ι k = ι0 k) → zNB w b (obX8_init w.length) (SL w.length t) → zR C τ ι 2 (236 + 2 * t) (20306 + 27 * t) 91 [(0, .ref b), (1, .int (nI t))] [] (zN w b (obX8_init w.length) (SL w.length t)) := by
  intro d
  induction d with
  | zero =>
    intro t ι ht hag hB
    obtain rfl : t = 4 := by omega
    refine zr_iload_n hC dX8_init_91 rfl ?_
    refine zk_iconst hC dX8_init_92 (v := nI 4) (by decide +kernel) ?_
    refine zr_icmp_ge hC dX8_init_93 (tgt := 115) (by decide) (fun c_93 => ?_) (fun c => absurd c (not_not_intro (nI_le (Nat.le_refl _) (by decide))))
    exact zr_vretN hC hE hag (by decide) (by decide) dX8_init_115 hQ
  | succ d ih =>
    intro t ι ht hag hB
    have hlen := SL_len w.length t
    have h230 := SL_230 w.length t
    have hs := SL_s w.length t
    generalize SL w.length t = L at *
    refine zr_iload_n hC dX8_init_91 rfl ?_
    refine zk_iconst hC dX8_init_92 (v := nI 4) (by decide +kernel) ?_
    refine zr_icmp_ge hC dX8_init_93 (tgt := 115) (by decide) (fun c => absurd c (nI_ge (by omega) (by decide))) (fun c_93 => ?_)
    refine zr_aload_n hC dX8_init_96 rfl ?_
    refine zr_getf hC dX8_init_97 fl_X8_38 (zN_at hB.1) (v := .ref (w.length + 230)) rfl ?_
    refine zr_iload_n hC dX8_init_100 rfl ?_
    refine zo_new hC dX8_init_101 nw_X8_36 (by simp) (by omega) (by omega) hB hag (zl2 hB.1) (zs2i (by omega)) (fun ι hag hB => ?_)
    refine zr_dup hC dX8_init_104 rfl ?_
    refine zo_iniN hC hE dX8_init_105 mn_X8_56 mtX6_init tX6_init gX6_init (by decide) (by omega) (by omega) (by simp [Value.category]) hB zlast hag (zl2 hB.1) (zs3i (by rw [List.length_append, hlen]; omega) zlt) (fun ι hag hB => ?_)
    rw [zcan, List.length_append, List.length_singleton, hlen] at hB ⊢
    refine zo_aast hC dX8_init_108 (Or.inr ⟨rfl, rfl⟩) hB (j := 230) (f := sf w.length t) (n := 4) (by rw [List.getElem?_append_left (by omega)]; exact h230) (fs := [.ref (w.length + (236 + 2 * t + 1)), .int (-1), .int 0]) (by rw [List.getElem?_append_right (by omega), hlen, Nat.sub_self]; rfl) (by omega) (by decide) (fun hB => ?_)
    rw [sf_s, hs] at hB ⊢
    refine zn_iinc hC dX8_init_109 rfl (by decide) (zk_inc _ 1) ?_
    refine zr_goto hC dX8_init_112 (tgt := 91) (by decide) ?_
    have i2 := ih (t + 1) ι (by omega) hag hB
    rw [show 236 + 2 * (t + 1) = 236 + 2 * t + 1 + 1 by omega, show 20306 + 27 * (t + 1) = 20306 + 27 * t + 3 + 24 by omega] at i2
    exact zR_sub [(0, .ref b), (1, .int (nI (t + 1)))] ⟨rfl, rfl, trivial⟩ i2
set_option maxHeartbeats 1000000 in
theorem tX8_init : zMetN yX8_init cX8_init 2 4 244 20414 (zIni 8 [.null, .null, .null, .null, .int 0, .null, .null, .null, .null] obX8_init LxX8_init) := by
  refine zMetN.of (by decide) (by decide +kernel) (by decide) (fun av w Qr h => by obtain ⟨b, rfl, -⟩ := h; exact Nat.le_of_ble_eq_true rfl) (fun C τ ι av w Qr h hC hE => ?_)
  obtain ⟨b, rfl, hb, hw, hQ⟩ := h
  have hB := zNB.start hb hw
  show zR C τ ι _ 0 0 0 [(0, .ref b)] [] w
  rw [← zN_0 hb]
  refine l8_init hC hE ι (fun _ _ => rfl) hB (fun ι hag L hL hB => ?_)
  rw [hL, ← SL_0] at hB ⊢
  exact l8_sh hC hE hQ 4 0 ι rfl hag hB
