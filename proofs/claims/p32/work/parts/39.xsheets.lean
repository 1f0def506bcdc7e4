/-! THE CALLS OF THE CLASS: sheets -/
theorem ids_s : ∀ t, t < 4 → [237, 239, 241, 243][t]? = some (237 + 2 * t) := by decide
theorem caI_k {x c : Nat} (hx : x < 1000) (hc : c < 1000) : caI x = nI c ↔ x = c + 1 := by
  cases x with
  | zero =>
    constructor
    · intro e; exact absurd e.symm (nI_ne1 (by omega))
    · intro e; omega
  | succ n =>
    show nI n = nI c ↔ _
    rw [nI_eq (by omega) (by omega)]
    omega
theorem shref_of {S : zS} {h : zH} (hh : SHR S h) {t c : Nat} {i n r : Int32} (ht : t < 4) (hc : c < 4) (e : (r = -11 ∧ S.1 (237 + 2 * t) 1 = -1) ∨ (S.1 (237 + 2 * t) 1 ≠ -1 ∧ r = -12 ∧ S.1 (237 + 2 * t) 1 ≠ nI c) ∨ (S.1 (237 + 2 * t) 1 ≠ -1 ∧ S.1 (237 + 2 * t) 1 = nI c ∧ ((r = -13 ∧ ¬ LK i n (h.2.1 t)) ∨ (r = nI 0 ∧ LK i n (h.2.1 t))))) : r = shref h t c i n := by
  obtain ⟨h1, h2, h3, h4, -⟩ := hh t ht
  rw [h1] at e
  have q1 : caI (h.1 t) = -1 ↔ h.1 t = 0 := caI_m1 (by omega)
  have q2 : caI (h.1 t) = nI c ↔ h.1 t = c + 1 := caI_k (by omega) (by omega)
  unfold shref
  rcases e with ⟨rfl, e⟩ | ⟨e1, rfl, e2⟩ | ⟨e1, e2, e3⟩
  · rw [if_pos (q1.mp e)]
  · rw [if_neg (fun q => e1 (q1.mpr q)), if_pos (fun q => e2 (q2.mpr q))]
  · rw [if_neg (fun q => e1 (q1.mpr q)), if_neg (fun q => q (q2.mp e2))]
    rcases e3 with ⟨rfl, e3⟩ | ⟨rfl, e3⟩
    · rw [if_neg (fun q => e3 ((lkb_iff h3).mp q))]
    · rw [if_pos ((lkb_iff h3).mpr e3)]
theorem shref_0 {h : zH} {t c : Nat} {i n : Int32} (hz : h.2.1 t ≤ 24) (e : shref h t c i n = nI 0) : h.1 t = c + 1 ∧ LK i n (h.2.1 t) := by
  unfold shref at e
  split at e
  · exact absurd e (by decide)
  · split at e
    · exact absurd e (by decide)
    next h2 =>
      split at e
      next h3 => exact ⟨Decidable.not_not.mp h2, (lkb_iff hz).mp h3⟩
      next => exact absurd e (by decide)
theorem z_l2i {v : Int64} {n : Nat} (h0 : 0 ≤ v.toInt) (h1 : v.toInt < (n : Int)) (hn : n < 2147483648) : v.toInt32 = nI v.toBitVec.toNat ∧ v.toBitVec.toNat < n := by
  have h2 : v.toInt = (v.toBitVec.toNat : Int) := by
    have := BitVec.toInt_eq_toNat_cond v.toBitVec
    have h3 : v.toInt = v.toBitVec.toInt := rfl
    rw [h3] at h0 h1 ⊢
    rw [this] at h0 h1 ⊢
    split
    · rfl
    next q =>
      rw [if_neg q] at h0
      have := v.toBitVec.isLt
      omega
  refine ⟨?_, by omega⟩
  rw [fa_eq, Int64.toInt_toInt32, h2, nI_toInt (by omega), Int.bmod_def]
  omega
theorem gok_le {D : zD} {h : zH} {t a : Nat} {k : Nat} : ∀ n, k ≤ n → gok D h t a n = true → gok D h t a k = true
  | 0, hk, hg => by rw [show k = 0 by omega]; exact hg
  | n + 1, hk, hg => by
    by_cases e : k = n + 1
    · rw [e]; exact hg
    · unfold gok at hg
      rw [Bool.and_eq_true] at hg
      exact gok_le n (by omega) hg.1
theorem gok_at {D : zD} {h : zH} {t a k : Nat} : ∀ n, k < n → gok D h t a n = true → 0 ≤ (h.2.2 t (a + k)).toInt ∧ (h.2.2 t (a + k)).toInt < (D 6 1 : Int)
  | 0, hk, _ => by omega
  | n + 1, hk, hg => by
    unfold gok at hg
    rw [Bool.and_eq_true, Bool.and_eq_true, decide_eq_true_iff, decide_eq_true_iff] at hg
    by_cases e : k = n
    · subst e; exact hg.2
    · exact gok_at n (by omega) hg.1
theorem CG.sh {S S' : zS} {G : zG} (h : CG S G) (hI : GI G) {h' : zH} (hh : SHR S' h') (he : ∀ a, a < 237 → S'.1 a = S.1 a) : CG S' (gsh G h') := by
  obtain ⟨h1, h2', h3, h4, h5⟩ := h
  obtain ⟨i1, i2, i3, i4⟩ := hI
  have hC : CR S' G.1 := (CRb_1 i1).mp (((CRb_1 i1).mpr h1).fr i1 (fun a q1 q2 => he a (by omega)))
  exact ⟨hC, h2'.fr i2 (he _ (by decide)) (fun a q1 q2 => he a (by omega)), ⟨by rw [he 0 (by decide)]; exact h3.1, fun q => ⟨(h3.2 q).1.fr (i3 q).1 (fun a q1 q2 => he a (by omega)), (h3.2 q).2.fr (i3 q).2 (he _ (by decide)) (fun a q1 q2 => he a (by omega))⟩⟩, h4.fr (he _ (by decide)) (he _ (by decide)), hh⟩
theorem SHR.put {S : zS} {h : zH} (hh : SHR S h) {t k : Nat} {v : Int64} (ht : t < 4) : SHR (zputL S (238 + 2 * t) k v) (itset h t k v) := fun u hu => by
  obtain ⟨h1, h2, h3, h4, h5⟩ := hh u hu
  refine ⟨h1, h2, h3, h4, fun j hj => ?_⟩
  show (zputL S (238 + 2 * t) k v).2 (238 + 2 * u) j = if u = t ∧ j = k then v else h.2.2 u j
  by_cases q : u = t ∧ j = k
  · rw [if_pos q, q.1, q.2]; simp [zputL]
  · rw [if_neg q, ← h5 j hj]
    have : ¬ (238 + 2 * u = 238 + 2 * t ∧ j = k) := fun z => q ⟨by omega, z.2⟩
    simp only [zputL, if_neg this]
theorem SHR.new {S : zS} {h : zH} (hh : SHR S h) {t c z : Nat} {l zi : Int32} (ht : t < 4) (hl : l = caI c) (hzi : zi = nI z) (hz : z ≤ 24) (hc : c ≤ 4) : SHR (zfillL (zput (zput S (237 + 2 * t) 1 l) (237 + 2 * t) 2 zi) (238 + 2 * t) 24 (Int64.ofNat 0)) (shnew h t c z) := fun u hu => by
  subst hl hzi
  obtain ⟨h1, h2, h3, h4, h5⟩ := hh u hu
  by_cases q : u = t
  · subst q
    refine ⟨?_, ?_, ?_, ?_, fun j hj => ?_⟩
    · show (zput (zput S (237 + 2 * u) 1 (caI c)) (237 + 2 * u) 2 (nI z)).1 (237 + 2 * u) 1 = caI (fup h.1 u c u)
      rw [zput_k _ _ (by decide), zput_at, fup_at]
    · show (zput (zput S (237 + 2 * u) 1 (caI c)) (237 + 2 * u) 2 (nI z)).1 (237 + 2 * u) 2 = nI (fup h.2.1 u z u)
      rw [zput_at, fup_at]
    · show fup h.2.1 u z u ≤ 24
      rw [fup_at]; exact hz
    · show fup h.1 u c u ≤ 4
      rw [fup_at]; exact hc
    · replace hj : j < fup h.2.1 u z u := hj
      rw [fup_at] at hj
      show (zfillL (zput (zput S (237 + 2 * u) 1 (caI c)) (237 + 2 * u) 2 (nI z)) (238 + 2 * u) 24 (Int64.ofNat 0)).2 (238 + 2 * u) j = if u = u then 0 else h.2.2 u j
      rw [if_pos rfl]
      have : (238 + 2 * u = 238 + 2 * u ∧ j < 24) := ⟨rfl, by omega⟩
      exact if_pos this
  · refine ⟨?_, ?_, ?_, ?_, fun j hj => ?_⟩
    · show (zput (zput S (237 + 2 * t) 1 (caI c)) (237 + 2 * t) 2 (nI z)).1 (237 + 2 * u) 1 = caI (fup h.1 t c u)
      rw [zput_ne _ _ (by omega), zput_ne _ _ (by omega), fup_ne _ _ q]; exact h1
    · show (zput (zput S (237 + 2 * t) 1 (caI c)) (237 + 2 * t) 2 (nI z)).1 (237 + 2 * u) 2 = nI (fup h.2.1 t z u)
      rw [zput_ne _ _ (by omega), zput_ne _ _ (by omega), fup_ne _ _ q]; exact h2
    · show fup h.2.1 t z u ≤ 24
      rw [fup_ne _ _ q]; exact h3
    · show fup h.1 t c u ≤ 4
      rw [fup_ne _ _ q]; exact h4
    · replace hj : j < fup h.2.1 t z u := hj
      rw [fup_ne _ _ q] at hj
      show (zfillL (zput (zput S (237 + 2 * t) 1 (caI c)) (237 + 2 * t) 2 (nI z)) (238 + 2 * t) 24 (Int64.ofNat 0)).2 (238 + 2 * u) j = if u = t then 0 else h.2.2 u j
      rw [if_neg q, ← h5 j hj]
      have : ¬ (238 + 2 * u = 238 + 2 * t ∧ j < 24) := fun z => q (by omega)
      simp only [zfillL, if_neg this]
      rfl
theorem SHR.cpy {S : zS} {h : zH} (hh : SHR S h) {s a t b n : Nat} (hs : s < 4) (ht : t < 4) (h1 : a + n ≤ h.2.1 s) : SHR (zcpyL S (238 + 2 * s) a (238 + 2 * t) b n) (itcpy h s a t b n) := fun u hu => by
  obtain ⟨g1, g2, g3, g4, g5⟩ := hh u hu
  refine ⟨g1, g2, g3, g4, fun j hj => ?_⟩
  show (zcpyL S (238 + 2 * s) a (238 + 2 * t) b n).2 (238 + 2 * u) j = if u = t ∧ b ≤ j ∧ j < b + n then h.2.2 s (a + (j - b)) else h.2.2 u j
  by_cases q : u = t ∧ b ≤ j ∧ j < b + n
  · rw [if_pos q, ← (hh s hs).2.2.2.2 _ (by omega)]
    have : 238 + 2 * u = 238 + 2 * t ∧ b ≤ j ∧ j < b + n := ⟨by omega, q.2⟩
    simp only [zcpyL, if_pos this]
  · rw [if_neg q, ← g5 j hj]
    have : ¬ (238 + 2 * u = 238 + 2 * t ∧ b ≤ j ∧ j < b + n) := fun z => q ⟨by omega, z.2⟩
    simp only [zcpyL, if_neg this]
set_option maxHeartbeats 4000000 in
set_option maxRecDepth 100000 in
theorem l8_told {C : zCx} {τ : Nat → ClassId} {ι : Nat → Nat} (hC : zOK C τ (zrm 0 0 0) yX8_toldLetters.cls cX8_toldLetters 7) {S : zS} {t a n : Nat} {D : zD} {h : zH} {Qr : Option Value → List va_E → Prop} (hE : zRet C τ ι (some .boolean) Qr) (ht : t < 4) (han : a + n ≤ 24) (hw : S.1 10 0 = nI (D 6 1)) (h61 : D 6 1 < 1000) (hrow : ∀ k, k < n → S.2 (238 + 2 * t) (a + k) = h.2.2 t (a + k)) (hk : ∀ r, (r = nI 1 ∧ gok D h t a n = true) ∨ (r = nI 0 ∧ gok D h t a n = false) → Qr (some (.int r)) (zcells S)) : ∀ (d k : Nat), k + d = n → gok D h t a k = true → zR C τ ι 7 0 0 3 [(0, .ref 0), (1, .ref (237 + 2 * t)), (2, .int (nI a)), (3, .int (nI n)), (4, .int (nI (a + k)))] [] (zcells S) := by
  intro d
  induction d with
  | zero =>
    intro k hkn hg
    refine zr_iload hC dX8_toldLetters_3 rfl ?_
    refine zr_iload_n hC dX8_toldLetters_5 rfl ?_
    refine zr_iload_n hC dX8_toldLetters_6 rfl ?_
    refine zn_iadd hC dX8_toldLetters_7 (nI_add _ _) ?_
    refine zr_icmp_ge hC dX8_toldLetters_8 (tgt := 52) (by decide) (fun c_8 => ?_) (fun c => absurd c (not_not_intro (nI_le (by omega) (by omega))))
    refine zk_iconst hC dX8_toldLetters_52 (v := nI 1) (by decide +kernel) ?_
    exact zr_zreturn hC hE dX8_toldLetters_53 (Or.inr rfl) (hk _ (Or.inl ⟨rfl, by rw [show n = k by omega]; exact hg⟩))
  | succ d ih =>
    intro k hkn hg
    refine zr_iload hC dX8_toldLetters_3 rfl ?_
    refine zr_iload_n hC dX8_toldLetters_5 rfl ?_
    refine zr_iload_n hC dX8_toldLetters_6 rfl ?_
    refine zn_iadd hC dX8_toldLetters_7 (nI_add _ _) ?_
    refine zr_icmp_ge hC dX8_toldLetters_8 (tgt := 52) (by decide) (fun c => absurd c (nI_ge (by omega) (by omega))) (fun c_8 => ?_)
    refine zr_aload_n hC dX8_toldLetters_11 rfl ?_
    refine zs_getr hC dX8_toldLetters_12 fl_X8_280 (a := 237 + 2 * t) (r := 238 + 2 * t) (sh_f0 ht) (by omega) ?_
    refine zr_iload hC dX8_toldLetters_15 rfl ?_
    refine zv_lald hC dX8_toldLetters_17 (a := 238 + 2 * t) (n := 24) (sh_ar ht) (by decide) (by omega) (j := a + k) rfl (by omega) (hrow k (by omega)) ?_
    refine zr_lstore hC dX8_toldLetters_18 (by decide) ?_
    refine zr_lload hC dX8_toldLetters_20 rfl ?_
    refine zr_lconst hC dX8_toldLetters_22 ?_
    refine zr_lcmp hC dX8_toldLetters_23 ?_
    refine zr_if_lt hC dX8_toldLetters_24 (tgt := 44) (by decide) (fun c_24 => ?_) (fun c_24 => ?_)
    · rw [lg_cmp_lt, fa_lt64] at c_24
      have c_24 : ¬ 0 ≤ (h.2.2 t (a + k)).toInt := fun q => absurd c_24 (Int.not_lt.mpr q)
      refine zk_iconst hC dX8_toldLetters_44 (v := nI 0) (by decide +kernel) ?_
      exact zr_zreturn hC hE dX8_toldLetters_45 (Or.inl rfl) (hk _ (Or.inr ⟨rfl, Bool.eq_false_iff.mpr (fun q => absurd (gok_at n (by omega) q).1 c_24)⟩))
    · rw [lg_cmp_lt, fa_lt64] at c_24
      have c_24 : 0 ≤ (h.2.2 t (a + k)).toInt := Int.not_lt.mp c_24
      refine zr_lload hC dX8_toldLetters_27 rfl ?_
      refine zr_aload_n hC dX8_toldLetters_29 rfl ?_
      refine zs_getr hC dX8_toldLetters_30 fl_X8_12 (a := 0) (r := 1) rfl (by decide) ?_
      refine zs_getr hC dX8_toldLetters_33 fl_X8_178 (a := 1) (r := 10) rfl (by decide) ?_
      refine zv_geti hC dX8_toldLetters_36 fl_X8_195 (a := 10) rfl (by decide) (hw) ?_
      refine zr_i2l hC dX8_toldLetters_39 ?_
      refine zr_lcmp hC dX8_toldLetters_40 ?_
      refine zr_if_lt hC dX8_toldLetters_41 (tgt := 46) (by decide) (fun c_41 => ?_) (fun c_41 => ?_)
      · rw [lg_cmp_lt, nI_l (by omega), fa_lt64, lN_toInt (by omega)] at c_41
        refine zn_iinc hC dX8_toldLetters_46 rfl (by decide) (zk_inc _ 1) ?_
        refine zr_goto hC dX8_toldLetters_49 (tgt := 3) (by decide) ?_
        exact zR_sub [(0, .ref 0), (1, .ref (237 + 2 * t)), (2, .int (nI a)), (3, .int (nI n)), (4, .int (nI (a + (k + 1))))] ⟨rfl, rfl, rfl, rfl, rfl, trivial⟩ (ih (k + 1) (by omega) (by unfold gok; rw [hg, decide_eq_true c_24, decide_eq_true c_41]; rfl))
      · rw [lg_cmp_lt, nI_l (by omega), fa_lt64, lN_toInt (by omega)] at c_41
        refine zk_iconst hC dX8_toldLetters_44 (v := nI 0) (by decide +kernel) ?_
        exact zr_zreturn hC hE dX8_toldLetters_45 (Or.inl rfl) (hk _ (Or.inr ⟨rfl, Bool.eq_false_iff.mpr (fun q => c_41 (gok_at n (by omega) q).2)⟩))
def spX8_toldLetters : zSp := fun av S Q => ∃ (t a n : Nat) (D : zD) (h : zH), av = [.ref 0, .ref (237 + 2 * t), .int (nI a), .int (nI n)] ∧ t < 4 ∧ a + n ≤ 24 ∧ S.1 10 0 = nI (D 6 1) ∧ D 6 1 < 1000 ∧ (∀ k, k < n → S.2 (238 + 2 * t) (a + k) = h.2.2 t (a + k)) ∧ ∀ r, (r = nI 1 ∧ gok D h t a n = true) ∨ (r = nI 0 ∧ gok D h t a n = false) → Q (some (.int r)) S
set_option maxHeartbeats 4000000 in
set_option maxRecDepth 100000 in
theorem tX8_toldLetters : zM yX8_toldLetters cX8_toldLetters 7 (some .boolean) 0 spX8_toldLetters := by
  refine zM.of (by decide) (by decide) (fun av S Q h => by obtain ⟨t, a, n, D, h, rfl, ht, han, hw, h61, hrow, hQ⟩ := h; exact Nat.le_of_ble_eq_true rfl) (fun C τ ι av S Q Qr h hr hC hE => ?_)
  obtain ⟨t, a, n, D, h, rfl, ht, han, hw, h61, hrow, hQ⟩ := h
  show zR C τ ι _ 0 0 0 [(0, .ref 0), (1, .ref (237 + 2 * t)), (2, .int (nI a)), (3, .int (nI n))] [] _
  refine zr_iload_n hC dX8_toldLetters_0 rfl ?_
  refine zr_istore hC dX8_toldLetters_1 (by decide) ?_
  refine zR_sub [(0, .ref 0), (1, .ref (237 + 2 * t)), (2, .int (nI a)), (3, .int (nI n)), (4, .int (nI (a + 0)))] ⟨rfl, rfl, rfl, rfl, rfl, trivial⟩ ?_
  exact l8_told hC hE ht han hw h61 hrow (fun r e => hr _ _ (hQ _ e)) n 0 (by omega) rfl
set_option maxHeartbeats 4000000 in
set_option maxRecDepth 100000 in
theorem l8_got {C : zCx} {τ : Nat → ClassId} {ι : Nat → Nat} (hC : zOK C τ (zrm 2 0 0) yX8_got.cls cX8_got 10) {S0 : zS} {t a n m kk : Nat} {D : zD} {h : zH} (ht : t < 4) (han : a + n ≤ 24) (hL : LR S0 D) (h61 : D 6 1 ≤ 189) (hlt : ∀ i, i < D 6 1 → D 10 i < D 6 0 ∧ D 11 i < D 6 0) (hok : gok D h t a n = true) (hrow : ∀ k, k < n → S0.2 (238 + 2 * t) (a + k) = h.2.2 t (a + k)) (k : ∀ S' lv, zfrm 235 237 S0 S' → RG S' (gop D h m t a n) (D 6 0) → zsub lv [(0, .ref 0), (8, .int (nI kk))] → zR C τ ι 10 0 0 160 lv [] (zcells S')) : ∀ (d q : Nat) (S : zS), q + d = n → zfrm 235 237 S0 S → RG S (gop D h m t a q) (D 6 0) → zR C τ ι 10 0 0 120 [(0, .ref 0), (4, .int (nI a)), (5, .int (nI n)), (6, .ref (237 + 2 * t)), (8, .int (nI kk)), (9, .int (nI (a + q)))] [] (zcells S) := by
  intro d
  induction d with
  | zero =>
    intro q S hq hF hR
    refine zr_iload hC dX8_got_120 rfl ?_
    refine zr_iload hC dX8_got_122 rfl ?_
    refine zr_iload hC dX8_got_124 rfl ?_
    refine zn_iadd hC dX8_got_126 (nI_add _ _) ?_
    refine zr_icmp_ge hC dX8_got_127 (tgt := 160) (by decide) (fun c_127 => ?_) (fun c => absurd c (not_not_intro (nI_le (by omega) (by omega))))
    exact k S _ hF (by rw [show n = q by omega]; exact hR) ⟨rfl, rfl, trivial⟩
  | succ d ih =>
    intro q S hq hF hR
    have hg := gok_at n (show q < n by omega) hok
    have hv := z_l2i hg.1 hg.2 (by omega)
    have hv2 : gid h t a q < D 6 1 := hv.2
    refine zr_iload hC dX8_got_120 rfl ?_
    refine zr_iload hC dX8_got_122 rfl ?_
    refine zr_iload hC dX8_got_124 rfl ?_
    refine zn_iadd hC dX8_got_126 (nI_add _ _) ?_
    refine zr_icmp_ge hC dX8_got_127 (tgt := 160) (by decide) (fun c => absurd c (nI_ge (by omega) (by omega))) (fun c_127 => ?_)
    refine zr_aload_n hC dX8_got_130 rfl ?_
    refine zs_getr hC dX8_got_131 fl_X8_52 (a := 0) (r := 235) rfl (by decide) ?_
    refine zr_aload_n hC dX8_got_134 rfl ?_
    refine zs_getr hC dX8_got_135 fl_X8_12 (a := 0) (r := 1) rfl (by decide) ?_
    refine zs_getr hC dX8_got_138 fl_X8_178 (a := 1) (r := 10) rfl (by decide) ?_
    refine zr_aload hC dX8_got_141 rfl ?_
    refine zs_getr hC dX8_got_143 fl_X8_280 (a := 237 + 2 * t) (r := 238 + 2 * t) (sh_f0 ht) (by omega) ?_
    refine zr_iload hC dX8_got_146 rfl ?_
    refine zv_lald hC dX8_got_148 (a := 238 + 2 * t) (n := 24) (sh_ar ht) (by decide) (by omega) (j := a + q) rfl (by omega) ((congrFun (congrFun hF.2 _) _).trans (hrow q (by omega))) ?_
    refine zr_l2i hC dX8_got_149 ?_
    refine zs_callV hC (b := 235) [_, _] [] dX8_got_150 ml_X8_284 mtX4_open tX4_open (by decide) (by decide) (by decide) rfl rfl (by decide) (by decide +kernel) (Nat.le_of_ble_eq_true rfl) rfl ?_
    refine ⟨gid h t a q, D 10 (gid h t a q), D 11 (gid h t a q), D 6 0, gop D h m t a q, by rw [hv.1]; rfl, by omega, by rw [hF.1 11 (by decide)]; exact (hL.2 _ hv.2).1, by rw [hF.1 12 (by decide)]; exact (hL.2 _ hv.2).2.1, (hlt _ hv.2).1, (hlt _ hv.2).2, hR, fun S1 g1 f1 => ?_⟩
    dsimp only [Option.toList, List.cons_append, List.nil_append]
    refine zr_pop hC dX8_got_153 rfl ?_
    refine zn_iinc hC dX8_got_154 rfl (by decide) (zk_inc _ 1) ?_
    refine zr_goto hC dX8_got_157 (tgt := 120) (by decide) ?_
    exact zR_sub [(0, .ref 0), (4, .int (nI a)), (5, .int (nI n)), (6, .ref (237 + 2 * t)), (8, .int (nI kk)), (9, .int (nI (a + (q + 1))))] ⟨rfl, rfl, rfl, rfl, rfl, rfl, trivial⟩ (ih (q + 1) _ (by omega) (hF.tr f1) g1)
def spX8_got : zSp := fun av S Q => ∃ (G : zG) (x : Int32) (s : Int32) (l : Int32) (i : Int32) (n : Int32), av = [.ref 0, .int x, .int s, .int l, .int i, .int n] ∧ CG S G ∧ GI G ∧ ∀ S', CG S' G → zfc S S' → Q (some (.int (fGot x s l i n G))) S'
set_option maxHeartbeats 4000000 in
set_option maxRecDepth 100000 in
theorem tX8_got : zM yX8_got cX8_got 10 (some .int) 2 spX8_got := by
  refine zM.of (by decide) (by decide) (fun av S Q h => by obtain ⟨G, x, s, l, i, n, rfl, hCG, hGI, hQ⟩ := h; exact Nat.le_of_ble_eq_true rfl) (fun C τ ι av S Q Qr h hr hC hE => ?_)
  obtain ⟨G, x, s, l, i, n, rfl, hCG, hGI, hQ⟩ := h
  show zR C τ ι _ 0 0 0 [(0, .ref 0), (1, .int x), (2, .int s), (3, .int l), (4, .int i), (5, .int n)] [] _
  refine zr_iload_n hC dX8_got_0 rfl ?_
  refine zs_callS hC [_] [] dX8_got_1 ml_X8_57 mtX8_noMember tX8_noMember (by decide) (by decide) (by decide) rfl (Nat.le_of_ble_eq_true rfl) rfl ?_
  refine ⟨x, rfl, fun r e => ?_⟩
  rcases e with ⟨rfl, hx⟩ | ⟨rfl, m, hm, rfl⟩
  · simp only [fGot, mm_no hx] at hQ
    dsimp only [Option.toList, List.cons_append, List.nil_append]
    refine zr_if_ne hC dX8_got_4 (tgt := 34) (by decide) (fun c_4 => ?_) (fun c => absurd c (by decide +kernel))
    refine zk_iconst hC dX8_got_34 (v := (-1)) (by decide +kernel) ?_
    exact zr_ireturn hC hE dX8_got_35 (hr _ _ (hQ _ hCG zfc.rf))
  · dsimp only [Option.toList, List.cons_append, List.nil_append]
    refine zr_if_ne hC dX8_got_4 (tgt := 34) (by decide) (fun c => absurd c (by decide +kernel)) (fun c_4 => ?_)
    refine zr_iload_n hC dX8_got_7 rfl ?_
    refine zs_callS hC [_] [] dX8_got_8 ml_X8_266 mtX8_noSheet tX8_noSheet (by decide) (by decide) (by decide) rfl (Nat.le_of_ble_eq_true rfl) rfl ?_
    refine ⟨s, rfl, fun r e => ?_⟩
    rcases e with ⟨rfl, hx⟩ | ⟨rfl, t, ht, rfl⟩
    · simp only [fGot, mm_yes hm (show 16 < 2147483648 by decide), mm_no hx] at hQ
      dsimp only [Option.toList, List.cons_append, List.nil_append]
      refine zr_if_ne hC dX8_got_11 (tgt := 34) (by decide) (fun c_11 => ?_) (fun c => absurd c (by decide +kernel))
      refine zk_iconst hC dX8_got_34 (v := (-1)) (by decide +kernel) ?_
      exact zr_ireturn hC hE dX8_got_35 (hr _ _ (hQ _ hCG zfc.rf))
    · dsimp only [Option.toList, List.cons_append, List.nil_append]
      refine zr_if_ne hC dX8_got_11 (tgt := 34) (by decide) (fun c => absurd c (by decide +kernel)) (fun c_11 => ?_)
      refine zr_iload_n hC dX8_got_14 rfl ?_
      refine zs_callS hC [_] [] dX8_got_15 ml_X8_269 mtX8_noLane tX8_noLane (by decide) (by decide) (by decide) rfl (Nat.le_of_ble_eq_true rfl) rfl ?_
      refine ⟨l, rfl, fun r e => ?_⟩
      rcases e with ⟨rfl, hx⟩ | ⟨rfl, c, hc, rfl⟩
      · simp only [fGot, mm_yes hm (show 16 < 2147483648 by decide), mm_yes ht (show 4 < 2147483648 by decide), mm_no hx] at hQ
        dsimp only [Option.toList, List.cons_append, List.nil_append]
        refine zr_if_ne hC dX8_got_18 (tgt := 34) (by decide) (fun c_18 => ?_) (fun c => absurd c (by decide +kernel))
        refine zk_iconst hC dX8_got_34 (v := (-1)) (by decide +kernel) ?_
        exact zr_ireturn hC hE dX8_got_35 (hr _ _ (hQ _ hCG zfc.rf))
      · dsimp only [Option.toList, List.cons_append, List.nil_append]
        refine zr_if_ne hC dX8_got_18 (tgt := 34) (by decide) (fun c => absurd c (by decide +kernel)) (fun c_18 => ?_)
        refine zr_iload hC dX8_got_21 rfl ?_
        refine zk_iconst hC dX8_got_23 (v := nI 1) (by decide +kernel) ?_
        refine zr_icmp_lt hC dX8_got_24 (tgt := 34) (by decide) (fun c_24 => ?_) (fun c_24 => ?_)
        · simp only [fGot, mm_yes hm (show 16 < 2147483648 by decide), mm_yes ht (show 4 < 2147483648 by decide), mm_yes hc (show 4 < 2147483648 by decide), rg_no (b := 24) (Or.inl c_24)] at hQ
          refine zk_iconst hC dX8_got_34 (v := (-1)) (by decide +kernel) ?_
          exact zr_ireturn hC hE dX8_got_35 (hr _ _ (hQ _ hCG zfc.rf))
        · refine zr_iload hC dX8_got_27 rfl ?_
          refine zk_bipush hC dX8_got_29 (v := nI 24) (by decide +kernel) ?_
          refine zr_icmp_le hC dX8_got_31 (tgt := 36) (by decide) (fun c_31 => ?_) (fun c_31 => ?_)
          · obtain ⟨b, b1, b2, rfl⟩ := rg_in c_24 (Int32.not_lt.mpr c_31) (by decide) (by decide)
            simp only [fGot, mm_yes hm (show 16 < 2147483648 by decide), mm_yes ht (show 4 < 2147483648 by decide), mm_yes hc (show 4 < 2147483648 by decide), rg_yes b1 b2 (show 24 < 2147483648 by decide)] at hQ
            refine zr_aload_n hC dX8_got_36 rfl ?_
            refine zs_getr hC dX8_got_37 fl_X8_38 (a := 0) (r := 231) rfl (by decide) ?_
            refine zr_iload_n hC dX8_got_40 rfl ?_
            refine zs_aald hC dX8_got_41 (a := 231) (x := 237 + 2 * t) rfl (by decide) (by decide) (by decide) (j := t) rfl (ids_s t ht) ?_
            refine zr_astore hC dX8_got_42 (by decide) ?_
            refine zr_aload hC dX8_got_44 rfl ?_
            refine zr_iload_n hC dX8_got_46 rfl ?_
            refine zr_iload hC dX8_got_47 rfl ?_
            refine zr_iload hC dX8_got_49 rfl ?_
            refine zs_callV hC (b := 237 + 2 * t) [_, _, _] [] dX8_got_51 ml_X8_272 mtX6_refusal tX6_refusal (by decide) (by decide) (by decide) rfl (sh_sh ht) (by omega) (by decide +kernel) (Nat.le_of_ble_eq_true rfl) rfl ?_
            have hsh := hCG.2.2.2.2 t ht
            refine ⟨t, _, _, _, _, rfl, ht, hsh.2.1, hsh.2.2.1, fun r e => ?_⟩
            have e := shref_of hCG.2.2.2.2 ht hc e
            subst e
            dsimp only [Option.toList, List.cons_append, List.nil_append]
            refine zr_istore hC dX8_got_54 (by decide) ?_
            refine zr_iload hC dX8_got_56 rfl ?_
            refine zr_if_eq hC dX8_got_58 (tgt := 64) (by decide) (fun c_58 => ?_) (fun c_58 => ?_)
            · obtain ⟨hb1, a, b0, rfl, hbb, hb2⟩ := shref_0 hsh.2.2.1 (c_58.trans nI_0.symm)
              rw [nI_eq (by omega) (by omega)] at hbb
              subst hbb
              have hz24 := hsh.2.2.1
              have ht2 : (nI a).toBitVec.toNat = a := pk_tn (by omega)
              rw [if_neg (not_not_intro (c_58.trans nI_0.symm)), ht2] at hQ
              refine zr_aload_n hC dX8_got_64 rfl ?_
              refine zr_aload hC dX8_got_65 rfl ?_
              refine zr_iload hC dX8_got_67 rfl ?_
              refine zr_iload hC dX8_got_69 rfl ?_
              refine zs_callV hC (b := 0) [_, _, _] [] dX8_got_71 ml_X8_276 mtX8_toldLetters tX8_toldLetters (by decide) (by decide) (by decide) rfl rfl (by decide) (by decide +kernel) (Nat.le_of_ble_eq_true rfl) rfl ?_
              refine ⟨t, a, b, G.1, G.2.2.2.2, rfl, ht, by omega, hCG.1.lr.1, by have := hGI.1.written; omega, fun k hk => hsh.2.2.2.2 _ (by omega), fun r e => ?_⟩
              rcases e with ⟨rfl, hok⟩ | ⟨rfl, hok⟩
              · rw [if_neg (by rw [hok]; decide)] at hQ
                dsimp only [Option.toList, List.cons_append, List.nil_append]
                refine zr_if_ne hC dX8_got_74 (tgt := 80) (by decide) (fun c_74 => ?_) (fun c => absurd c (by decide +kernel))
                by_cases hs : sm (G.1 0) 1 = 0
                · have hg : S.1 9 1 = -4 := (hCG.1.orr 1 (by decide) (by decide)).trans (if_pos hs)
                  rw [if_pos hs] at hQ
                  refine zr_aload_n hC dX8_got_80 rfl ?_
                  refine zs_getr hC dX8_got_81 fl_X8_12 (a := 0) (r := 1) rfl (by decide) ?_
                  refine zs_callV hC (b := 1) [] [] dX8_got_84 ml_X8_145 mtX0_groupKey tX0_groupKey (by decide) (by decide) (by decide) rfl rfl (by decide) (by decide +kernel) (Nat.le_of_ble_eq_true rfl) rfl ?_
                  refine ⟨rfl, ?_⟩
                  rw [hg]
                  dsimp only [Option.toList, List.cons_append, List.nil_append]
                  refine zr_istore hC dX8_got_87 (by decide) ?_
                  refine zr_iload hC dX8_got_89 rfl ?_
                  refine zk_bipush hC dX8_got_91 (v := (-4)) (by decide +kernel) ?_
                  refine zr_icmp_ne hC dX8_got_93 (tgt := 99) (by decide) (fun c => absurd c (not_not_intro rfl)) (fun c_93 => ?_)
                  refine zk_bipush hC dX8_got_96 (v := (-4)) (by decide +kernel) ?_
                  exact zr_ireturn hC hE dX8_got_98 (hr _ _ (hQ _ hCG zfc.rf))
                · have hg : S.1 9 1 = nI (key G.1 1) := hCG.1.node (by decide) (by decide) hs
                  rw [if_neg hs] at hQ
                  have hk1 : key G.1 1 < G.1 6 0 := hGI.1.root hs
                  have h60 : G.1 6 0 ≤ 232 := by have := hGI.1.made; omega
                  refine zr_aload_n hC dX8_got_80 rfl ?_
                  refine zs_getr hC dX8_got_81 fl_X8_12 (a := 0) (r := 1) rfl (by decide) ?_
                  refine zs_callV hC (b := 1) [] [] dX8_got_84 ml_X8_145 mtX0_groupKey tX0_groupKey (by decide) (by decide) (by decide) rfl rfl (by decide) (by decide +kernel) (Nat.le_of_ble_eq_true rfl) rfl ?_
                  refine ⟨rfl, ?_⟩
                  rw [hg]
                  dsimp only [Option.toList, List.cons_append, List.nil_append]
                  refine zr_istore hC dX8_got_87 (by decide) ?_
                  refine zr_iload hC dX8_got_89 rfl ?_
                  refine zk_bipush hC dX8_got_91 (v := (-4)) (by decide +kernel) ?_
                  refine zr_icmp_ne hC dX8_got_93 (tgt := 99) (by decide) (fun c_93 => ?_) (fun c => absurd c (nI_ne4 (by omega)))
                  refine zr_aload_n hC dX8_got_99 rfl ?_
                  refine zs_getr hC dX8_got_100 fl_X8_52 (a := 0) (r := 235) rfl (by decide) ?_
                  refine zr_aload_n hC dX8_got_103 rfl ?_
                  refine zs_getr hC dX8_got_104 fl_X8_12 (a := 0) (r := 1) rfl (by decide) ?_
                  refine zs_getr hC dX8_got_107 fl_X8_120 (a := 1) (r := 5) rfl (by decide) ?_
                  refine zk_iconst hC dX8_got_110 (v := nI 1) (by decide +kernel) ?_
                  refine zr_iload_n hC dX8_got_111 rfl ?_
                  refine zn_ishl hC dX8_got_112 (z_shl1 m (by omega)) ?_
                  refine zs_callV hC (b := 235) [_, _] [] dX8_got_113 ml_X8_206 mtX4_take tX4_take (by decide) (by decide) (by decide) rfl rfl (by decide) (by decide +kernel) (Nat.le_of_ble_eq_true rfl) rfl ?_
                  refine ⟨2 ^ m, G.1, rfl, Nat.pow_lt_pow_right (n := 16) (by decide) hm, hCG.1.kr, h60, fun S1 hr1 hf1 => ?_⟩
                  dsimp only [Option.toList, List.nil_append]
                  refine zr_iload hC dX8_got_116 rfl ?_
                  refine zr_istore hC dX8_got_118 (by decide) ?_
                  refine zR_sub [(0, .ref 0), (4, .int (nI a)), (5, .int (nI b)), (6, .ref (237 + 2 * t)), (8, .int (nI (key G.1 1))), (9, .int (nI (a + 0)))] ⟨rfl, rfl, rfl, rfl, rfl, rfl, trivial⟩ ?_
                  refine l8_got (S0 := S1) (D := G.1) (h := G.2.2.2.2) (m := m) hC ht (by omega) (hCG.1.lr.kept (hf1.1 _ (by decide)) (hf1.1 _ (by decide)) (hf1.1 _ (by decide)) (hf1.1 _ (by decide))) hGI.1.written (fun i hi => ⟨(hGI.1.lets hi).1, (hGI.1.lets hi).2.1⟩) hok (fun k hk => by rw [hf1.2]; exact hsh.2.2.2.2 _ (by omega)) (fun S2 lv hf2 hR2 h8 => ?_) b 0 S1 (by omega) zfrm.rf hr1
                  refine zR_sub [(0, .ref 0), (8, .int (nI (key G.1 1)))] h8 ?_
                  refine zr_aload_n hC dX8_got_160 rfl ?_
                  refine zs_getr hC dX8_got_161 fl_X8_52 (a := 0) (r := 235) rfl (by decide) ?_
                  refine zr_iload hC dX8_got_164 rfl ?_
                  refine zs_callV hC (b := 235) [_] [] dX8_got_166 ml_X8_214 mtX4_has tX4_has (by decide) (by decide) (by decide) rfl rfl (by decide) (by decide +kernel) (Nat.le_of_ble_eq_true rfl) rfl ?_
                  refine ⟨_, _, G.1 6 0, rfl, hR2, fun r e => ?_⟩
                  have e := RG.is (S := S2) hk1 h60 e
                  rcases e with ⟨rfl, hy⟩ | ⟨rfl, hy⟩
                  · rw [hy] at hQ
                    dsimp only [Option.toList, List.cons_append, List.nil_append]
                    refine zr_if_eq hC dX8_got_169 (tgt := 176) (by decide) (fun c => absurd c (by decide +kernel)) (fun c_169 => ?_)
                    refine zk_iconst hC dX8_got_172 (v := nI 1) (by decide +kernel) ?_
                    refine zr_goto hC dX8_got_173 (tgt := 177) (by decide) ?_
                    exact zr_ireturn hC hE dX8_got_177 (hr _ _ (hQ _ (hCG.scr hGI ((hf1.tr hf2).up (by decide) (by decide))) ((hf1.tr hf2).c (by decide))))
                  · rw [hy] at hQ
                    dsimp only [Option.toList, List.cons_append, List.nil_append]
                    refine zr_if_eq hC dX8_got_169 (tgt := 176) (by decide) (fun c_169 => ?_) (fun c => absurd c (by decide +kernel))
                    refine zk_iconst hC dX8_got_176 (v := nI 0) (by decide +kernel) ?_
                    exact zr_ireturn hC hE dX8_got_177 (hr _ _ (hQ _ (hCG.scr hGI ((hf1.tr hf2).up (by decide) (by decide))) ((hf1.tr hf2).c (by decide))))
              · rw [if_pos hok] at hQ
                dsimp only [Option.toList, List.cons_append, List.nil_append]
                refine zr_if_ne hC dX8_got_74 (tgt := 80) (by decide) (fun c => absurd c (by decide +kernel)) (fun c_74 => ?_)
                refine zk_bipush hC dX8_got_77 (v := (-2)) (by decide +kernel) ?_
                exact zr_ireturn hC hE dX8_got_79 (hr _ _ (hQ _ hCG zfc.rf))
            · rw [if_pos (fun q => c_58 (q.trans nI_0))] at hQ
              refine zr_iload hC dX8_got_61 rfl ?_
              exact zr_ireturn hC hE dX8_got_63 (hr _ _ (hQ _ hCG zfc.rf))
          · simp only [fGot, mm_yes hm (show 16 < 2147483648 by decide), mm_yes ht (show 4 < 2147483648 by decide), mm_yes hc (show 4 < 2147483648 by decide), rg_no (a := 1) (Or.inr (Int32.not_le.mp c_31))] at hQ
            refine zk_iconst hC dX8_got_34 (v := (-1)) (by decide +kernel) ?_
            exact zr_ireturn hC hE dX8_got_35 (hr _ _ (hQ _ hCG zfc.rf))
theorem CG.put5 {S : zS} {G : zG} (h : CG S G) (hI : GI G) {t k : Nat} {v : Int64} (ht : t < 4) : CG (zputL S (238 + 2 * t) k v) (gsh G (itset G.2.2.2.2 t k v)) := h.sh hI (h.2.2.2.2.put ht) (fun a _ => rfl)
theorem GI.put5 {G : zG} (h : GI G) {t k : Nat} {v : Int64} : GI (gsh G (itset G.2.2.2.2 t k v)) := h
theorem zputL_c {S : zS} {t k : Nat} {v : Int64} (ht : t < 4) : zfc S (zputL S (238 + 2 * t) k v) := fun a ha => ⟨rfl, zputL_ne _ _ (by omega)⟩
def spX8_film : zSp := fun av S Q => ∃ (G : zG) (x : Int32) (s : Int32) (l : Int32) (i : Int32), av = [.ref 0, .int x, .int s, .int l, .int i] ∧ CG S G ∧ GI G ∧ ∀ S', CG S' (fFilm x s l i G).2 → zfc S S' → Q (some (.int (fFilm x s l i G).1)) S'
set_option maxHeartbeats 4000000 in
set_option maxRecDepth 100000 in
theorem tX8_film : zM yX8_film cX8_film 9 (some .int) 2 spX8_film := by
  refine zM.of (by decide) (by decide) (fun av S Q h => by obtain ⟨G, x, s, l, i, rfl, hCG, hGI, hQ⟩ := h; exact Nat.le_of_ble_eq_true rfl) (fun C τ ι av S Q Qr h hr hC hE => ?_)
  obtain ⟨G, x, s, l, i, rfl, hCG, hGI, hQ⟩ := h
  show zR C τ ι _ 0 0 0 [(0, .ref 0), (1, .int x), (2, .int s), (3, .int l), (4, .int i)] [] _
  refine zr_iload_n hC dX8_film_0 rfl ?_
  refine zk_bipush hC dX8_film_1 (v := nI 16) (by decide +kernel) ?_
  refine zr_icmp_lt hC dX8_film_3 (tgt := 26) (by decide) (fun c_3 => ?_) (fun c_3 => ?_)
  · simp only [fFilm, rg_no (b := 31) (Or.inl c_3)] at hQ
    refine zk_iconst hC dX8_film_26 (v := (-1)) (by decide +kernel) ?_
    exact zr_ireturn hC hE dX8_film_27 (hr _ _ (hQ _ hCG zfc.rf))
  · refine zr_iload_n hC dX8_film_6 rfl ?_
    refine zk_bipush hC dX8_film_7 (v := nI 32) (by decide +kernel) ?_
    refine zr_icmp_ge hC dX8_film_9 (tgt := 26) (by decide) (fun c_9 => ?_) (fun c_9 => ?_)
    · simp only [fFilm, rg_no (a := 16) (Or.inr (z_31 (Int32.not_lt.mpr c_9)))] at hQ
      refine zk_iconst hC dX8_film_26 (v := (-1)) (by decide +kernel) ?_
      exact zr_ireturn hC hE dX8_film_27 (hr _ _ (hQ _ hCG zfc.rf))
    · obtain ⟨v, v1, v2, rfl⟩ := rg_in c_3 (z_32 (Int32.not_le.mp c_9)) (by decide) (by decide)
      refine zr_iload_n hC dX8_film_12 rfl ?_
      refine zs_callS hC [_] [] dX8_film_13 ml_X8_266 mtX8_noSheet tX8_noSheet (by decide) (by decide) (by decide) rfl (Nat.le_of_ble_eq_true rfl) rfl ?_
      refine ⟨s, rfl, fun r e => ?_⟩
      rcases e with ⟨rfl, hx⟩ | ⟨rfl, t, ht, rfl⟩
      · simp only [fFilm, rg_yes v1 v2 (show 31 < 2147483648 by decide), mm_no hx] at hQ
        dsimp only [Option.toList, List.cons_append, List.nil_append]
        refine zr_if_ne hC dX8_film_16 (tgt := 26) (by decide) (fun c_16 => ?_) (fun c => absurd c (by decide +kernel))
        refine zk_iconst hC dX8_film_26 (v := (-1)) (by decide +kernel) ?_
        exact zr_ireturn hC hE dX8_film_27 (hr _ _ (hQ _ hCG zfc.rf))
      · dsimp only [Option.toList, List.cons_append, List.nil_append]
        refine zr_if_ne hC dX8_film_16 (tgt := 26) (by decide) (fun c => absurd c (by decide +kernel)) (fun c_16 => ?_)
        refine zr_iload_n hC dX8_film_19 rfl ?_
        refine zs_callS hC [_] [] dX8_film_20 ml_X8_269 mtX8_noLane tX8_noLane (by decide) (by decide) (by decide) rfl (Nat.le_of_ble_eq_true rfl) rfl ?_
        refine ⟨l, rfl, fun r e => ?_⟩
        rcases e with ⟨rfl, hx⟩ | ⟨rfl, c, hc, rfl⟩
        · simp only [fFilm, rg_yes v1 v2 (show 31 < 2147483648 by decide), mm_yes ht (show 4 < 2147483648 by decide), mm_no hx] at hQ
          dsimp only [Option.toList, List.cons_append, List.nil_append]
          refine zr_if_eq hC dX8_film_23 (tgt := 28) (by decide) (fun c => absurd c (by decide +kernel)) (fun c_23 => ?_)
          refine zk_iconst hC dX8_film_26 (v := (-1)) (by decide +kernel) ?_
          exact zr_ireturn hC hE dX8_film_27 (hr _ _ (hQ _ hCG zfc.rf))
        · dsimp only [Option.toList, List.cons_append, List.nil_append]
          refine zr_if_eq hC dX8_film_23 (tgt := 28) (by decide) (fun c_23 => ?_) (fun c => absurd c (by decide +kernel))
          simp only [fFilm, rg_yes v1 v2 (show 31 < 2147483648 by decide), mm_yes ht (show 4 < 2147483648 by decide), mm_yes hc (show 4 < 2147483648 by decide)] at hQ
          refine zr_aload_n hC dX8_film_28 rfl ?_
          refine zs_getr hC dX8_film_29 fl_X8_38 (a := 0) (r := 231) rfl (by decide) ?_
          refine zr_iload_n hC dX8_film_32 rfl ?_
          refine zs_aald hC dX8_film_33 (a := 231) (x := 237 + 2 * t) rfl (by decide) (by decide) (by decide) (j := t) rfl (ids_s t ht) ?_
          refine zr_astore hC dX8_film_34 (by decide) ?_
          refine zr_aload hC dX8_film_36 rfl ?_
          refine zr_iload_n hC dX8_film_38 rfl ?_
          refine zr_iload hC dX8_film_39 rfl ?_
          refine zk_iconst hC dX8_film_41 (v := nI 5) (by decide +kernel) ?_
          refine zs_callV hC (b := 237 + 2 * t) [_, _, _] [] dX8_film_42 ml_X8_272 mtX6_refusal tX6_refusal (by decide) (by decide) (by decide) rfl (sh_sh ht) (by omega) (by decide +kernel) (Nat.le_of_ble_eq_true rfl) rfl ?_
          have hsh := hCG.2.2.2.2 t ht
          refine ⟨t, _, _, _, _, rfl, ht, hsh.2.1, hsh.2.2.1, fun r e => ?_⟩
          have e := shref_of hCG.2.2.2.2 ht hc e
          subst e
          dsimp only [Option.toList, List.cons_append, List.nil_append]
          refine zr_istore hC dX8_film_45 (by decide) ?_
          refine zr_iload hC dX8_film_47 rfl ?_
          refine zr_if_eq hC dX8_film_49 (tgt := 55) (by decide) (fun c_49 => ?_) (fun c_49 => ?_)
          · obtain ⟨hb1, a, b0, rfl, hbb, hb2⟩ := shref_0 hsh.2.2.1 (c_49.trans nI_0.symm)
            rw [nI_eq (by omega) (by omega)] at hbb
            subst hbb
            have hz24 := hsh.2.2.1
            have ht2 : (nI a).toBitVec.toNat = a := pk_tn (by omega)
            rw [if_neg (not_not_intro (c_49.trans nI_0.symm)), ht2] at hQ
            have hl : S.1 (237 + 2 * t) 1 = nI c := by rw [hsh.1, hb1]; rfl
            refine zr_iload_n hC dX8_film_55 rfl ?_
            refine zr_istore hC dX8_film_56 (by decide) ?_
            refine zk_iconst hC dX8_film_58 (v := nI 0) (by decide +kernel) ?_
            refine zr_istore hC dX8_film_59 (by decide) ?_
            refine zr_iload hC dX8_film_61 rfl ?_
            refine zk_iconst hC dX8_film_63 (v := nI 5) (by decide +kernel) ?_
            refine zr_icmp_ge hC dX8_film_64 (tgt := 103) (by decide) (fun c => absurd c (by decide +kernel)) (fun c_64 => ?_)
            refine zr_aload hC dX8_film_67 rfl ?_
            refine zr_iload hC dX8_film_69 rfl ?_
            refine zr_iload hC dX8_film_71 rfl ?_
            refine zn_iadd hC dX8_film_73 (nI_add _ _) ?_
            refine zr_aload_n hC dX8_film_74 rfl ?_
            refine zs_getr hC dX8_film_75 fl_X8_12 (a := 0) (r := 1) rfl (by decide) ?_
            refine zs_getr hC dX8_film_78 fl_X8_120 (a := 1) (r := 5) rfl (by decide) ?_
            refine zs_getr hC dX8_film_81 fl_X8_160 (a := 5) (r := 9) rfl (by decide) ?_
            refine zr_iload hC dX8_film_84 rfl ?_
            refine zv_iald hC dX8_film_86 (a := 9) (n := 32) rfl (by decide) (by decide) (j := v) rfl (by omega) (hCG.1.orr (v) (by omega) (by omega)) ?_
            refine zr_i2l hC dX8_film_87 ?_
            refine zs_callV hC (b := 237 + 2 * t) [_, _] [] dX8_film_88 ml_X8_288 mtX6_put tX6_put (by decide) (by decide) (by decide) rfl (sh_sh ht) (by omega) (by decide +kernel) (Nat.le_of_ble_eq_true rfl) rfl ?_
            refine ⟨t, c, _, _, rfl, ht, hl, hc, by omega, ?_⟩
            dsimp only [Option.toList, List.nil_append]
            refine zr_iload hC dX8_film_91 rfl ?_
            refine zk_iconst hC dX8_film_93 (v := nI 2) (by decide +kernel) ?_
            refine zn_idiv hC dX8_film_94 (by decide +kernel) (z_half (by omega)) ?_
            refine zr_istore hC dX8_film_95 (by decide) ?_
            refine zn_iinc hC dX8_film_97 rfl (by decide) (v := nI 1) (by decide +kernel) ?_
            refine zr_goto hC dX8_film_100 (tgt := 61) (by decide) ?_
            refine zr_iload hC dX8_film_61 rfl ?_
            refine zk_iconst hC dX8_film_63 (v := nI 5) (by decide +kernel) ?_
            refine zr_icmp_ge hC dX8_film_64 (tgt := 103) (by decide) (fun c => absurd c (by decide +kernel)) (fun c_64 => ?_)
            refine zr_aload hC dX8_film_67 rfl ?_
            refine zr_iload hC dX8_film_69 rfl ?_
            refine zr_iload hC dX8_film_71 rfl ?_
            refine zn_iadd hC dX8_film_73 (nI_add _ _) ?_
            refine zr_aload_n hC dX8_film_74 rfl ?_
            refine zs_getr hC dX8_film_75 fl_X8_12 (a := 0) (r := 1) rfl (by decide) ?_
            refine zs_getr hC dX8_film_78 fl_X8_120 (a := 1) (r := 5) rfl (by decide) ?_
            refine zs_getr hC dX8_film_81 fl_X8_160 (a := 5) (r := 9) rfl (by decide) ?_
            refine zr_iload hC dX8_film_84 rfl ?_
            refine zv_iald hC dX8_film_86 (a := 9) (n := 32) rfl (by decide) (by decide) (j := v / 2) rfl (by omega) (hCG.1.orr (v / 2) (by omega) (by omega)) ?_
            refine zr_i2l hC dX8_film_87 ?_
            refine zs_callV hC (b := 237 + 2 * t) [_, _] [] dX8_film_88 ml_X8_288 mtX6_put tX6_put (by decide) (by decide) (by decide) rfl (sh_sh ht) (by omega) (by decide +kernel) (Nat.le_of_ble_eq_true rfl) rfl ?_
            refine ⟨t, c, _, _, rfl, ht, hl, hc, by omega, ?_⟩
            dsimp only [Option.toList, List.nil_append]
            refine zr_iload hC dX8_film_91 rfl ?_
            refine zk_iconst hC dX8_film_93 (v := nI 2) (by decide +kernel) ?_
            refine zn_idiv hC dX8_film_94 (by decide +kernel) (z_half (by omega)) ?_
            refine zr_istore hC dX8_film_95 (by decide) ?_
            refine zn_iinc hC dX8_film_97 rfl (by decide) (v := nI 2) (by decide +kernel) ?_
            refine zr_goto hC dX8_film_100 (tgt := 61) (by decide) ?_
            refine zr_iload hC dX8_film_61 rfl ?_
            refine zk_iconst hC dX8_film_63 (v := nI 5) (by decide +kernel) ?_
            refine zr_icmp_ge hC dX8_film_64 (tgt := 103) (by decide) (fun c => absurd c (by decide +kernel)) (fun c_64 => ?_)
            refine zr_aload hC dX8_film_67 rfl ?_
            refine zr_iload hC dX8_film_69 rfl ?_
            refine zr_iload hC dX8_film_71 rfl ?_
            refine zn_iadd hC dX8_film_73 (nI_add _ _) ?_
            refine zr_aload_n hC dX8_film_74 rfl ?_
            refine zs_getr hC dX8_film_75 fl_X8_12 (a := 0) (r := 1) rfl (by decide) ?_
            refine zs_getr hC dX8_film_78 fl_X8_120 (a := 1) (r := 5) rfl (by decide) ?_
            refine zs_getr hC dX8_film_81 fl_X8_160 (a := 5) (r := 9) rfl (by decide) ?_
            refine zr_iload hC dX8_film_84 rfl ?_
            refine zv_iald hC dX8_film_86 (a := 9) (n := 32) rfl (by decide) (by decide) (j := v / 2 / 2) rfl (by omega) (hCG.1.orr (v / 2 / 2) (by omega) (by omega)) ?_
            refine zr_i2l hC dX8_film_87 ?_
            refine zs_callV hC (b := 237 + 2 * t) [_, _] [] dX8_film_88 ml_X8_288 mtX6_put tX6_put (by decide) (by decide) (by decide) rfl (sh_sh ht) (by omega) (by decide +kernel) (Nat.le_of_ble_eq_true rfl) rfl ?_
            refine ⟨t, c, _, _, rfl, ht, hl, hc, by omega, ?_⟩
            dsimp only [Option.toList, List.nil_append]
            refine zr_iload hC dX8_film_91 rfl ?_
            refine zk_iconst hC dX8_film_93 (v := nI 2) (by decide +kernel) ?_
            refine zn_idiv hC dX8_film_94 (by decide +kernel) (z_half (by omega)) ?_
            refine zr_istore hC dX8_film_95 (by decide) ?_
            refine zn_iinc hC dX8_film_97 rfl (by decide) (v := nI 3) (by decide +kernel) ?_
            refine zr_goto hC dX8_film_100 (tgt := 61) (by decide) ?_
            refine zr_iload hC dX8_film_61 rfl ?_
            refine zk_iconst hC dX8_film_63 (v := nI 5) (by decide +kernel) ?_
            refine zr_icmp_ge hC dX8_film_64 (tgt := 103) (by decide) (fun c => absurd c (by decide +kernel)) (fun c_64 => ?_)
            refine zr_aload hC dX8_film_67 rfl ?_
            refine zr_iload hC dX8_film_69 rfl ?_
            refine zr_iload hC dX8_film_71 rfl ?_
            refine zn_iadd hC dX8_film_73 (nI_add _ _) ?_
            refine zr_aload_n hC dX8_film_74 rfl ?_
            refine zs_getr hC dX8_film_75 fl_X8_12 (a := 0) (r := 1) rfl (by decide) ?_
            refine zs_getr hC dX8_film_78 fl_X8_120 (a := 1) (r := 5) rfl (by decide) ?_
            refine zs_getr hC dX8_film_81 fl_X8_160 (a := 5) (r := 9) rfl (by decide) ?_
            refine zr_iload hC dX8_film_84 rfl ?_
            refine zv_iald hC dX8_film_86 (a := 9) (n := 32) rfl (by decide) (by decide) (j := v / 2 / 2 / 2) rfl (by omega) (hCG.1.orr (v / 2 / 2 / 2) (by omega) (by omega)) ?_
            refine zr_i2l hC dX8_film_87 ?_
            refine zs_callV hC (b := 237 + 2 * t) [_, _] [] dX8_film_88 ml_X8_288 mtX6_put tX6_put (by decide) (by decide) (by decide) rfl (sh_sh ht) (by omega) (by decide +kernel) (Nat.le_of_ble_eq_true rfl) rfl ?_
            refine ⟨t, c, _, _, rfl, ht, hl, hc, by omega, ?_⟩
            dsimp only [Option.toList, List.nil_append]
            refine zr_iload hC dX8_film_91 rfl ?_
            refine zk_iconst hC dX8_film_93 (v := nI 2) (by decide +kernel) ?_
            refine zn_idiv hC dX8_film_94 (by decide +kernel) (z_half (by omega)) ?_
            refine zr_istore hC dX8_film_95 (by decide) ?_
            refine zn_iinc hC dX8_film_97 rfl (by decide) (v := nI 4) (by decide +kernel) ?_
            refine zr_goto hC dX8_film_100 (tgt := 61) (by decide) ?_
            refine zr_iload hC dX8_film_61 rfl ?_
            refine zk_iconst hC dX8_film_63 (v := nI 5) (by decide +kernel) ?_
            refine zr_icmp_ge hC dX8_film_64 (tgt := 103) (by decide) (fun c => absurd c (by decide +kernel)) (fun c_64 => ?_)
            refine zr_aload hC dX8_film_67 rfl ?_
            refine zr_iload hC dX8_film_69 rfl ?_
            refine zr_iload hC dX8_film_71 rfl ?_
            refine zn_iadd hC dX8_film_73 (nI_add _ _) ?_
            refine zr_aload_n hC dX8_film_74 rfl ?_
            refine zs_getr hC dX8_film_75 fl_X8_12 (a := 0) (r := 1) rfl (by decide) ?_
            refine zs_getr hC dX8_film_78 fl_X8_120 (a := 1) (r := 5) rfl (by decide) ?_
            refine zs_getr hC dX8_film_81 fl_X8_160 (a := 5) (r := 9) rfl (by decide) ?_
            refine zr_iload hC dX8_film_84 rfl ?_
            refine zv_iald hC dX8_film_86 (a := 9) (n := 32) rfl (by decide) (by decide) (j := v / 2 / 2 / 2 / 2) rfl (by omega) (hCG.1.orr (v / 2 / 2 / 2 / 2) (by omega) (by omega)) ?_
            refine zr_i2l hC dX8_film_87 ?_
            refine zs_callV hC (b := 237 + 2 * t) [_, _] [] dX8_film_88 ml_X8_288 mtX6_put tX6_put (by decide) (by decide) (by decide) rfl (sh_sh ht) (by omega) (by decide +kernel) (Nat.le_of_ble_eq_true rfl) rfl ?_
            refine ⟨t, c, _, _, rfl, ht, hl, hc, by omega, ?_⟩
            dsimp only [Option.toList, List.nil_append]
            refine zr_iload hC dX8_film_91 rfl ?_
            refine zk_iconst hC dX8_film_93 (v := nI 2) (by decide +kernel) ?_
            refine zn_idiv hC dX8_film_94 (by decide +kernel) (z_half (by omega)) ?_
            refine zr_istore hC dX8_film_95 (by decide) ?_
            refine zn_iinc hC dX8_film_97 rfl (by decide) (v := nI 5) (by decide +kernel) ?_
            refine zr_goto hC dX8_film_100 (tgt := 61) (by decide) ?_
            refine zr_iload hC dX8_film_61 rfl ?_
            refine zk_iconst hC dX8_film_63 (v := nI 5) (by decide +kernel) ?_
            refine zr_icmp_ge hC dX8_film_64 (tgt := 103) (by decide) (fun c_64 => ?_) (fun c => absurd c (by decide +kernel))
            refine zk_iconst hC dX8_film_103 (v := nI 5) (by decide +kernel) ?_
            exact zr_ireturn hC hE dX8_film_104 (hr _ _ (hQ _ ((((((hCG.put5 hGI ht).put5 hGI.put5 ht).put5 hGI.put5.put5 ht).put5 hGI.put5.put5.put5 ht).put5 hGI.put5.put5.put5.put5 ht)) (((((zputL_c ht).tr (zputL_c ht)).tr (zputL_c ht)).tr (zputL_c ht)).tr (zputL_c ht))))
          · rw [if_pos (fun q => c_49 (q.trans nI_0))] at hQ
            refine zr_iload hC dX8_film_52 rfl ?_
            exact zr_ireturn hC hE dX8_film_54 (hr _ _ (hQ _ hCG zfc.rf))
theorem newOK {S : zS} {G : zG} (h : CG S G) (hI : GI G) {t c z : Nat} {l zi : Int32} (ht : t < 4) (hl : l = caI c) (hzi : zi = nI z) (hz : z ≤ 24) (hc : c ≤ 4) : CG (zfillL (zput (zput S (237 + 2 * t) 1 l) (237 + 2 * t) 2 zi) (238 + 2 * t) 24 (Int64.ofNat 0)) (gsh G (shnew G.2.2.2.2 t c z)) ∧ zfc S (zfillL (zput (zput S (237 + 2 * t) 1 l) (237 + 2 * t) 2 zi) (238 + 2 * t) 24 (Int64.ofNat 0)) := by
  refine ⟨h.sh hI (h.2.2.2.2.new ht hl hzi hz hc) (fun a ha => ?_), fun a ha => ⟨?_, ?_⟩⟩
  · show (zput (zput S (237 + 2 * t) 1 l) (237 + 2 * t) 2 zi).1 a = _
    rw [zput_ne _ _ (by omega), zput_ne _ _ (by omega)]
  · show (zput (zput S (237 + 2 * t) 1 l) (237 + 2 * t) 2 zi).1 a = _
    rw [zput_ne _ _ (by omega), zput_ne _ _ (by omega)]
  · funext j
    exact if_neg (fun q => by omega)
def spX8_sheet : zSp := fun av S Q => ∃ (G : zG) (s : Int32) (l : Int32) (n : Int32), av = [.ref 0, .int s, .int l, .int n] ∧ CG S G ∧ GI G ∧ ∀ S', CG S' (fSheet s l n G).2 → zfc S S' → Q (some (.int (fSheet s l n G).1)) S'
set_option maxHeartbeats 4000000 in
set_option maxRecDepth 100000 in
theorem tX8_sheet : zM yX8_sheet cX8_sheet 4 (some .int) 2 spX8_sheet := by
  refine zM.of (by decide) (by decide) (fun av S Q h => by obtain ⟨G, s, l, n, rfl, hCG, hGI, hQ⟩ := h; exact Nat.le_of_ble_eq_true rfl) (fun C τ ι av S Q Qr h hr hC hE => ?_)
  obtain ⟨G, s, l, n, rfl, hCG, hGI, hQ⟩ := h
  show zR C τ ι _ 0 0 0 [(0, .ref 0), (1, .int s), (2, .int l), (3, .int n)] [] _
  refine zr_iload_n hC dX8_sheet_0 rfl ?_
  refine zs_callS hC [_] [] dX8_sheet_1 ml_X8_266 mtX8_noSheet tX8_noSheet (by decide) (by decide) (by decide) rfl (Nat.le_of_ble_eq_true rfl) rfl ?_
  refine ⟨s, rfl, fun r e => ?_⟩
  rcases e with ⟨rfl, hx⟩ | ⟨rfl, t, ht, rfl⟩
  · simp only [fSheet, mm_no hx] at hQ
    dsimp only [Option.toList, List.cons_append, List.nil_append]
    refine zr_if_ne hC dX8_sheet_4 (tgt := 20) (by decide) (fun c_4 => ?_) (fun c => absurd c (by decide +kernel))
    refine zk_iconst hC dX8_sheet_20 (v := (-1)) (by decide +kernel) ?_
    exact zr_ireturn hC hE dX8_sheet_21 (hr _ _ (by first | exact hQ _ hC2 hf2 | exact hQ _ hCG zfc.rf))
  · dsimp only [Option.toList, List.cons_append, List.nil_append]
    refine zr_if_ne hC dX8_sheet_4 (tgt := 20) (by decide) (fun c => absurd c (by decide +kernel)) (fun c_4 => ?_)
    refine zr_iload_n hC dX8_sheet_7 rfl ?_
    refine zs_callS hC [_] [] dX8_sheet_8 ml_X8_269 mtX8_noLane tX8_noLane (by decide) (by decide) (by decide) rfl (Nat.le_of_ble_eq_true rfl) rfl ?_
    refine ⟨l, rfl, fun r e => ?_⟩
    rcases e with ⟨rfl, hx⟩ | ⟨rfl, c, hc, rfl⟩
    · simp only [fSheet, mm_yes ht (show 4 < 2147483648 by decide), mm_no hx] at hQ
      dsimp only [Option.toList, List.cons_append, List.nil_append]
      refine zr_if_ne hC dX8_sheet_11 (tgt := 20) (by decide) (fun c_11 => ?_) (fun c => absurd c (by decide +kernel))
      refine zk_iconst hC dX8_sheet_20 (v := (-1)) (by decide +kernel) ?_
      exact zr_ireturn hC hE dX8_sheet_21 (hr _ _ (by first | exact hQ _ hC2 hf2 | exact hQ _ hCG zfc.rf))
    · simp only [fSheet, mm_yes ht (show 4 < 2147483648 by decide), mm_yes hc (show 4 < 2147483648 by decide)] at hQ
      dsimp only [Option.toList, List.cons_append, List.nil_append]
      refine zr_if_ne hC dX8_sheet_11 (tgt := 20) (by decide) (fun c => absurd c (by decide +kernel)) (fun c_11 => ?_)
      refine zr_iload_n hC dX8_sheet_14 rfl ?_
      refine zk_bipush hC dX8_sheet_15 (v := nI 24) (by decide +kernel) ?_
      refine zr_icmp_le hC dX8_sheet_17 (tgt := 22) (by decide) (fun c_17 => ?_) (fun c_17 => ?_)
      · rw [if_neg (Int32.not_lt.mpr c_17)] at hQ
        refine zr_iload_n hC dX8_sheet_22 rfl ?_
        refine zr_if_ge hC dX8_sheet_23 (tgt := 29) (by decide) (fun c_23 => ?_) (fun c_23 => ?_)
        · obtain ⟨z, hz, rfl⟩ := nI_of (x := n) (z_ge0 c_23)
          rw [if_neg (nI_pos hz), pk_tn (show z < 2 ^ 32 by omega)] at hQ
          rw [nI_leI (by omega) (by decide)] at c_17
          refine zr_aload_n hC dX8_sheet_29 rfl ?_
          refine zs_getr hC dX8_sheet_30 fl_X8_38 (a := 0) (r := 231) rfl (by decide) ?_
          refine zr_iload_n hC dX8_sheet_33 rfl ?_
          refine zs_aald hC dX8_sheet_34 (a := 231) (x := 237 + 2 * t) rfl (by decide) (by decide) (by decide) (j := t) rfl (ids_s t ht) ?_
          refine zr_iload_n hC dX8_sheet_35 rfl ?_
          refine zr_iload_n hC dX8_sheet_36 rfl ?_
          refine zs_callV hC (b := 237 + 2 * t) [_, _] [] dX8_sheet_37 ml_X8_292 mtX6_renew tX6_renew (by decide) (by decide) (by decide) rfl (sh_sh ht) (by omega) (by decide +kernel) (Nat.le_of_ble_eq_true rfl) rfl ?_
          refine ⟨t, _, _, rfl, ht, ?_⟩
          obtain ⟨hC2, hf2⟩ := newOK hCG hGI (c := c + 1) (z := z) (l := nI c) (zi := nI z) ht rfl rfl c_17 (by omega)
          dsimp only [Option.toList, List.nil_append]
          refine zr_iload_n hC dX8_sheet_40 rfl ?_
          exact zr_ireturn hC hE dX8_sheet_41 (hr _ _ (by first | exact hQ _ hC2 hf2 | exact hQ _ hCG zfc.rf))
        · rw [if_pos (Int32.not_le.mp c_23)] at hQ
          refine zk_bipush hC dX8_sheet_26 (v := (-14)) (by decide +kernel) ?_
          exact zr_ireturn hC hE dX8_sheet_28 (hr _ _ (by first | exact hQ _ hC2 hf2 | exact hQ _ hCG zfc.rf))
      · rw [if_pos (Int32.not_le.mp c_17)] at hQ
        refine zk_iconst hC dX8_sheet_20 (v := (-1)) (by decide +kernel) ?_
        exact zr_ireturn hC hE dX8_sheet_21 (hr _ _ (by first | exact hQ _ hC2 hf2 | exact hQ _ hCG zfc.rf))
def spX8_drop : zSp := fun av S Q => ∃ (G : zG) (s : Int32), av = [.ref 0, .int s] ∧ CG S G ∧ GI G ∧ ∀ S', CG S' (fDrop s G).2 → zfc S S' → Q (some (.int (fDrop s G).1)) S'
set_option maxHeartbeats 4000000 in
set_option maxRecDepth 100000 in
theorem tX8_drop : zM yX8_drop cX8_drop 4 (some .int) 2 spX8_drop := by
  refine zM.of (by decide) (by decide) (fun av S Q h => by obtain ⟨G, s, rfl, hCG, hGI, hQ⟩ := h; exact Nat.le_of_ble_eq_true rfl) (fun C τ ι av S Q Qr h hr hC hE => ?_)
  obtain ⟨G, s, rfl, hCG, hGI, hQ⟩ := h
  show zR C τ ι _ 0 0 0 [(0, .ref 0), (1, .int s)] [] _
  refine zr_iload_n hC dX8_drop_0 rfl ?_
  refine zs_callS hC [_] [] dX8_drop_1 ml_X8_266 mtX8_noSheet tX8_noSheet (by decide) (by decide) (by decide) rfl (Nat.le_of_ble_eq_true rfl) rfl ?_
  refine ⟨s, rfl, fun r e => ?_⟩
  rcases e with ⟨rfl, hx⟩ | ⟨rfl, t, ht, rfl⟩
  · simp only [fDrop, mm_no hx] at hQ
    dsimp only [Option.toList, List.cons_append, List.nil_append]
    refine zr_if_eq hC dX8_drop_4 (tgt := 9) (by decide) (fun c => absurd c (by decide +kernel)) (fun c_4 => ?_)
    refine zk_iconst hC dX8_drop_7 (v := (-1)) (by decide +kernel) ?_
    exact zr_ireturn hC hE dX8_drop_8 (hr _ _ (by first | exact hQ _ hC2 hf2 | exact hQ _ hCG zfc.rf))
  · simp only [fDrop, mm_yes ht (show 4 < 2147483648 by decide)] at hQ
    have hsh := hCG.2.2.2.2 t ht
    have h4 := hsh.2.2.2.1
    dsimp only [Option.toList, List.cons_append, List.nil_append]
    refine zr_if_eq hC dX8_drop_4 (tgt := 9) (by decide) (fun c_4 => ?_) (fun c => absurd c (by decide +kernel))
    refine zr_aload_n hC dX8_drop_9 rfl ?_
    refine zs_getr hC dX8_drop_10 fl_X8_38 (a := 0) (r := 231) rfl (by decide) ?_
    refine zr_iload_n hC dX8_drop_13 rfl ?_
    refine zs_aald hC dX8_drop_14 (a := 231) (x := 237 + 2 * t) rfl (by decide) (by decide) (by decide) (j := t) rfl (ids_s t ht) ?_
    refine zr_astore_n hC dX8_drop_15 (by decide) ?_
    refine zr_aload_n hC dX8_drop_16 rfl ?_
    refine zv_geti hC dX8_drop_17 fl_X8_296 (a := 237 + 2 * t) (sh_f1 ht) (by omega) (hsh.1) ?_
    refine zk_iconst hC dX8_drop_20 (v := (-1)) (by decide +kernel) ?_
    refine zr_icmp_ne hC dX8_drop_21 (tgt := 27) (by decide) (fun c_21 => ?_) (fun c_21 => ?_)
    · rw [caI_m1 (by omega)] at c_21
      rw [if_neg c_21] at hQ
      refine zr_aload_n hC dX8_drop_27 rfl ?_
      refine zv_geti hC dX8_drop_28 fl_X8_299 (a := 237 + 2 * t) (sh_f2 ht) (by omega) (hsh.2.1) ?_
      refine zr_istore_n hC dX8_drop_31 (by decide) ?_
      refine zr_aload_n hC dX8_drop_32 rfl ?_
      refine zk_iconst hC dX8_drop_33 (v := (-1)) (by decide +kernel) ?_
      refine zk_iconst hC dX8_drop_34 (v := nI 0) (by decide +kernel) ?_
      refine zs_callV hC (b := 237 + 2 * t) [_, _] [] dX8_drop_35 ml_X8_292 mtX6_renew tX6_renew (by decide) (by decide) (by decide) rfl (sh_sh ht) (by omega) (by decide +kernel) (Nat.le_of_ble_eq_true rfl) rfl ?_
      refine ⟨t, _, _, rfl, ht, ?_⟩
      obtain ⟨hC2, hf2⟩ := newOK hCG hGI (c := 0) (z := 0) (l := -1) (zi := nI 0) ht rfl rfl (by decide) (by decide)
      dsimp only [Option.toList, List.nil_append]
      refine zr_iload_n hC dX8_drop_38 rfl ?_
      exact zr_ireturn hC hE dX8_drop_39 (hr _ _ (by first | exact hQ _ hC2 hf2 | exact hQ _ hCG zfc.rf))
    · rw [caI_m1 (by omega)] at c_21
      rw [if_pos c_21] at hQ
      refine zk_bipush hC dX8_drop_24 (v := (-11)) (by decide +kernel) ?_
      exact zr_ireturn hC hE dX8_drop_26 (hr _ _ (by first | exact hQ _ hC2 hf2 | exact hQ _ hCG zfc.rf))
def spX8_item : zSp := fun av S Q => ∃ (G : zG) (s : Int32) (l : Int32) (i : Int32) (v : Int64), av = [.ref 0, .int s, .int l, .int i, .long v] ∧ CG S G ∧ GI G ∧ ∀ S', CG S' (fItem s l i v G).2 → zfc S S' → Q (some (.int (fItem s l i v G).1)) S'
set_option maxHeartbeats 4000000 in
set_option maxRecDepth 100000 in
theorem tX8_item : zM yX8_item cX8_item 8 (some .int) 2 spX8_item := by
  refine zM.of (by decide) (by decide) (fun av S Q h => by obtain ⟨G, s, l, i, v, rfl, hCG, hGI, hQ⟩ := h; exact Nat.le_of_ble_eq_true rfl) (fun C τ ι av S Q Qr h hr hC hE => ?_)
  obtain ⟨G, s, l, i, v, rfl, hCG, hGI, hQ⟩ := h
  show zR C τ ι _ 0 0 0 [(0, .ref 0), (1, .int s), (2, .int l), (3, .int i), (4, .long v)] [] _
  refine zr_iload_n hC dX8_item_0 rfl ?_
  refine zs_callS hC [_] [] dX8_item_1 ml_X8_266 mtX8_noSheet tX8_noSheet (by decide) (by decide) (by decide) rfl (Nat.le_of_ble_eq_true rfl) rfl ?_
  refine ⟨s, rfl, fun r e => ?_⟩
  rcases e with ⟨rfl, hx⟩ | ⟨rfl, t, ht, rfl⟩
  · simp only [fItem, mm_no hx] at hQ
    dsimp only [Option.toList, List.cons_append, List.nil_append]
    refine zr_if_ne hC dX8_item_4 (tgt := 14) (by decide) (fun c_4 => ?_) (fun c => absurd c (by decide +kernel))
    refine zk_iconst hC dX8_item_14 (v := (-1)) (by decide +kernel) ?_
    exact zr_ireturn hC hE dX8_item_15 (hr _ _ (by first | exact hQ _ (hCG.put5 hGI ht) (zputL_c ht) | exact hQ _ hCG zfc.rf))
  · dsimp only [Option.toList, List.cons_append, List.nil_append]
    refine zr_if_ne hC dX8_item_4 (tgt := 14) (by decide) (fun c => absurd c (by decide +kernel)) (fun c_4 => ?_)
    refine zr_iload_n hC dX8_item_7 rfl ?_
    refine zs_callS hC [_] [] dX8_item_8 ml_X8_269 mtX8_noLane tX8_noLane (by decide) (by decide) (by decide) rfl (Nat.le_of_ble_eq_true rfl) rfl ?_
    refine ⟨l, rfl, fun r e => ?_⟩
    rcases e with ⟨rfl, hx⟩ | ⟨rfl, c, hc, rfl⟩
    · simp only [fItem, mm_yes ht (show 4 < 2147483648 by decide), mm_no hx] at hQ
      dsimp only [Option.toList, List.cons_append, List.nil_append]
      refine zr_if_eq hC dX8_item_11 (tgt := 16) (by decide) (fun c => absurd c (by decide +kernel)) (fun c_11 => ?_)
      refine zk_iconst hC dX8_item_14 (v := (-1)) (by decide +kernel) ?_
      exact zr_ireturn hC hE dX8_item_15 (hr _ _ (by first | exact hQ _ (hCG.put5 hGI ht) (zputL_c ht) | exact hQ _ hCG zfc.rf))
    · simp only [fItem, mm_yes ht (show 4 < 2147483648 by decide), mm_yes hc (show 4 < 2147483648 by decide)] at hQ
      dsimp only [Option.toList, List.cons_append, List.nil_append]
      refine zr_if_eq hC dX8_item_11 (tgt := 16) (by decide) (fun c_11 => ?_) (fun c => absurd c (by decide +kernel))
      refine zr_aload_n hC dX8_item_16 rfl ?_
      refine zs_getr hC dX8_item_17 fl_X8_38 (a := 0) (r := 231) rfl (by decide) ?_
      refine zr_iload_n hC dX8_item_20 rfl ?_
      refine zs_aald hC dX8_item_21 (a := 231) (x := 237 + 2 * t) rfl (by decide) (by decide) (by decide) (j := t) rfl (ids_s t ht) ?_
      refine zr_astore hC dX8_item_22 (by decide) ?_
      refine zr_aload hC dX8_item_24 rfl ?_
      refine zr_iload_n hC dX8_item_26 rfl ?_
      refine zr_iload_n hC dX8_item_27 rfl ?_
      refine zk_iconst hC dX8_item_28 (v := nI 1) (by decide +kernel) ?_
      refine zs_callV hC (b := 237 + 2 * t) [_, _, _] [] dX8_item_29 ml_X8_272 mtX6_refusal tX6_refusal (by decide) (by decide) (by decide) rfl (sh_sh ht) (by omega) (by decide +kernel) (Nat.le_of_ble_eq_true rfl) rfl ?_
      have hsh := hCG.2.2.2.2 t ht
      refine ⟨t, _, _, _, _, rfl, ht, hsh.2.1, hsh.2.2.1, fun r e => ?_⟩
      have e := shref_of hCG.2.2.2.2 ht hc e
      subst e
      dsimp only [Option.toList, List.cons_append, List.nil_append]
      refine zr_istore hC dX8_item_32 (by decide) ?_
      refine zr_iload hC dX8_item_34 rfl ?_
      refine zr_if_eq hC dX8_item_36 (tgt := 42) (by decide) (fun c_36 => ?_) (fun c_36 => ?_)
      · obtain ⟨hb1, a, b0, rfl, hbb, hb2⟩ := shref_0 hsh.2.2.1 (c_36.trans nI_0.symm)
        rw [nI_eq (by omega) (by omega)] at hbb
        subst hbb
        have hz24 := hsh.2.2.1
        have ht2 : (nI a).toBitVec.toNat = a := pk_tn (by omega)
        rw [if_neg (not_not_intro (c_36.trans nI_0.symm)), ht2] at hQ
        have hl : S.1 (237 + 2 * t) 1 = nI c := by rw [hsh.1, hb1]; rfl
        refine zr_aload hC dX8_item_42 rfl ?_
        refine zr_iload_n hC dX8_item_44 rfl ?_
        refine zr_lload hC dX8_item_45 rfl ?_
        refine zs_callV hC (b := 237 + 2 * t) [_, _] [] dX8_item_47 ml_X8_288 mtX6_put tX6_put (by decide) (by decide) (by decide) rfl (sh_sh ht) (by omega) (by decide +kernel) (Nat.le_of_ble_eq_true rfl) rfl ?_
        refine ⟨t, c, _, _, rfl, ht, hl, hc, by omega, ?_⟩
        dsimp only [Option.toList, List.nil_append]
        refine zk_iconst hC dX8_item_50 (v := nI 1) (by decide +kernel) ?_
        exact zr_ireturn hC hE dX8_item_51 (hr _ _ (by first | exact hQ _ (hCG.put5 hGI ht) (zputL_c ht) | exact hQ _ hCG zfc.rf))
      · rw [if_pos (fun q => c_36 (q.trans nI_0))] at hQ
        refine zr_iload hC dX8_item_39 rfl ?_
        exact zr_ireturn hC hE dX8_item_41 (hr _ _ (by first | exact hQ _ (hCG.put5 hGI ht) (zputL_c ht) | exact hQ _ hCG zfc.rf))
theorem cpyOK {S : zS} {G : zG} (h : CG S G) (hI : GI G) {s a t b n : Nat} (hs : s < 4) (ht : t < 4) (h1 : a + n ≤ G.2.2.2.2.2.1 s) : CG (zcpyL S (238 + 2 * s) a (238 + 2 * t) b n) (gsh G (itcpy G.2.2.2.2 s a t b n)) ∧ zfc S (zcpyL S (238 + 2 * s) a (238 + 2 * t) b n) := by
  refine ⟨h.sh hI (h.2.2.2.2.cpy hs ht h1) (fun a ha => rfl), fun a' ha => ⟨rfl, ?_⟩⟩
  funext j
  exact if_neg (fun q => by omega)
theorem caI_inj {x z : Nat} (hx : x < 1000) (hz : z < 1000) (e : caI x = caI z) : x = z := by
  cases z with
  | zero => exact (caI_m1 (by omega)).mp e
  | succ n => exact (caI_k hx (by omega)).mp e
def spX8_copy : zSp := fun av S Q => ∃ (G : zG) (s : Int32) (i : Int32) (t : Int32) (j : Int32) (n : Int32), av = [.ref 0, .int s, .int i, .int t, .int j, .int n] ∧ CG S G ∧ GI G ∧ ∀ S', CG S' (fCopy s i t j n G).2 → zfc S S' → Q (some (.int (fCopy s i t j n G).1)) S'