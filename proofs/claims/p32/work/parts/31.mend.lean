/-! MENDING, BEGINNING, WHY, NEEDED: the class's side -/
theorem CR.lad {S : zS} {T : zD} (h : CR S T) {a b c : Nat} {z : Int32} (hz : z = lbI c) : CR (zput (zput (zput (zput S 11 (T 6 1) (nI a)) 12 (T 6 1) (nI b)) 13 (T 6 1) z) 10 0 (nI (T 6 1 + 1))) (ladd T a b c) := by
  have hl := h.lr.add (a := a) (b := b) hz
  generalize hS' : zput (zput (zput (zput S 11 (T 6 1) (nI a)) 12 (T 6 1) (nI b)) 13 (T 6 1) z) 10 0 (nI (T 6 1 + 1)) = S' at *
  have w : ∀ q, (q < 10 ∨ 14 ≤ q) → S'.1 q = S.1 q := fun q hq => by
    rw [← hS', zput_ne _ _ (by omega), zput_ne _ _ (by omega), zput_ne _ _ (by omega), zput_ne _ _ (by omega)]
  obtain ⟨h1, h2, h3, h4, h5, h6, h7⟩ := h
  have f : ∀ f, f ≠ 6 → f ≠ 10 → f ≠ 11 → f ≠ 12 → ladd T a b c f = T f := fun f q1 q2 q3 q4 => ladd_f q1 q2 q3 q4
  refine ⟨?_, ?_, ?_, hl, ?_, ?_, ?_⟩
  · rw [f 0 (by decide) (by decide) (by decide) (by decide)]; exact h1.kept (w _ (by decide)) (w _ (by decide))
  · unfold KR
    rw [f 7 (by decide) (by decide) (by decide) (by decide), f 8 (by decide) (by decide) (by decide) (by decide), f 9 (by decide) (by decide) (by decide) (by decide), ladd_6 (by decide), w 5 (by decide), w 6 (by decide), w 7 (by decide), w 8 (by decide)]
    exact h2
  · intro v q1 q2
    rw [f 0 (by decide) (by decide) (by decide) (by decide), kof_cong (f 7 (by decide) (by decide) (by decide) (by decide)) (ladd_6 (by decide)), w 9 (by decide)]
    exact h3 v q1 q2
  · unfold MRs cms lvs sls
    rw [f 1 (by decide) (by decide) (by decide) (by decide), f 2 (by decide) (by decide) (by decide) (by decide), w 1 (by decide)]
    exact h5
  · unfold QR
    rw [ladd_6 (by decide), ladd_6 (by decide), w 1 (by decide)]
    exact h6
  · unfold AR
    rw [f 0 (by decide) (by decide) (by decide) (by decide), f 3 (by decide) (by decide) (by decide) (by decide), f 4 (by decide) (by decide) (by decide) (by decide), f 5 (by decide) (by decide) (by decide) (by decide), w 14 (by decide), w 15 (by decide), w 16 (by decide)]
    exact h7
theorem nlp_1 {D : zD} {m i : Nat} (h : D 12 i ≠ D 6 2) : nlp D m i = false := by simp [nlp, h]
theorem nlp_2 {D : zD} {m i : Nat} (h : D 7 (D 11 i) ≤ 1) : nlp D m i = false := by
  simp only [nlp]; rw [decide_eq_false (show ¬ 1 < D 7 (D 11 i) by omega), Bool.false_and, Bool.and_false]
theorem nlp_3 {D : zD} {m i : Nat} (h : bn (D 0 m) (D 7 (D 11 i)) = false) : nlp D m i = false := by
  simp only [nlp]; rw [h, Bool.and_false, Bool.and_false]
theorem nlp_y {D : zD} {m i : Nat} (h1 : D 12 i = D 6 2) (h2 : 1 < D 7 (D 11 i)) (h3 : bn (D 0 m) (D 7 (D 11 i)) = true) : nlp D m i = true := by
  simp only [nlp]; rw [h3, decide_eq_true h1, decide_eq_true h2]; rfl
theorem caI_pos {x : Nat} (h : x ≠ 0) : caI x = nI (x - 1) := by
  cases x with
  | zero => exact absurd rfl h
  | succ n => rfl
theorem caI_m1 {x : Nat} (h : x < 2147483648) : caI x = -1 ↔ x = 0 := by
  cases x with
  | zero => exact ⟨fun _ => rfl, fun _ => rfl⟩
  | succ n =>
    constructor
    · intro e
      have h2 : ¬ nI n < 0 := nI_pos (by omega)
      rw [show nI n = -1 from e] at h2
      exact absurd (by decide) h2
    · intro e; omega
theorem lb_eq {x b : Nat} (hx : x < 2147483648) (h1 : 1 ≤ b) (hb : b < 2147483648) : lbI x = nI (b - 1) ↔ x = b := by
  cases x with
  | zero =>
    constructor
    · intro e
      have h2 : ¬ nI (b - 1) < 0 := nI_pos (by omega)
      rw [← show (-4 : Int32) = nI (b - 1) from e] at h2
      exact absurd (by decide) h2
    · intro e; omega
  | succ n =>
    show nI n = nI (b - 1) ↔ _
    rw [nI_eq (by omega) (by omega)]
    omega
theorem CR.node {S : zS} {D : zD} (h : CR S D) {v : Nat} (h1 : 1 ≤ v) (h2 : v < 32) (h3 : sm (D 0) v ≠ 0) : S.1 9 v = nI (key D v) := by
  rw [h.orr v h1 h2, kof, if_neg h3]
theorem inv_path {D : zD} (h : INV D) {m : Nat} (hm : m < 16) (h0 : D 0 m ≠ 0) : ∀ v, bnf 4 (D 0 m / 2) v = true → 1 ≤ v ∧ v < 32 ∧ sm (D 0) v ≠ 0 ∧ key D v < D 6 0 := fun v hv => by
  have hl : 16 ≤ D 0 m ∧ D 0 m < 32 := (h.leaf hm).resolve_left h0
  have h1 := bnf_le hv
  have hb := bn_up _ hl.2 hl.1 v (by omega) hv
  exact ⟨h1.2, by omega, sm_ne.mpr ⟨m, hm, hb⟩, h.key hm hb⟩
def spX0_tryBatch : zSp := fun av S Q => ∃ D : zD, av = [.ref 1] ∧ CR S D ∧ INV D ∧ (brf D ≠ nI 0 → Q (some (.int (nI 0))) S) ∧ (brf D = nI 0 → ∀ S', CR S' (btc D) → zfrm 1 17 S S' → Q (some (.int (nI 1))) S')
set_option maxHeartbeats 4000000 in
set_option maxRecDepth 100000 in
theorem tX0_tryBatch : zM yX0_tryBatch cX0_tryBatch 1 (some .boolean) 6 spX0_tryBatch := by
  refine zM.of (by decide) (by decide) (fun av S Q h => by obtain ⟨D, rfl, hCR, hI, hQ0, hQ⟩ := h; exact Nat.le_of_ble_eq_true rfl) (fun C τ ι av S Q Qr h hr hC hE => ?_)
  obtain ⟨D, rfl, hCR, hI, hQ0, hQ⟩ := h
  show zR C τ ι _ 0 0 0 [(0, .ref 1)] [] _
  refine zr_aload_n hC dX0_tryBatch_0 rfl ?_
  refine zs_callV hC (b := 1) [] [] dX0_tryBatch_1 ml_X0_130 mtX0_batchRefusal tX0_batchRefusal (by decide) (by decide) (by decide) rfl rfl (by decide) (by decide +kernel) (Nat.le_of_ble_eq_true rfl) rfl ?_
  refine ⟨D, rfl, hCR.ms, hCR.kr.1, hCR.lr.1, by have := hI.made; omega, by have := hI.written; omega, ?_⟩
  dsimp only [Option.toList, List.cons_append, List.nil_append]
  refine zr_if_eq hC dX0_tryBatch_4 (tgt := 9) (by decide) (fun c_4 => ?_) (fun c_4 => ?_)
  · have hb : brf D = nI 0 := c_4.trans nI_0.symm
    refine zr_aload_n hC dX0_tryBatch_9 rfl ?_
    refine zs_callV hC (b := 1) [] [] dX0_tryBatch_10 ml_X0_133 mtX0_changeAll tX0_changeAll (by decide) (by decide) (by decide) rfl rfl (by decide) (by decide +kernel) (Nat.le_of_ble_eq_true rfl) rfl ?_
    refine ⟨D, rfl, hCR, hI, hb, fun S1 h1 h2 => ?_⟩
    dsimp only [Option.toList, List.cons_append, List.nil_append]
    refine zr_pop hC dX0_tryBatch_13 rfl ?_
    refine zk_iconst hC dX0_tryBatch_14 (v := nI 1) (by decide +kernel) ?_
    exact zr_zreturn hC hE dX0_tryBatch_15 (by first | exact Or.inl rfl | exact Or.inr rfl) (hr _ _ (by first | exact hQ hb _ h1 h2 | exact hQ0 hb))
  · have hb : brf D ≠ nI 0 := fun q => c_4 (q.trans nI_0)
    refine zk_iconst hC dX0_tryBatch_7 (v := nI 0) (by decide +kernel) ?_
    exact zr_zreturn hC hE dX0_tryBatch_8 (by first | exact Or.inl rfl | exact Or.inr rfl) (hr _ _ (by first | exact hQ hb _ h1 h2 | exact hQ0 hb))
set_option maxHeartbeats 4000000 in
set_option maxRecDepth 100000 in
theorem l0_holdsAll {C : zCx} {τ : Nat → ClassId} {ι : Nat → Nat} (hC : zOK C τ (zrm 3 0 0) yX0_holdsAllAbove.cls cX0_holdsAllAbove 3) {S : zS} {D : zD} {m : Nat} {Qr : Option Value → List va_E → Prop} (hE : zRet C τ ι (some .boolean) Qr) (hCR : CR S D) (hm : m < 16) (h60 : D 6 0 ≤ 232) : ∀ (n u : Nat), u < 2 ^ n → u < 32 → (∀ v, bnf n u v = true → 1 ≤ v ∧ v < 32 ∧ sm (D 0) v ≠ 0 ∧ key D v < D 6 0) → (∀ r, (r = nI 1 ∧ hall D m n u = true) ∨ (r = nI 0 ∧ hall D m n u = false) → Qr (some (.int r)) (zcells S)) → zR C τ ι 3 0 0 12 [(0, .ref 1), (1, .int (nI m)), (2, .int (nI u))] [] (zcells S) := by
  intro n
  induction n with
  | zero =>
    intro u hu hu2 hp k
    have hu0 : u = 0 := by simpa using hu
    subst hu0
    refine zr_iload_n hC dX0_holdsAllAbove_12 rfl ?_
    refine zk_iconst hC dX0_holdsAllAbove_13 (v := nI 1) (by decide +kernel) ?_
    refine zr_icmp_lt hC dX0_holdsAllAbove_14 (tgt := 46) (by decide) (fun c_14 => ?_) (fun c => absurd c (not_not_intro (nI_lt (by omega) (by decide))))
    refine zk_iconst hC dX0_holdsAllAbove_46 (v := nI 1) (by decide +kernel) ?_
    exact zr_zreturn hC hE dX0_holdsAllAbove_47 (Or.inr rfl) (k _ (Or.inl ⟨rfl, rfl⟩))
  | succ n ih =>
    intro u hu hu2 hp k
    refine zr_iload_n hC dX0_holdsAllAbove_12 rfl ?_
    refine zk_iconst hC dX0_holdsAllAbove_13 (v := nI 1) (by decide +kernel) ?_
    refine zr_icmp_lt hC dX0_holdsAllAbove_14 (tgt := 46) (by decide) (fun c_14 => ?_) (fun c_14 => ?_)
    · have hu0 : u = 0 := by rw [nI_ltI (by omega) (by decide)] at c_14; omega
      subst hu0
      refine zk_iconst hC dX0_holdsAllAbove_46 (v := nI 1) (by decide +kernel) ?_
      exact zr_zreturn hC hE dX0_holdsAllAbove_47 (Or.inr rfl) (k _ (Or.inl ⟨rfl, rfl⟩))
    · rw [z_nlt (by omega) (by decide)] at c_14
      obtain ⟨p1, p2, p3, p4⟩ := hp u (by simp [bnf]; omega)
      have hs : hall D m (n + 1) u = (hd D m (key D u) && hall D m n (u / 2)) := if_neg (by omega)
      refine zr_aload_n hC dX0_holdsAllAbove_17 rfl ?_
      refine zs_getr hC dX0_holdsAllAbove_18 fl_X0_21 (a := 1) (r := 5) rfl (by decide) ?_
      refine zr_aload_n hC dX0_holdsAllAbove_21 rfl ?_
      refine zs_getr hC dX0_holdsAllAbove_22 fl_X0_21 (a := 1) (r := 5) rfl (by decide) ?_
      refine zs_getr hC dX0_holdsAllAbove_25 fl_X0_87 (a := 5) (r := 9) rfl (by decide) ?_
      refine zr_iload_n hC dX0_holdsAllAbove_28 rfl ?_
      refine zv_iald hC dX0_holdsAllAbove_29 (a := 9) (n := 32) rfl (by decide) (by decide) (j := u) rfl p2 (hCR.node p1 p2 p3) ?_
      refine zr_iload_n hC dX0_holdsAllAbove_30 rfl ?_
      refine zs_callV hC (b := 5) [_, _] [] dX0_holdsAllAbove_31 ml_X0_114 mtX1_held tX1_held (by decide) (by decide) (by decide) rfl rfl (by decide) (by decide +kernel) (Nat.le_of_ble_eq_true rfl) rfl ?_
      refine ⟨_, D 6 0, m, rfl, hCR.kr.1, h60, by omega, fun r e => ?_⟩
      have e := hCR.kr.held p4 h60 (by omega) e
      rcases e with ⟨rfl, hx⟩ | ⟨rfl, hx⟩
      · dsimp only [Option.toList, List.cons_append, List.nil_append]
        refine zr_if_ne hC dX0_holdsAllAbove_34 (tgt := 39) (by decide) (fun c_34 => ?_) (fun c => absurd c (by decide +kernel))
        refine zr_iload_n hC dX0_holdsAllAbove_39 rfl ?_
        refine zk_iconst hC dX0_holdsAllAbove_40 (v := nI 2) (by decide +kernel) ?_
        refine zn_idiv hC dX0_holdsAllAbove_41 (by decide +kernel) (z_half (by omega)) ?_
        refine zr_istore_n hC dX0_holdsAllAbove_42 (by decide) ?_
        refine zr_goto hC dX0_holdsAllAbove_43 (tgt := 12) (by decide) ?_
        refine zR_sub [(0, .ref 1), (1, .int (nI m)), (2, .int (nI (u / 2)))] ⟨rfl, rfl, rfl, trivial⟩ (ih (u / 2) (by rw [Nat.pow_succ] at hu; omega) (by omega) (fun v hv => hp v (by simp [bnf, hv]; omega)) (fun r e => k r ?_))
        rw [hs, hx, Bool.true_and]; exact e
      · dsimp only [Option.toList, List.cons_append, List.nil_append]
        refine zr_if_ne hC dX0_holdsAllAbove_34 (tgt := 39) (by decide) (fun c => absurd c (by decide +kernel)) (fun c_34 => ?_)
        refine zk_iconst hC dX0_holdsAllAbove_37 (v := nI 0) (by decide +kernel) ?_
        exact zr_zreturn hC hE dX0_holdsAllAbove_38 (Or.inl rfl) (k _ (Or.inr ⟨rfl, by rw [hs, hx, Bool.false_and]⟩))
def spX0_holdsAllAbove : zSp := fun av S Q => ∃ (m : Nat) (D : zD), av = [.ref 1, .int (nI m)] ∧ m < 16 ∧ CR S D ∧ INV D ∧ D 0 m ≠ 0 ∧ ∀ r, (r = nI 1 ∧ hall D m 4 (D 0 m / 2) = true) ∨ (r = nI 0 ∧ hall D m 4 (D 0 m / 2) = false) → Q (some (.int r)) S
set_option maxHeartbeats 4000000 in
set_option maxRecDepth 100000 in
theorem tX0_holdsAllAbove : zM yX0_holdsAllAbove cX0_holdsAllAbove 3 (some .boolean) 3 spX0_holdsAllAbove := by
  refine zM.of (by decide) (by decide) (fun av S Q h => by obtain ⟨m, D, rfl, hm, hCR, hI, h0, hQ⟩ := h; exact Nat.le_of_ble_eq_true rfl) (fun C τ ι av S Q Qr h hr hC hE => ?_)
  obtain ⟨m, D, rfl, hm, hCR, hI, h0, hQ⟩ := h
  show zR C τ ι _ 0 0 0 [(0, .ref 1), (1, .int (nI m))] [] _
  refine zr_aload_n hC dX0_holdsAllAbove_0 rfl ?_
  refine zs_getr hC dX0_holdsAllAbove_1 fl_X0_12 (a := 1) (r := 2) rfl (by decide) ?_
  refine zs_getr hC dX0_holdsAllAbove_4 fl_X0_111 (a := 2) (r := 3) rfl (by decide) ?_
  refine zr_iload_n hC dX0_holdsAllAbove_7 rfl ?_
  refine zv_iald hC dX0_holdsAllAbove_8 (a := 3) (n := 16) rfl (by decide) (by decide) (j := m) rfl hm (hCR.sr.1 m hm) ?_
  refine zk_iconst hC dX0_holdsAllAbove_9 (v := nI 2) (by decide +kernel) ?_
  refine zn_idiv hC dX0_holdsAllAbove_10 (by decide +kernel) (z_half (by have := hI.ok.lt hm; omega)) ?_
  refine zr_istore_n hC dX0_holdsAllAbove_11 (by decide) ?_
  refine zR_sub [(0, .ref 1), (1, .int (nI m)), (2, .int (nI (D 0 m / 2)))] ⟨rfl, rfl, rfl, trivial⟩ ?_
  have hlt := hI.ok.lt hm
  exact l0_holdsAll hC hE hCR hm (by have := hI.made; omega) 4 (D 0 m / 2) (by omega) (by omega) (inv_path hI hm h0) (fun r e => hr _ _ (hQ r e))
def spX0_mendRefusal : zSp := fun av S Q => ∃ (m : Nat) (D : zD), av = [.ref 1, .int (nI m)] ∧ m < 16 ∧ CR S D ∧ INV D ∧ Q (some (.int (mrf D m))) S
set_option maxHeartbeats 4000000 in
set_option maxRecDepth 100000 in
theorem tX0_mendRefusal : zM yX0_mendRefusal cX0_mendRefusal 2 (some .int) 4 spX0_mendRefusal := by
  refine zM.of (by decide) (by decide) (fun av S Q h => by obtain ⟨m, D, rfl, hm, hCR, hI, hQ⟩ := h; exact Nat.le_of_ble_eq_true rfl) (fun C τ ι av S Q Qr h hr hC hE => ?_)
  obtain ⟨m, D, rfl, hm, hCR, hI, hQ⟩ := h
  show zR C τ ι _ 0 0 0 [(0, .ref 1), (1, .int (nI m))] [] _
  refine zr_aload_n hC dX0_mendRefusal_0 rfl ?_
  refine zr_iload_n hC dX0_mendRefusal_1 rfl ?_
  refine zs_callV hC (b := 1) [_] [] dX0_mendRefusal_2 ml_X0_102 mtX0_isAwake tX0_isAwake (by decide) (by decide) (by decide) rfl rfl (by decide) (by decide +kernel) (Nat.le_of_ble_eq_true rfl) rfl ?_
  refine ⟨m, D, rfl, hm, hCR.sr, hCR.ms, fun r e => ?_⟩
  rcases e with ⟨rfl, hx⟩ | ⟨rfl, hx⟩
  · dsimp only [Option.toList, List.cons_append, List.nil_append]
    refine zr_if_eq hC dX0_mendRefusal_5 (tgt := 16) (by decide) (fun c => absurd c (by decide +kernel)) (fun c_5 => ?_)
    refine zr_aload_n hC dX0_mendRefusal_8 rfl ?_
    refine zr_iload_n hC dX0_mendRefusal_9 rfl ?_
    refine zs_callV hC (b := 1) [_] [] dX0_mendRefusal_10 ml_X0_105 mtX0_holdsAllAbove tX0_holdsAllAbove (by decide) (by decide) (by decide) rfl rfl (by decide) (by decide +kernel) (Nat.le_of_ble_eq_true rfl) rfl ?_
    refine ⟨m, D, rfl, hm, hCR, hI, hx.1, fun r e => ?_⟩
    rcases e with ⟨rfl, hy⟩ | ⟨rfl, hy⟩
    · rw [show mrf D m = -2 from if_pos (Or.inr (Or.inr hy))] at hQ
      dsimp only [Option.toList, List.cons_append, List.nil_append]
      refine zr_if_eq hC dX0_mendRefusal_13 (tgt := 19) (by decide) (fun c => absurd c (by decide +kernel)) (fun c_13 => ?_)
      refine zk_bipush hC dX0_mendRefusal_16 (v := (-2)) (by decide +kernel) ?_
      exact zr_ireturn hC hE dX0_mendRefusal_18 (hr _ _ (hQ))
    · rw [show mrf D m = ful D from if_neg (by rw [hy]; exact fun q => q.elim hx.1 (fun q => q.elim hx.2 (fun q => absurd q (by decide))))] at hQ
      dsimp only [Option.toList, List.cons_append, List.nil_append]
      refine zr_if_eq hC dX0_mendRefusal_13 (tgt := 19) (by decide) (fun c_13 => ?_) (fun c => absurd c (by decide +kernel))
      refine zr_aload_n hC dX0_mendRefusal_19 rfl ?_
      refine zs_callV hC (b := 1) [] [] dX0_mendRefusal_20 ml_X0_98 mtX0_fullRefusal tX0_fullRefusal (by decide) (by decide) (by decide) rfl rfl (by decide) (by decide +kernel) (Nat.le_of_ble_eq_true rfl) rfl ?_
      refine ⟨D, rfl, hCR.kr.1, hCR.lr.1, by have := hI.made; omega, by have := hI.written; omega, ?_⟩
      dsimp only [Option.toList, List.cons_append, List.nil_append]
      exact zr_ireturn hC hE dX0_mendRefusal_23 (hr _ _ (hQ))
  · rw [show mrf D m = -2 from if_pos (by omega)] at hQ
    dsimp only [Option.toList, List.cons_append, List.nil_append]
    refine zr_if_eq hC dX0_mendRefusal_5 (tgt := 16) (by decide) (fun c_5 => ?_) (fun c => absurd c (by decide +kernel))
    refine zk_bipush hC dX0_mendRefusal_16 (v := (-2)) (by decide +kernel) ?_
    exact zr_ireturn hC hE dX0_mendRefusal_18 (hr _ _ (hQ))
set_option maxHeartbeats 4000000 in
set_option maxRecDepth 100000 in
theorem l0_mend {C : zCx} {τ : Nat → ClassId} {ι : Nat → Nat} (hC : zOK C τ (zrm 5 0 0) yX0_mendKeys.cls cX0_mendKeys 6) {S0 : zS} {m w0 l : Nat} (hm : m < 16) : ∀ (n u : Nat) (T : zD) (S : zS), u < 2 ^ n → u < 32 → CR S T → T 6 0 ≤ 232 → T 6 1 + n < 192 → T 0 m = l → (∀ v, (bnf n u v = true ∨ v = l) → 1 ≤ v ∧ v < 32 ∧ sm (T 0) v ≠ 0 ∧ key T v < T 6 0) → zfrm 10 14 S0 S → (∀ S' lv, CR S' (mnl m n u T) → zfrm 10 14 S0 S' → zsub lv [(0, .ref 1), (2, .int (nI w0))] → zR C τ ι 6 0 0 83 lv [] (zcells S')) → zR C τ ι 6 0 0 23 [(0, .ref 1), (1, .int (nI m)), (2, .int (nI w0)), (3, .int (nI l)), (4, .int (nI u))] [] (zcells S) := by
  intro n
  induction n with
  | zero =>
    intro u T S hu hu2 hCR h60 h61 hl hp hF k
    have hu0 : u = 0 := by simpa using hu
    subst hu0
    refine zr_iload hC dX0_mendKeys_23 rfl ?_
    refine zk_iconst hC dX0_mendKeys_25 (v := nI 1) (by decide +kernel) ?_
    refine zr_icmp_lt hC dX0_mendKeys_26 (tgt := 83) (by decide) (fun c_26 => ?_) (fun c => absurd c (not_not_intro (nI_lt (by omega) (by decide))))
    exact k S _ hCR hF ⟨rfl, rfl, trivial⟩
  | succ n ih =>
    intro u T S hu hu2 hCR h60 h61 hl hp hF k
    refine zr_iload hC dX0_mendKeys_23 rfl ?_
    refine zk_iconst hC dX0_mendKeys_25 (v := nI 1) (by decide +kernel) ?_
    refine zr_icmp_lt hC dX0_mendKeys_26 (tgt := 83) (by decide) (fun c_26 => ?_) (fun c_26 => ?_)
    · have hu0 : u = 0 := by rw [nI_ltI (by omega) (by decide)] at c_26; omega
      subst hu0
      exact k S _ hCR hF ⟨rfl, rfl, trivial⟩
    · rw [z_nlt (by omega) (by decide)] at c_26
      obtain ⟨p1, p2, p3, p4⟩ := hp u (Or.inl (by simp [bnf]; omega))
      obtain ⟨q1, q2, q3, q4⟩ := hp l (Or.inr rfl)
      have hs : mnl m (n + 1) u T = mnl m n (u / 2) (if hd T m (key T u) = true then T else ladd T (key T u) (key T (T 0 m)) 0) := if_neg (by omega)
      refine zr_aload_n hC dX0_mendKeys_29 rfl ?_
      refine zs_getr hC dX0_mendKeys_30 fl_X0_21 (a := 1) (r := 5) rfl (by decide) ?_
      refine zs_getr hC dX0_mendKeys_33 fl_X0_87 (a := 5) (r := 9) rfl (by decide) ?_
      refine zr_iload hC dX0_mendKeys_36 rfl ?_
      refine zv_iald hC dX0_mendKeys_38 (a := 9) (n := 32) rfl (by decide) (by decide) (j := u) rfl p2 (hCR.node p1 p2 p3) ?_
      refine zr_istore hC dX0_mendKeys_39 (by decide) ?_
      refine zr_aload_n hC dX0_mendKeys_41 rfl ?_
      refine zs_getr hC dX0_mendKeys_42 fl_X0_21 (a := 1) (r := 5) rfl (by decide) ?_
      refine zr_iload hC dX0_mendKeys_45 rfl ?_
      refine zr_iload_n hC dX0_mendKeys_47 rfl ?_
      refine zs_callV hC (b := 5) [_, _] [] dX0_mendKeys_48 ml_X0_114 mtX1_held tX1_held (by decide) (by decide) (by decide) rfl rfl (by decide) (by decide +kernel) (Nat.le_of_ble_eq_true rfl) rfl ?_
      refine ⟨_, T 6 0, m, rfl, hCR.kr.1, h60, by omega, fun r e => ?_⟩
      have e := hCR.kr.held p4 h60 (by omega) e
      rcases e with ⟨rfl, hx⟩ | ⟨rfl, hx⟩
      · dsimp only [Option.toList, List.cons_append, List.nil_append]
        refine zr_if_ne hC dX0_mendKeys_51 (tgt := 74) (by decide) (fun c_51 => ?_) (fun c => absurd c (by decide +kernel))
        refine zr_iload hC dX0_mendKeys_74 rfl ?_
        refine zk_iconst hC dX0_mendKeys_76 (v := nI 2) (by decide +kernel) ?_
        refine zn_idiv hC dX0_mendKeys_77 (by decide +kernel) (z_half (by omega)) ?_
        refine zr_istore hC dX0_mendKeys_78 (by decide) ?_
        refine zr_goto hC dX0_mendKeys_80 (tgt := 23) (by decide) ?_
        first
          | exact zR_sub [(0, .ref 1), (1, .int (nI m)), (2, .int (nI w0)), (3, .int (nI l)), (4, .int (nI (u / 2)))] ⟨rfl, rfl, rfl, rfl, rfl, trivial⟩ (ih (u / 2) T _ (by rw [Nat.pow_succ] at hu; omega) (by omega) hCR h60 (by omega) hl (fun v hv => hp v (hv.imp (fun q => by simp [bnf, q]; omega) id)) hF (fun S2 lv h1 h2 h3 => k S2 lv (by rw [hs, if_pos hx]; exact h1) h2 h3))
          | exact zR_sub [(0, .ref 1), (1, .int (nI m)), (2, .int (nI w0)), (3, .int (nI l)), (4, .int (nI (u / 2)))] ⟨rfl, rfl, rfl, rfl, rfl, trivial⟩ (ih (u / 2) _ _ (by rw [Nat.pow_succ] at hu; omega) (by omega) (hCR.lad (c := 0) rfl) (by rw [ladd_6 (by decide)]; exact h60) (by rw [ladd_61]; omega) (by rw [ladd_f (by decide) (by decide) (by decide) (by decide)]; exact hl) (fun v hv => by rw [ladd_f (by decide) (by decide) (by decide) (by decide), ladd_6 (by decide), ((ltE.rf (D := T)).add _ _ _).key]; exact hp v (hv.imp (fun q => by simp [bnf, q]; omega) id)) ((((hF.put (by decide) (by decide)).put (by decide) (by decide)).put (by decide) (by decide)).put (by decide) (by decide)) (fun S2 lv h1 h2 h3 => k S2 lv (by rw [hs, if_neg (by rw [hx]; decide), hl]; exact h1) h2 h3))
      · dsimp only [Option.toList, List.cons_append, List.nil_append]
        refine zr_if_ne hC dX0_mendKeys_51 (tgt := 74) (by decide) (fun c => absurd c (by decide +kernel)) (fun c_51 => ?_)
        refine zr_aload_n hC dX0_mendKeys_54 rfl ?_
        refine zs_getr hC dX0_mendKeys_55 fl_X0_28 (a := 1) (r := 10) rfl (by decide) ?_
        refine zr_iload hC dX0_mendKeys_58 rfl ?_
        refine zr_aload_n hC dX0_mendKeys_60 rfl ?_
        refine zs_getr hC dX0_mendKeys_61 fl_X0_21 (a := 1) (r := 5) rfl (by decide) ?_
        refine zs_getr hC dX0_mendKeys_64 fl_X0_87 (a := 5) (r := 9) rfl (by decide) ?_
        refine zr_iload_n hC dX0_mendKeys_67 rfl ?_
        refine zv_iald hC dX0_mendKeys_68 (a := 9) (n := 32) rfl (by decide) (by decide) (j := l) rfl q2 (hCR.node q1 q2 q3) ?_
        refine zk_bipush hC dX0_mendKeys_69 (v := (-4)) (by decide +kernel) ?_
        refine zs_callV hC (b := 10) [_, _, _] [] dX0_mendKeys_71 ml_X0_160 mtX2_add tX2_add (by decide) (by decide) (by decide) rfl rfl (by decide) (by decide +kernel) (Nat.le_of_ble_eq_true rfl) rfl ?_
        refine ⟨T 6 1, _, _, _, rfl, hCR.lr.1, by omega, ?_⟩
        dsimp only [Option.toList, List.nil_append]
        refine zr_iload hC dX0_mendKeys_74 rfl ?_
        refine zk_iconst hC dX0_mendKeys_76 (v := nI 2) (by decide +kernel) ?_
        refine zn_idiv hC dX0_mendKeys_77 (by decide +kernel) (z_half (by omega)) ?_
        refine zr_istore hC dX0_mendKeys_78 (by decide) ?_
        refine zr_goto hC dX0_mendKeys_80 (tgt := 23) (by decide) ?_
        first
          | exact zR_sub [(0, .ref 1), (1, .int (nI m)), (2, .int (nI w0)), (3, .int (nI l)), (4, .int (nI (u / 2)))] ⟨rfl, rfl, rfl, rfl, rfl, trivial⟩ (ih (u / 2) T _ (by rw [Nat.pow_succ] at hu; omega) (by omega) hCR h60 (by omega) hl (fun v hv => hp v (hv.imp (fun q => by simp [bnf, q]; omega) id)) hF (fun S2 lv h1 h2 h3 => k S2 lv (by rw [hs, if_pos hx]; exact h1) h2 h3))
          | exact zR_sub [(0, .ref 1), (1, .int (nI m)), (2, .int (nI w0)), (3, .int (nI l)), (4, .int (nI (u / 2)))] ⟨rfl, rfl, rfl, rfl, rfl, trivial⟩ (ih (u / 2) _ _ (by rw [Nat.pow_succ] at hu; omega) (by omega) (hCR.lad (c := 0) rfl) (by rw [ladd_6 (by decide)]; exact h60) (by rw [ladd_61]; omega) (by rw [ladd_f (by decide) (by decide) (by decide) (by decide)]; exact hl) (fun v hv => by rw [ladd_f (by decide) (by decide) (by decide) (by decide), ladd_6 (by decide), ((ltE.rf (D := T)).add _ _ _).key]; exact hp v (hv.imp (fun q => by simp [bnf, q]; omega) id)) ((((hF.put (by decide) (by decide)).put (by decide) (by decide)).put (by decide) (by decide)).put (by decide) (by decide)) (fun S2 lv h1 h2 h3 => k S2 lv (by rw [hs, if_neg (by rw [hx]; decide), hl]; exact h1) h2 h3))
def spX0_mendKeys : zSp := fun av S Q => ∃ (m : Nat) (D : zD), av = [.ref 1, .int (nI m)] ∧ m < 16 ∧ CR S D ∧ INV D ∧ mrf D m = nI 0 ∧ ∀ S', CR S' (mnd m D) → zfrm 1 17 S S' → Q (some (.int (nI (mnd m D 6 1 - D 6 1)))) S'
set_option maxHeartbeats 4000000 in
set_option maxRecDepth 100000 in
theorem tX0_mendKeys : zM yX0_mendKeys cX0_mendKeys 6 (some .int) 5 spX0_mendKeys := by
  refine zM.of (by decide) (by decide) (fun av S Q h => by obtain ⟨m, D, rfl, hm, hCR, hI, hmr, hQ⟩ := h; exact Nat.le_of_ble_eq_true rfl) (fun C τ ι av S Q Qr h hr hC hE => ?_)
  obtain ⟨m, D, rfl, hm, hCR, hI, hmr, hQ⟩ := h
  show zR C τ ι _ 0 0 0 [(0, .ref 1), (1, .int (nI m))] [] _
  refine zr_aload_n hC dX0_mendKeys_0 rfl ?_
  refine zs_getr hC dX0_mendKeys_1 fl_X0_28 (a := 1) (r := 10) rfl (by decide) ?_
  refine zv_geti hC dX0_mendKeys_4 fl_X0_84 (a := 10) rfl (by decide) (hCR.lr.1) ?_
  refine zr_istore_n hC dX0_mendKeys_7 (by decide) ?_
  refine zr_aload_n hC dX0_mendKeys_8 rfl ?_
  refine zs_getr hC dX0_mendKeys_9 fl_X0_12 (a := 1) (r := 2) rfl (by decide) ?_
  refine zs_getr hC dX0_mendKeys_12 fl_X0_111 (a := 2) (r := 3) rfl (by decide) ?_
  refine zr_iload_n hC dX0_mendKeys_15 rfl ?_
  refine zv_iald hC dX0_mendKeys_16 (a := 3) (n := 16) rfl (by decide) (by decide) (j := m) rfl hm (hCR.sr.1 m hm) ?_
  refine zr_istore_n hC dX0_mendKeys_17 (by decide) ?_
  refine zr_iload_n hC dX0_mendKeys_18 rfl ?_
  refine zk_iconst hC dX0_mendKeys_19 (v := nI 2) (by decide +kernel) ?_
  refine zn_idiv hC dX0_mendKeys_20 (by decide +kernel) (z_half (by have := hI.ok.lt hm; omega)) ?_
  refine zr_istore hC dX0_mendKeys_21 (by decide) ?_
  refine zR_sub [(0, .ref 1), (1, .int (nI m)), (2, .int (nI (D 6 1))), (3, .int (nI (D 0 m))), (4, .int (nI (D 0 m / 2)))] ⟨rfl, rfl, rfl, rfl, rfl, trivial⟩ ?_
  have hlt := hI.ok.lt hm
  obtain ⟨h0, -, -, -, h61⟩ := mrf_0 hmr
  have hl : 16 ≤ D 0 m := by rcases hI.leaf hm with z | z <;> omega
  have hbs := bn_self (u := D 0 m) (by omega)
  have hle : D 6 1 ≤ mnd m D 6 1 := by
    unfold mnd
    rw [rda_f (by decide) (by decide)]
    exact (hI.mnl hm hmr).2.1.2.2.1
  refine l0_mend (S0 := S) hC hm 4 (D 0 m / 2) D S (by omega) (by omega) hCR (by have := hI.made; omega) (by omega) rfl (fun v hv => ?_) zfrm.rf (fun S1 lv h1 h2 h3 => ?_)
  · rcases hv with hv | rfl
    · exact inv_path hI hm h0 v hv
    · exact ⟨by omega, hlt, sm_ne.mpr ⟨m, hm, hbs⟩, hI.key hm hbs⟩
  · refine zR_sub [(0, .ref 1), (2, .int (nI (D 6 1)))] h3 ?_
    refine zr_aload_n hC dX0_mendKeys_83 rfl ?_
    refine zs_callV hC (b := 1) [] [] dX0_mendKeys_84 ml_X0_151 mtX0_readByAll tX0_readByAll (by decide) (by decide) (by decide) rfl rfl (by decide) (by decide +kernel) (Nat.le_of_ble_eq_true rfl) rfl ?_
    refine ⟨_, rfl, h1, (hI.mnl hm hmr).1.rd, fun S2 g1 g2 => ?_⟩
    dsimp only [Option.toList, List.nil_append]
    refine zr_aload_n hC dX0_mendKeys_87 rfl ?_
    refine zs_getr hC dX0_mendKeys_88 fl_X0_28 (a := 1) (r := 10) rfl (by decide) ?_
    refine zv_geti hC dX0_mendKeys_91 fl_X0_84 (a := 10) rfl (by decide) (g1.lr.1) ?_
    refine zr_iload_n hC dX0_mendKeys_94 rfl ?_
    refine zn_isub hC dX0_mendKeys_95 (pk_sub hle) ?_
    exact zr_ireturn hC hE dX0_mendKeys_96 (hr _ _ (hQ _ g1 ((h2.up (by decide) (by decide)).tr g2)))
theorem zfill_ne (S : zS) {a n a' : Nat} (x : Int32) (h : a' ≠ a) : (zfill S a n x).1 a' = S.1 a' := by
  funext k
  simp [zfill, h]
theorem zfill_in (S : zS) {a n k : Nat} (x : Int32) (h : k < n) : (zfill S a n x).1 a k = x := by simp [zfill, h]
theorem zfrm.fill {lo hi : Nat} {S S' : zS} (h : zfrm lo hi S S') {a n : Nat} {x : Int32} (h1 : lo ≤ a) (h2 : a < hi) : zfrm lo hi S (zfill S' a n x) := ⟨fun b hb => (zfill_ne S' x (by omega)).trans (h.1 b hb), h.2⟩
abbrev bgS (S : zS) : zS := zfill (zput (zput (zput (zput (zput (zfill (zput (zfill (zfill S 3 16 (nI 0)) 4 32 (nI 0)) 5 0 (nI 0)) 9 32 (-4)) 10 0 (nI 0)) 1 3 (nI 0)) 1 4 (nI 0)) 1 5 (nI 0)) 1 6 (nI 0)) 14 16 (-1)
theorem bg_CR {S : zS} {D : zD} (h : CR S D) : CR (bgS S) (bgn D) := by
  have e : ∀ f, f ≠ 6 → bgn D f = fun _ => 0 := fun f hf => funext fun k => if_neg (fun q => hf q.1)
  have e0 : bgn D 6 0 = 0 := rfl
  have e1 : bgn D 6 1 = 0 := rfl
  have e2 : bgn D 6 2 = 0 := rfl
  have e3 : bgn D 6 3 = D 6 3 := rfl
  refine ⟨⟨fun m hm => ?_, fun v a b => ?_, fun m hm => ?_⟩, ⟨?_, fun k hk => absurd hk (Nat.not_lt_zero k)⟩, fun v a b => ?_, ⟨?_, fun k hk => absurd hk (Nat.not_lt_zero k)⟩, ⟨?_, ?_, ?_⟩, ⟨?_, ?_⟩, fun m hm => ?_, fun m hm q => ?_, fun m hm q => ?_⟩
  · rw [e 0 (by decide)]
    unfold bgS
    rw [zfill_ne _ _ (by decide), zput_ne _ _ (by decide), zput_ne _ _ (by decide), zput_ne _ _ (by decide), zput_ne _ _ (by decide), zput_ne _ _ (by decide), zfill_ne _ _ (by decide), zput_ne _ _ (by decide), zfill_ne _ _ (by decide)]
    exact zfill_in _ _ hm
  · rw [e 0 (by decide), sm_none]
    unfold bgS
    rw [zfill_ne _ _ (by decide), zput_ne _ _ (by decide), zput_ne _ _ (by decide), zput_ne _ _ (by decide), zput_ne _ _ (by decide), zput_ne _ _ (by decide), zfill_ne _ _ (by decide), zput_ne _ _ (by decide)]
    exact zfill_in _ _ b
  · rw [e 0 (by decide)]; exact (show (0 : Nat) < 32 by decide)
  · unfold bgS
    rw [zfill_ne _ _ (by decide), zput_ne _ _ (by decide), zput_ne _ _ (by decide), zput_ne _ _ (by decide), zput_ne _ _ (by decide), zput_ne _ _ (by decide), zfill_ne _ _ (by decide), zput_at]; rfl
  · unfold bgS kof
    rw [e 0 (by decide), if_pos (sm_none v), zfill_ne _ _ (by decide), zput_ne _ _ (by decide), zput_ne _ _ (by decide), zput_ne _ _ (by decide), zput_ne _ _ (by decide), zput_ne _ _ (by decide)]
    exact zfill_in _ _ b
  · unfold bgS
    rw [zfill_ne _ _ (by decide), zput_ne _ _ (by decide), zput_ne _ _ (by decide), zput_ne _ _ (by decide), zput_ne _ _ (by decide), zput_at]; rfl
  · unfold bgS
    rw [zfill_ne _ _ (by decide), zput_k _ _ (by decide), zput_k _ _ (by decide), zput_k _ _ (by decide), zput_at]
    unfold cms
    rw [e 1 (by decide)]; rfl
  · unfold bgS
    rw [zfill_ne _ _ (by decide), zput_k _ _ (by decide), zput_k _ _ (by decide), zput_at]
    unfold lvs
    rw [e 1 (by decide)]; rfl
  · unfold bgS
    rw [zfill_ne _ _ (by decide), zput_k _ _ (by decide), zput_at]
    unfold sls
    rw [e 2 (by decide)]; rfl
  · unfold bgS
    rw [zfill_ne _ _ (by decide), zput_at]; rfl
  · unfold bgS
    rw [zfill_ne _ _ (by decide), zput_k _ _ (by decide), zput_k _ _ (by decide), zput_k _ _ (by decide), zput_k _ _ (by decide), zput_ne _ _ (by decide), zfill_ne _ _ (by decide), zput_ne _ _ (by decide), zfill_ne _ _ (by decide), zfill_ne _ _ (by decide), e3]
    exact h.qr.2
  · unfold bgS
    rw [e 4 (by decide)]
    exact zfill_in _ _ hm
  · rw [e 4 (by decide)] at q; exact absurd rfl q
  · rw [e 0 (by decide)] at q; exact absurd rfl q
def spX0_beginAnew : zSp := fun av S Q => ∃ (D : zD), av = [.ref 1] ∧ CR S D ∧ ∀ S', CR S' (bgn D) → zfrm 1 17 S S' → Q none S'
set_option maxHeartbeats 4000000 in
set_option maxRecDepth 100000 in
theorem tX0_beginAnew : zM yX0_beginAnew cX0_beginAnew 1 none 2 spX0_beginAnew := by
  refine zM.of (by decide) (by decide) (fun av S Q h => by obtain ⟨D, rfl, hCR, hQ⟩ := h; exact Nat.le_of_ble_eq_true rfl) (fun C τ ι av S Q Qr h hr hC hE => ?_)
  obtain ⟨D, rfl, hCR, hQ⟩ := h
  show zR C τ ι _ 0 0 0 [(0, .ref 1)] [] _
  refine zr_aload_n hC dX0_beginAnew_0 rfl ?_
  refine zs_getr hC dX0_beginAnew_1 fl_X0_12 (a := 1) (r := 2) rfl (by decide) ?_
  refine zs_callV hC (b := 2) [] [] dX0_beginAnew_4 ml_X0_80 mtX5_clear tX5_clear (by decide) (by decide) (by decide) rfl rfl (by decide) (by decide +kernel) (Nat.le_of_ble_eq_true rfl) rfl ?_
  refine ⟨rfl, ?_⟩
  dsimp only [Option.toList, List.nil_append]
  refine zr_aload_n hC dX0_beginAnew_7 rfl ?_
  refine zs_getr hC dX0_beginAnew_8 fl_X0_21 (a := 1) (r := 5) rfl (by decide) ?_
  refine zs_callV hC (b := 5) [] [] dX0_beginAnew_11 ml_X0_83 mtX1_clear tX1_clear (by decide) (by decide) (by decide) rfl rfl (by decide) (by decide +kernel) (Nat.le_of_ble_eq_true rfl) rfl ?_
  refine ⟨rfl, ?_⟩
  dsimp only [Option.toList, List.nil_append]
  refine zr_aload_n hC dX0_beginAnew_14 rfl ?_
  refine zs_getr hC dX0_beginAnew_15 fl_X0_28 (a := 1) (r := 10) rfl (by decide) ?_
  refine zk_iconst hC dX0_beginAnew_18 (v := nI 0) (by decide +kernel) ?_
  refine zs_puti hC dX0_beginAnew_19 fl_X0_84 fp_X2_0 (a := 10) rfl (by decide) ?_
  refine zr_aload_n hC dX0_beginAnew_22 rfl ?_
  refine zk_iconst hC dX0_beginAnew_23 (v := nI 0) (by decide +kernel) ?_
  refine zs_puti hC dX0_beginAnew_24 fl_X0_62 fp_X0_3 (a := 1) rfl (by decide) ?_
  refine zr_aload_n hC dX0_beginAnew_27 rfl ?_
  refine zk_iconst hC dX0_beginAnew_28 (v := nI 0) (by decide +kernel) ?_
  refine zs_puti hC dX0_beginAnew_29 fl_X0_65 fp_X0_4 (a := 1) rfl (by decide) ?_
  refine zr_aload_n hC dX0_beginAnew_32 rfl ?_
  refine zk_iconst hC dX0_beginAnew_33 (v := nI 0) (by decide +kernel) ?_
  refine zs_puti hC dX0_beginAnew_34 fl_X0_68 fp_X0_5 (a := 1) rfl (by decide) ?_
  refine zr_aload_n hC dX0_beginAnew_37 rfl ?_
  refine zk_iconst hC dX0_beginAnew_38 (v := nI 0) (by decide +kernel) ?_
  refine zs_puti hC dX0_beginAnew_39 fl_X0_71 fp_X0_6 (a := 1) rfl (by decide) ?_
  refine zr_aload_n hC dX0_beginAnew_42 rfl ?_
  refine zs_getr hC dX0_beginAnew_43 fl_X0_36 (a := 1) (r := 14) rfl (by decide) ?_
  refine zk_iconst hC dX0_beginAnew_46 (v := (-1)) (by decide +kernel) ?_
  refine zs_callS hC [_, _] [] dX0_beginAnew_47 ml_X0_46 mtJ7_fill_53178 tJ7_fill_53178 (by decide) (by decide) (by decide) rfl (Nat.le_of_ble_eq_true rfl) rfl ?_
  refine ⟨14, 16, _, rfl, rfl, by decide, by decide, ?_⟩
  dsimp only [Option.toList, List.nil_append]
  exact zr_vreturn hC hE dX0_beginAnew_50 (hr _ _ (hQ _ (bg_CR hCR) (zfrm.rf.fill (by decide) (by decide) |>.fill (by decide) (by decide) |>.put (by decide) (by decide) |>.fill (by decide) (by decide) |>.put (by decide) (by decide) |>.put (by decide) (by decide) |>.put (by decide) (by decide) |>.put (by decide) (by decide) |>.put (by decide) (by decide) |>.fill (by decide) (by decide))))
def spX0_whyShut : zSp := fun av S Q => ∃ (m k : Nat) (D : zD), av = [.ref 1, .int (nI m), .int (nI k)] ∧ m < 16 ∧ k < D 6 0 ∧ CR S D ∧ INV D ∧ Q (some (.int (nI (wsh D m k)))) S
set_option maxHeartbeats 4000000 in
set_option maxRecDepth 100000 in
theorem tX0_whyShut : zM yX0_whyShut cX0_whyShut 3 (some .int) 3 spX0_whyShut := by
  refine zM.of (by decide) (by decide) (fun av S Q h => by obtain ⟨m, k, D, rfl, hm, hk, hCR, hI, hQ⟩ := h; exact Nat.le_of_ble_eq_true rfl) (fun C τ ι av S Q Qr h hr hC hE => ?_)
  obtain ⟨m, k, D, rfl, hm, hk, hCR, hI, hQ⟩ := h
  show zR C τ ι _ 0 0 0 [(0, .ref 1), (1, .int (nI m)), (2, .int (nI k))] [] _
  refine zr_aload_n hC dX0_whyShut_0 rfl ?_
  refine zs_getr hC dX0_whyShut_1 fl_X0_21 (a := 1) (r := 5) rfl (by decide) ?_
  refine zr_iload_n hC dX0_whyShut_4 rfl ?_
  refine zr_iload_n hC dX0_whyShut_5 rfl ?_
  refine zs_callV hC (b := 5) [_, _] [] dX0_whyShut_6 ml_X0_114 mtX1_held tX1_held (by decide) (by decide) (by decide) rfl rfl (by decide) (by decide +kernel) (Nat.le_of_ble_eq_true rfl) rfl ?_
  have h60 : D 6 0 ≤ 232 := by have := hI.made; omega
  have hbk := (hI.keys hk).2.2.1
  have hbt := hI.batches
  obtain ⟨hc1, hc2, hc3⟩ := hI.came hm
  refine ⟨_, D 6 0, m, rfl, hCR.kr.1, h60, by omega, fun r e => ?_⟩
  have e := hCR.kr.held hk h60 (by omega) e
  rcases e with ⟨rfl, hx⟩ | ⟨rfl, hx⟩
  · rw [show wsh D m k = 0 from if_pos hx] at hQ
    dsimp only [Option.toList, List.cons_append, List.nil_append]
    refine zr_if_eq hC dX0_whyShut_9 (tgt := 14) (by decide) (fun c => absurd c (by decide +kernel)) (fun c_9 => ?_)
    refine zk_iconst hC dX0_whyShut_12 (v := nI 0) (by decide +kernel) ?_
    exact zr_ireturn hC hE dX0_whyShut_13 (hr _ _ (hQ))
  · rw [show wsh D m k = if D 4 m = 0 then 1 else if D 8 k + 1 < D 4 m then 2 else if D 0 m = 0 ∧ D 5 m ≤ D 8 k + 1 then 3 else 4 from if_neg (by rw [hx]; decide)] at hQ
    dsimp only [Option.toList, List.cons_append, List.nil_append]
    refine zr_if_eq hC dX0_whyShut_9 (tgt := 14) (by decide) (fun c_9 => ?_) (fun c => absurd c (by decide +kernel))
    refine zr_aload_n hC dX0_whyShut_14 rfl ?_
    refine zs_getr hC dX0_whyShut_15 fl_X0_36 (a := 1) (r := 14) rfl (by decide) ?_
    refine zr_iload_n hC dX0_whyShut_18 rfl ?_
    refine zv_iald hC dX0_whyShut_19 (a := 14) (n := 16) rfl (by decide) (by decide) (j := m) rfl hm (hCR.ar.1 m hm) ?_
    refine zk_iconst hC dX0_whyShut_20 (v := (-1)) (by decide +kernel) ?_
    refine zr_icmp_ne hC dX0_whyShut_21 (tgt := 26) (by decide) (fun c_21 => ?_) (fun c_21 => ?_)
    · rw [caI_m1 (by omega)] at c_21
      rw [if_neg c_21] at hQ
      refine zr_aload_n hC dX0_whyShut_26 rfl ?_
      refine zs_getr hC dX0_whyShut_27 fl_X0_21 (a := 1) (r := 5) rfl (by decide) ?_
      refine zr_iload_n hC dX0_whyShut_30 rfl ?_
      refine zs_callV hC (b := 5) [_] [] dX0_whyShut_31 ml_X0_182 mtX1_batchOf tX1_batchOf (by decide) (by decide) (by decide) rfl rfl (by decide) (by decide +kernel) (Nat.le_of_ble_eq_true rfl) rfl ?_
      refine ⟨_, D 6 0, rfl, hCR.kr.1, h60, fun r e => ?_⟩
      have e := hCR.kr.node' hk h60 (fun j hj => (hCR.kr.2 j hj).2.1) e
      subst e
      dsimp only [Option.toList, List.cons_append, List.nil_append]
      refine zr_aload_n hC dX0_whyShut_34 rfl ?_
      refine zs_getr hC dX0_whyShut_35 fl_X0_36 (a := 1) (r := 14) rfl (by decide) ?_
      refine zr_iload_n hC dX0_whyShut_38 rfl ?_
      refine zv_iald hC dX0_whyShut_39 (a := 14) (n := 16) rfl (by decide) (by decide) (j := m) rfl hm ((hCR.ar.1 m hm).trans (caI_pos c_21)) ?_
      refine zr_icmp_ge hC dX0_whyShut_40 (tgt := 45) (by decide) (fun c_40 => ?_) (fun c_40 => ?_)
      · rw [nI_leI (by omega) (by omega)] at c_40
        rw [if_neg (by omega)] at hQ
        refine zr_aload_n hC dX0_whyShut_45 rfl ?_
        refine zs_getr hC dX0_whyShut_46 fl_X0_12 (a := 1) (r := 2) rfl (by decide) ?_
        refine zr_iload_n hC dX0_whyShut_49 rfl ?_
        refine zs_callV hC (b := 2) [_] [] dX0_whyShut_50 ml_X0_90 mtX5_sits tX5_sits (by decide) (by decide) (by decide) rfl rfl (by decide) (by decide +kernel) (Nat.le_of_ble_eq_true rfl) rfl ?_
        refine ⟨2, m, rfl, Or.inl rfl, hm, fun r e => ?_⟩
        rcases e with ⟨rfl, hy⟩ | ⟨rfl, hy⟩
        · have hy : D 0 m ≠ 0 := fun q => hy ((hCR.sr.at0 hm).mpr q)
          rw [if_neg (fun q => hy q.1)] at hQ
          dsimp only [Option.toList, List.cons_append, List.nil_append]
          refine zr_if_ne hC dX0_whyShut_53 (tgt := 75) (by decide) (fun c_53 => ?_) (fun c => absurd c (by decide +kernel))
          refine zk_iconst hC dX0_whyShut_75 (v := nI 4) (by decide +kernel) ?_
          exact zr_ireturn hC hE dX0_whyShut_76 (hr _ _ (hQ))
        · have hy : D 0 m = 0 := (hCR.sr.at0 hm).mp hy
          dsimp only [Option.toList, List.cons_append, List.nil_append]
          refine zr_if_ne hC dX0_whyShut_53 (tgt := 75) (by decide) (fun c => absurd c (by decide +kernel)) (fun c_53 => ?_)
          refine zr_aload_n hC dX0_whyShut_56 rfl ?_
          refine zs_getr hC dX0_whyShut_57 fl_X0_21 (a := 1) (r := 5) rfl (by decide) ?_
          refine zr_iload_n hC dX0_whyShut_60 rfl ?_
          refine zs_callV hC (b := 5) [_] [] dX0_whyShut_61 ml_X0_182 mtX1_batchOf tX1_batchOf (by decide) (by decide) (by decide) rfl rfl (by decide) (by decide +kernel) (Nat.le_of_ble_eq_true rfl) rfl ?_
          refine ⟨_, D 6 0, rfl, hCR.kr.1, h60, fun r e => ?_⟩
          have e := hCR.kr.node' hk h60 (fun j hj => (hCR.kr.2 j hj).2.1) e
          subst e
          have h5 := hc3 c_21 hy
          dsimp only [Option.toList, List.cons_append, List.nil_append]
          refine zr_aload_n hC dX0_whyShut_64 rfl ?_
          refine zs_getr hC dX0_whyShut_65 fl_X0_40 (a := 1) (r := 15) rfl (by decide) ?_
          refine zr_iload_n hC dX0_whyShut_68 rfl ?_
          refine zv_iald hC dX0_whyShut_69 (a := 15) (n := 16) rfl (by decide) (by decide) (j := m) rfl hm ((hCR.ar.2.1 m hm c_21 hy).trans (caI_pos h5)) ?_
          refine zr_icmp_lt hC dX0_whyShut_70 (tgt := 75) (by decide) (fun c_70 => ?_) (fun c_70 => ?_)
          · rw [nI_ltI (by omega) (by omega)] at c_70
            rw [if_neg (by omega)] at hQ
            refine zk_iconst hC dX0_whyShut_75 (v := nI 4) (by decide +kernel) ?_
            exact zr_ireturn hC hE dX0_whyShut_76 (hr _ _ (hQ))
          · rw [z_nlt (by omega) (by omega)] at c_70
            rw [if_pos (by omega)] at hQ
            refine zk_iconst hC dX0_whyShut_73 (v := nI 3) (by decide +kernel) ?_
            exact zr_ireturn hC hE dX0_whyShut_74 (hr _ _ (hQ))
      · rw [z_nle (by omega) (by omega)] at c_40
        rw [if_pos (by omega)] at hQ
        refine zk_iconst hC dX0_whyShut_43 (v := nI 2) (by decide +kernel) ?_
        exact zr_ireturn hC hE dX0_whyShut_44 (hr _ _ (hQ))
    · rw [caI_m1 (by omega)] at c_21
      rw [if_pos c_21] at hQ
      refine zk_iconst hC dX0_whyShut_24 (v := nI 1) (by decide +kernel) ?_
      exact zr_ireturn hC hE dX0_whyShut_25 (hr _ _ (hQ))
set_option maxHeartbeats 4000000 in
set_option maxRecDepth 100000 in
theorem l0_needed {C : zCx} {τ : Nat → ClassId} {ι : Nat → Nat} (hC : zOK C τ (zrm 2 0 0) yX0_lettersNeeded.cls cX0_lettersNeeded 5) {S : zS} {D : zD} {m : Nat} (hm : m < 16) (hCR : CR S D) (hI : INV D) (h60 : D 6 0 ≤ 232) (h61 : D 6 1 ≤ 189) (k : ∀ lv, zlk 2 lv = some (.int (nI (fa_cnt (nlp D m) (D 6 1)))) → zR C τ ι 5 0 0 83 lv [] (zcells S)) : ∀ (n i : Nat), i + n = D 6 1 → zR C τ ι 5 0 0 4 [(0, .ref 1), (1, .int (nI m)), (2, .int (nI (fa_cnt (nlp D m) i))), (3, .int (nI i))] [] (zcells S) := by
  intro n
  induction n with
  | zero =>
    intro i hi
    refine zr_iload_n hC dX0_lettersNeeded_4 rfl ?_
    refine zr_aload_n hC dX0_lettersNeeded_5 rfl ?_
    refine zs_getr hC dX0_lettersNeeded_6 fl_X0_28 (a := 1) (r := 10) rfl (by decide) ?_
    refine zv_geti hC dX0_lettersNeeded_9 fl_X0_84 (a := 10) rfl (by decide) (hCR.lr.1) ?_
    refine zr_icmp_ge hC dX0_lettersNeeded_12 (tgt := 83) (by decide) (fun c_12 => ?_) (fun c => absurd c (not_not_intro (nI_le (by omega) (by omega))))
    exact k _ (by rw [show D 6 1 = i by omega]; rfl)
  | succ n ih =>
    intro i hi
    have hlr := hI.lets (show i < D 6 1 by omega)
    have hlt := hCR.lr.2 i (by omega)
    have h62 : 1 ≤ D 6 2 := by
      rcases Nat.eq_zero_or_pos (D 6 2) with q | q
      · have := hI.none q; omega
      · exact q
    have hbt := hI.batches
    have hkn := hI.keys hlr.2.1
    refine zr_iload_n hC dX0_lettersNeeded_4 rfl ?_
    refine zr_aload_n hC dX0_lettersNeeded_5 rfl ?_
    refine zs_getr hC dX0_lettersNeeded_6 fl_X0_28 (a := 1) (r := 10) rfl (by decide) ?_
    refine zv_geti hC dX0_lettersNeeded_9 fl_X0_84 (a := 10) rfl (by decide) (hCR.lr.1) ?_
    refine zr_icmp_ge hC dX0_lettersNeeded_12 (tgt := 83) (by decide) (fun c => absurd c (nI_ge (by omega) (by omega))) (fun c_12 => ?_)
    refine zr_aload_n hC dX0_lettersNeeded_15 rfl ?_
    refine zs_getr hC dX0_lettersNeeded_16 fl_X0_21 (a := 1) (r := 5) rfl (by decide) ?_
    refine zr_aload_n hC dX0_lettersNeeded_19 rfl ?_
    refine zs_getr hC dX0_lettersNeeded_20 fl_X0_28 (a := 1) (r := 10) rfl (by decide) ?_
    refine zs_getr hC dX0_lettersNeeded_23 fl_X0_171 (a := 10) (r := 12) rfl (by decide) ?_
    refine zr_iload_n hC dX0_lettersNeeded_26 rfl ?_
    refine zv_iald hC dX0_lettersNeeded_27 (a := 12) (n := 192) rfl (by decide) (by decide) (j := i) rfl (by omega) (hlt.2.1) ?_
    refine zs_callV hC (b := 5) [_] [] dX0_lettersNeeded_28 ml_X0_185 mtX1_nodeOf tX1_nodeOf (by decide) (by decide) (by decide) rfl rfl (by decide) (by decide +kernel) (Nat.le_of_ble_eq_true rfl) rfl ?_
    refine ⟨_, D 6 0, rfl, hCR.kr.1, h60, fun r e => ?_⟩
    have e := hCR.kr.node hlr.2.1 h60 (fun j hj => (hCR.kr.2 j hj).1) e
    subst e
    dsimp only [Option.toList, List.cons_append, List.nil_append]
    refine zr_istore hC dX0_lettersNeeded_31 (by decide) ?_
    refine zr_aload_n hC dX0_lettersNeeded_33 rfl ?_
    refine zs_getr hC dX0_lettersNeeded_34 fl_X0_28 (a := 1) (r := 10) rfl (by decide) ?_
    refine zs_getr hC dX0_lettersNeeded_37 fl_X0_188 (a := 10) (r := 13) rfl (by decide) ?_
    refine zr_iload_n hC dX0_lettersNeeded_40 rfl ?_
    refine zv_iald hC dX0_lettersNeeded_41 (a := 13) (n := 192) rfl (by decide) (by decide) (j := i) rfl (by omega) (hlt.2.2) ?_
    refine zr_aload_n hC dX0_lettersNeeded_42 rfl ?_
    refine zv_geti hC dX0_lettersNeeded_43 fl_X0_71 (a := 1) rfl (by decide) (hCR.qr.1) ?_
    refine zk_iconst hC dX0_lettersNeeded_46 (v := nI 1) (by decide +kernel) ?_
    refine zn_isub hC dX0_lettersNeeded_47 (pk_sub h62) ?_
    refine zr_icmp_ne hC dX0_lettersNeeded_48 (tgt := 77) (by decide) (fun c_48 => ?_) (fun c_48 => ?_)
    · have hz1n : D 12 i ≠ D 6 2 := fun q => c_48 ((lb_eq (by omega) h62 (by omega)).mpr q)
      refine zn_iinc hC dX0_lettersNeeded_77 rfl (by decide) (zk_inc _ 1) ?_
      refine zr_goto hC dX0_lettersNeeded_80 (tgt := 4) (by decide) ?_
      first
        | exact zR_sub [(0, .ref 1), (1, .int (nI m)), (2, .int (nI (fa_cnt (nlp D m) (i + 1)))), (3, .int (nI (i + 1)))] ⟨rfl, rfl, zlk_eq rfl (fa_cnt_yes (nlp_y hz1 hz2 hz3)).symm, rfl, trivial⟩ (ih (i + 1) (by omega))
        | exact zR_sub [(0, .ref 1), (1, .int (nI m)), (2, .int (nI (fa_cnt (nlp D m) (i + 1)))), (3, .int (nI (i + 1)))] ⟨rfl, rfl, zlk_eq rfl (fa_cnt_no (nlp_1 hz1n)).symm, rfl, trivial⟩ (ih (i + 1) (by omega))
        | exact zR_sub [(0, .ref 1), (1, .int (nI m)), (2, .int (nI (fa_cnt (nlp D m) (i + 1)))), (3, .int (nI (i + 1)))] ⟨rfl, rfl, zlk_eq rfl (fa_cnt_no (nlp_2 c_54)).symm, rfl, trivial⟩ (ih (i + 1) (by omega))
        | exact zR_sub [(0, .ref 1), (1, .int (nI m)), (2, .int (nI (fa_cnt (nlp D m) (i + 1)))), (3, .int (nI (i + 1)))] ⟨rfl, rfl, zlk_eq rfl (fa_cnt_no (nlp_3 hz3)).symm, rfl, trivial⟩ (ih (i + 1) (by omega))
    · have hz1 : D 12 i = D 6 2 := (lb_eq (by omega) h62 (by omega)).mp c_48
      refine zr_iload hC dX0_lettersNeeded_51 rfl ?_
      refine zk_iconst hC dX0_lettersNeeded_53 (v := nI 1) (by decide +kernel) ?_
      refine zr_icmp_le hC dX0_lettersNeeded_54 (tgt := 77) (by decide) (fun c_54 => ?_) (fun c_54 => ?_)
      · rw [nI_leI (by omega) (by decide)] at c_54
        refine zn_iinc hC dX0_lettersNeeded_77 rfl (by decide) (zk_inc _ 1) ?_
        refine zr_goto hC dX0_lettersNeeded_80 (tgt := 4) (by decide) ?_
        first
          | exact zR_sub [(0, .ref 1), (1, .int (nI m)), (2, .int (nI (fa_cnt (nlp D m) (i + 1)))), (3, .int (nI (i + 1)))] ⟨rfl, rfl, zlk_eq rfl (fa_cnt_yes (nlp_y hz1 hz2 hz3)).symm, rfl, trivial⟩ (ih (i + 1) (by omega))
          | exact zR_sub [(0, .ref 1), (1, .int (nI m)), (2, .int (nI (fa_cnt (nlp D m) (i + 1)))), (3, .int (nI (i + 1)))] ⟨rfl, rfl, zlk_eq rfl (fa_cnt_no (nlp_1 hz1n)).symm, rfl, trivial⟩ (ih (i + 1) (by omega))
          | exact zR_sub [(0, .ref 1), (1, .int (nI m)), (2, .int (nI (fa_cnt (nlp D m) (i + 1)))), (3, .int (nI (i + 1)))] ⟨rfl, rfl, zlk_eq rfl (fa_cnt_no (nlp_2 c_54)).symm, rfl, trivial⟩ (ih (i + 1) (by omega))
          | exact zR_sub [(0, .ref 1), (1, .int (nI m)), (2, .int (nI (fa_cnt (nlp D m) (i + 1)))), (3, .int (nI (i + 1)))] ⟨rfl, rfl, zlk_eq rfl (fa_cnt_no (nlp_3 hz3)).symm, rfl, trivial⟩ (ih (i + 1) (by omega))
      · rw [z_nle (by omega) (by decide)] at c_54
        have hz2 : 1 < D 7 (D 11 i) := c_54
        refine zr_aload_n hC dX0_lettersNeeded_57 rfl ?_
        refine zs_getr hC dX0_lettersNeeded_58 fl_X0_12 (a := 1) (r := 2) rfl (by decide) ?_
        refine zs_getr hC dX0_lettersNeeded_61 fl_X0_190 (a := 2) (r := 4) rfl (by decide) ?_
        refine zr_iload hC dX0_lettersNeeded_64 rfl ?_
        refine zv_iald hC dX0_lettersNeeded_66 (a := 4) (n := 32) rfl (by decide) (by decide) (j := D 7 (D 11 i)) rfl (by omega) (hCR.sr.2.1 _ (by omega) (by omega)) ?_
        refine zr_iload_n hC dX0_lettersNeeded_67 rfl ?_
        refine zs_callSN hC [_, _] [] dX0_lettersNeeded_68 mn_X0_94 mtX8_has tX8_has (by decide) (by decide) (by decide) rfl (Nat.le_of_ble_eq_true rfl) rfl ?_
        refine ⟨_, m, rfl, by omega, fun r e => ?_⟩
        rw [dm_bt hm] at e
        rcases e with ⟨rfl, hz3⟩ | ⟨rfl, hz3⟩
        · dsimp only [Option.toList, List.cons_append, List.nil_append]
          refine zr_if_eq hC dX0_lettersNeeded_71 (tgt := 77) (by decide) (fun c => absurd c (by decide +kernel)) (fun c_71 => ?_)
          refine zn_iinc hC dX0_lettersNeeded_74 rfl (by decide) (zk_inc _ 1) ?_
          refine zn_iinc hC dX0_lettersNeeded_77 rfl (by decide) (zk_inc _ 1) ?_
          refine zr_goto hC dX0_lettersNeeded_80 (tgt := 4) (by decide) ?_
          first
            | exact zR_sub [(0, .ref 1), (1, .int (nI m)), (2, .int (nI (fa_cnt (nlp D m) (i + 1)))), (3, .int (nI (i + 1)))] ⟨rfl, rfl, zlk_eq rfl (fa_cnt_yes (nlp_y hz1 hz2 hz3)).symm, rfl, trivial⟩ (ih (i + 1) (by omega))
            | exact zR_sub [(0, .ref 1), (1, .int (nI m)), (2, .int (nI (fa_cnt (nlp D m) (i + 1)))), (3, .int (nI (i + 1)))] ⟨rfl, rfl, zlk_eq rfl (fa_cnt_no (nlp_1 hz1n)).symm, rfl, trivial⟩ (ih (i + 1) (by omega))
            | exact zR_sub [(0, .ref 1), (1, .int (nI m)), (2, .int (nI (fa_cnt (nlp D m) (i + 1)))), (3, .int (nI (i + 1)))] ⟨rfl, rfl, zlk_eq rfl (fa_cnt_no (nlp_2 c_54)).symm, rfl, trivial⟩ (ih (i + 1) (by omega))
            | exact zR_sub [(0, .ref 1), (1, .int (nI m)), (2, .int (nI (fa_cnt (nlp D m) (i + 1)))), (3, .int (nI (i + 1)))] ⟨rfl, rfl, zlk_eq rfl (fa_cnt_no (nlp_3 hz3)).symm, rfl, trivial⟩ (ih (i + 1) (by omega))
        · dsimp only [Option.toList, List.cons_append, List.nil_append]
          refine zr_if_eq hC dX0_lettersNeeded_71 (tgt := 77) (by decide) (fun c_71 => ?_) (fun c => absurd c (by decide +kernel))
          refine zn_iinc hC dX0_lettersNeeded_77 rfl (by decide) (zk_inc _ 1) ?_
          refine zr_goto hC dX0_lettersNeeded_80 (tgt := 4) (by decide) ?_
          first
            | exact zR_sub [(0, .ref 1), (1, .int (nI m)), (2, .int (nI (fa_cnt (nlp D m) (i + 1)))), (3, .int (nI (i + 1)))] ⟨rfl, rfl, zlk_eq rfl (fa_cnt_yes (nlp_y hz1 hz2 hz3)).symm, rfl, trivial⟩ (ih (i + 1) (by omega))
            | exact zR_sub [(0, .ref 1), (1, .int (nI m)), (2, .int (nI (fa_cnt (nlp D m) (i + 1)))), (3, .int (nI (i + 1)))] ⟨rfl, rfl, zlk_eq rfl (fa_cnt_no (nlp_1 hz1n)).symm, rfl, trivial⟩ (ih (i + 1) (by omega))
            | exact zR_sub [(0, .ref 1), (1, .int (nI m)), (2, .int (nI (fa_cnt (nlp D m) (i + 1)))), (3, .int (nI (i + 1)))] ⟨rfl, rfl, zlk_eq rfl (fa_cnt_no (nlp_2 c_54)).symm, rfl, trivial⟩ (ih (i + 1) (by omega))
            | exact zR_sub [(0, .ref 1), (1, .int (nI m)), (2, .int (nI (fa_cnt (nlp D m) (i + 1)))), (3, .int (nI (i + 1)))] ⟨rfl, rfl, zlk_eq rfl (fa_cnt_no (nlp_3 hz3)).symm, rfl, trivial⟩ (ih (i + 1) (by omega))
def spX0_lettersNeeded : zSp := fun av S Q => ∃ (m : Nat) (D : zD), av = [.ref 1, .int (nI m)] ∧ m < 16 ∧ CR S D ∧ INV D ∧ Q (some (.int (nI (fa_cnt (nlp D m) (D 6 1))))) S
set_option maxHeartbeats 4000000 in
set_option maxRecDepth 100000 in
theorem tX0_lettersNeeded : zM yX0_lettersNeeded cX0_lettersNeeded 5 (some .int) 2 spX0_lettersNeeded := by
  refine zM.of (by decide) (by decide) (fun av S Q h => by obtain ⟨m, D, rfl, hm, hCR, hI, hQ⟩ := h; exact Nat.le_of_ble_eq_true rfl) (fun C τ ι av S Q Qr h hr hC hE => ?_)
  obtain ⟨m, D, rfl, hm, hCR, hI, hQ⟩ := h
  show zR C τ ι _ 0 0 0 [(0, .ref 1), (1, .int (nI m))] [] _
  refine zk_iconst hC dX0_lettersNeeded_0 (v := nI 0) (by decide +kernel) ?_
  refine zr_istore_n hC dX0_lettersNeeded_1 (by decide) ?_
  refine zk_iconst hC dX0_lettersNeeded_2 (v := nI 0) (by decide +kernel) ?_
  refine zr_istore_n hC dX0_lettersNeeded_3 (by decide) ?_
  refine zR_sub [(0, .ref 1), (1, .int (nI m)), (2, .int (nI (fa_cnt (nlp D m) 0))), (3, .int (nI 0))] ⟨rfl, rfl, rfl, rfl, trivial⟩ ?_
  refine l0_needed hC hm hCR hI (by have := hI.made; omega) hI.written (fun lv hlv => ?_) (D 6 1) 0 (by omega)
  refine zr_iload_n hC dX0_lettersNeeded_83 hlv ?_
  exact zr_ireturn hC hE dX0_lettersNeeded_84 (hr _ _ hQ)
