/-! THE MODEL'S ROW tells the document's state -/
def mfld : Nat → Nat
  | 0 => 0
  | 1 => 2
  | 2 => 3
  | 3 => 1
  | 4 => 4
  | _ => 5
/-- bounds that the packed numbers want -/
def MB (D : zD) : Prop := D 6 0 ≤ 230 ∧ D 6 1 ≤ 190 ∧ D 6 2 ≤ 5000 ∧ (∀ m, m < 16 → D 0 m < 32 ∧ D 1 m < 3 ∧ D 2 m < 2) ∧ (∀ k, k < D 6 0 → D 7 k < 32 ∧ D 8 k < 5000) ∧ ∀ i, i < D 6 1 → D 10 i < 256 ∧ D 11 i < 256 ∧ D 12 i ≤ 5001
def MWr (f : Nat → Int32) (D : zD) : Prop := (f 0 = nI (D 6 0) ∧ f 1 = nI (D 6 1) ∧ f 2 = nI (D 6 2) ∧ f 3 = nI (D 6 3)) ∧ (∀ m w, m < 16 → w < 6 → f (4 + 6 * m + w) = nI (D (mfld w) m)) ∧ (∀ k, k < D 6 0 → f (100 + k) = nI (D 7 k + 32 * D 8 k) ∧ f (330 + k) = nI (D 9 k)) ∧ ∀ i, i < D 6 1 → f (560 + i) = nI (D 10 i + 256 * D 11 i + 65536 * D 12 i)
def MW (f : Nat → Int32) (D : zD) : Prop := MWr f D ∧ MB D
theorem INV.mb {D : zD} (h : INV D) : MB D := by
  have h1 := h.made
  have h2 := h.written
  have h3 := h.batches
  refine ⟨h1, by omega, by omega, fun m hm => ⟨h.ok.lt hm, ?_, ?_⟩, fun k hk => ?_, fun i hi => ?_⟩
  · rcases h.told hm with q | q | q <;> omega
  · rcases h.late hm with q | q <;> omega
  · have := h.keys hk; omega
  · have := h.lets hi; omega
theorem sh_1 (x : Int32) (b : Nat) (hb : b < 32) : x >>> (nI b &&& 31) &&& nI 1 = zb (bt x b) := by
  apply b_ext
  intro i hi
  rw [b_and, b_sshr b hb _ hi]
  have h1 : ∀ i, i < 32 → bt (nI 1) i = decide (i = 0) := by decide +kernel
  have h0 : ∀ i, i < 32 → bt (nI 0) i = false := by decide +kernel
  rw [h1 i hi]
  by_cases hz : i = 0
  · subst hz
    rw [if_pos (by omega)]
    cases h : bt x b <;> simp [zb, h, h1, h0]
  · cases h : bt x b <;> simp [zb, hz, h1 i hi, h0 i hi]
theorem z_one {x lo hi : Int32} {v l h : Int64} (hv : v = x.toInt64) (hl : l = lo.toInt64) (hh : h = hi.toInt64) : (v < l ↔ x < lo) ∧ (h < v ↔ hi < x) := by
  subst hv hl hh
  exact ⟨fa_wide_lt _ _, fa_wide_lt _ _⟩
def spX9_in : zSp := fun av S Q => ∃ v lo hi : Int64, av = [.long v, .long lo, .long hi] ∧ ∀ r, (r = nI 1 ∧ ¬ v < lo ∧ ¬ hi < v) ∨ (r = nI 0 ∧ (v < lo ∨ hi < v)) → Q (some (.int r)) S
set_option maxHeartbeats 4000000 in
set_option maxRecDepth 100000 in
theorem tX9_in : zM yX9_in cX9_in 6 (some .boolean) 0 spX9_in := by
  refine zM.of (by decide) (by decide) (fun av S Q h => by obtain ⟨v, lo, hi, rfl, hQ⟩ := h; exact Nat.le_of_ble_eq_true rfl) (fun C τ ι av S Q Qr h hr hC hE => ?_)
  obtain ⟨v, lo, hi, rfl, hQ⟩ := h
  show zR C τ ι _ 0 0 0 [(0, .long v), (2, .long lo), (4, .long hi)] [] _
  refine zr_lload_n hC dX9_in_0 rfl ?_
  refine zr_lload_n hC dX9_in_1 rfl ?_
  refine zr_lcmp hC dX9_in_2 ?_
  refine zr_if_lt hC dX9_in_3 (tgt := 17) (by decide) (fun c_3 => ?_) (fun c_3 => ?_)
  · rw [lg_cmp_lt] at c_3
    refine zk_iconst hC dX9_in_17 (v := nI 0) (by decide +kernel) ?_
    exact zr_zreturn hC hE dX9_in_18 (by first | exact Or.inl rfl | exact Or.inr rfl) (hr _ _ (hQ _ (by first | exact Or.inr ⟨rfl, Or.inl c_3⟩ | exact Or.inr ⟨rfl, Or.inr c_10⟩ | exact Or.inl ⟨rfl, c_3, c_10⟩)))
  · rw [lg_cmp_lt] at c_3
    refine zr_lload_n hC dX9_in_6 rfl ?_
    refine zr_lload hC dX9_in_7 rfl ?_
    refine zr_lcmp hC dX9_in_9 ?_
    refine zr_if_gt hC dX9_in_10 (tgt := 17) (by decide) (fun c_10 => ?_) (fun c_10 => ?_)
    · rw [lg_cmp_gt] at c_10
      refine zk_iconst hC dX9_in_17 (v := nI 0) (by decide +kernel) ?_
      exact zr_zreturn hC hE dX9_in_18 (by first | exact Or.inl rfl | exact Or.inr rfl) (hr _ _ (hQ _ (by first | exact Or.inr ⟨rfl, Or.inl c_3⟩ | exact Or.inr ⟨rfl, Or.inr c_10⟩ | exact Or.inl ⟨rfl, c_3, c_10⟩)))
    · rw [lg_cmp_gt] at c_10
      refine zk_iconst hC dX9_in_13 (v := nI 1) (by decide +kernel) ?_
      refine zr_goto hC dX9_in_14 (tgt := 18) (by decide) ?_
      exact zr_zreturn hC hE dX9_in_18 (by first | exact Or.inl rfl | exact Or.inr rfl) (hr _ _ (hQ _ (by first | exact Or.inr ⟨rfl, Or.inl c_3⟩ | exact Or.inr ⟨rfl, Or.inr c_10⟩ | exact Or.inl ⟨rfl, c_3, c_10⟩)))
def spX9_has : zSp := fun av S Q => ∃ (x : Int32) (b : Nat), av = [.int x, .int (nI b)] ∧ b < 32 ∧ ∀ r, (r = nI 1 ∧ bt x b = true) ∨ (r = nI 0 ∧ bt x b = false) → Q (some (.int r)) S
set_option maxHeartbeats 4000000 in
set_option maxRecDepth 100000 in
theorem tX9_has : zM yX9_has cX9_has 2 (some .boolean) 0 spX9_has := by
  refine zM.of (by decide) (by decide) (fun av S Q h => by obtain ⟨x, b, rfl, hb, hQ⟩ := h; exact Nat.le_of_ble_eq_true rfl) (fun C τ ι av S Q Qr h hr hC hE => ?_)
  obtain ⟨x, b, rfl, hb, hQ⟩ := h
  show zR C τ ι _ 0 0 0 [(0, .int x), (1, .int (nI b))] [] _
  refine zr_iload_n hC dX9_has_0 rfl ?_
  refine zr_iload_n hC dX9_has_1 rfl ?_
  refine zr_ishr hC dX9_has_2 ?_
  refine zk_iconst hC dX9_has_3 (v := nI 1) (by decide +kernel) ?_
  refine zn_iand hC dX9_has_4 (sh_1 x b hb) ?_
  refine zk_iconst hC dX9_has_5 (v := nI 1) (by decide +kernel) ?_
  refine zr_icmp_ne hC dX9_has_6 (tgt := 13) (by decide) (fun c_6 => ?_) (fun c_6 => ?_)
  · have hx : bt x b = false := by cases h : bt x b with | false => rfl | true => exact absurd (by rw [h]; rfl) c_6
    refine zk_iconst hC dX9_has_13 (v := nI 0) (by decide +kernel) ?_
    exact zr_zreturn hC hE dX9_has_14 (by first | exact Or.inl rfl | exact Or.inr rfl) (hr _ _ (hQ _ (by first | exact Or.inl ⟨rfl, hx⟩ | exact Or.inr ⟨rfl, hx⟩)))
  · have hx : bt x b = true := by cases h : bt x b with | true => rfl | false => rw [h] at c_6; exact absurd c_6 (by decide +kernel)
    refine zk_iconst hC dX9_has_9 (v := nI 1) (by decide +kernel) ?_
    refine zr_goto hC dX9_has_10 (tgt := 14) (by decide) ?_
    exact zr_zreturn hC hE dX9_has_14 (by first | exact Or.inl rfl | exact Or.inr rfl) (hr _ _ (hQ _ (by first | exact Or.inl ⟨rfl, hx⟩ | exact Or.inr ⟨rfl, hx⟩)))
theorem z_15 {x : Int32} (h : nI 15 < x) : nI 16 ≤ x := by
  rw [Int32.lt_iff_toInt_lt, nI_toInt (by decide)] at h
  rw [Int32.le_iff_toInt_le, nI_toInt (by decide)]
  omega
def spX9_isMember : zSp := fun av S Q => ∃ x : Int32, av = [.int x] ∧ ∀ r, (r = nI 1 ∧ ∃ j, j < 16 ∧ x = nI j) ∨ (r = nI 0 ∧ (x < 0 ∨ nI 16 ≤ x)) → Q (some (.int r)) S
set_option maxHeartbeats 4000000 in
set_option maxRecDepth 100000 in
theorem tX9_isMember : zM yX9_isMember cX9_isMember 1 (some .boolean) 1 spX9_isMember := by
  refine zM.of (by decide) (by decide) (fun av S Q h => by obtain ⟨x, rfl, hQ⟩ := h; exact Nat.le_of_ble_eq_true rfl) (fun C τ ι av S Q Qr h hr hC hE => ?_)
  obtain ⟨x, rfl, hQ⟩ := h
  show zR C τ ι _ 0 0 0 [(0, .int x)] [] _
  refine zr_iload_n hC dX9_isMember_0 rfl ?_
  refine zr_i2l hC dX9_isMember_1 ?_
  refine zr_lconst hC dX9_isMember_2 ?_
  refine zr_ldc2 hC dX9_isMember_3 kl_X9_58 ?_
  refine zs_callS hC [_, _, _] [] dX9_isMember_6 ml_X9_60 mtX9_in tX9_in (by decide) (by decide) (by decide) rfl (Nat.le_of_ble_eq_true rfl) rfl ?_
  refine ⟨_, _, _, rfl, fun r e => ?_⟩
  obtain ⟨q1, q2⟩ := z_one (x := x) (lo := nI 0) (hi := nI 15) rfl (show Int64.ofNat 0 = _ by decide +kernel) (show (15 : Int64) = _ by decide +kernel)
  have e : (r = nI 1 ∧ ¬ x < nI 0 ∧ ¬ nI 15 < x) ∨ (r = nI 0 ∧ (x < nI 0 ∨ nI 15 < x)) := by
    rcases e with ⟨e, e1, e2⟩ | ⟨e, e1⟩
    · exact Or.inl ⟨e, fun q => e1 (q1.mpr q), fun q => e2 (q2.mpr q)⟩
    · exact Or.inr ⟨e, e1.imp q1.mp q2.mp⟩
  rcases e with ⟨rfl, e1, e2⟩ | ⟨rfl, e1⟩
  · dsimp only [Option.toList, List.cons_append, List.nil_append]
    exact zr_zreturn hC hE dX9_isMember_9 (by first | exact Or.inl rfl | exact Or.inr rfl) (hr _ _ (hQ _ (by first | exact Or.inl ⟨rfl, by obtain ⟨j, j1, j2, j3⟩ := rg_in e1 e2 (by decide) (by decide); exact ⟨j, by omega, j3⟩⟩ | exact Or.inr ⟨rfl, e1.imp id z_15⟩)))
  · dsimp only [Option.toList, List.cons_append, List.nil_append]
    exact zr_zreturn hC hE dX9_isMember_9 (by first | exact Or.inl rfl | exact Or.inr rfl) (hr _ _ (hQ _ (by first | exact Or.inl ⟨rfl, by obtain ⟨j, j1, j2, j3⟩ := rg_in e1 e2 (by decide) (by decide); exact ⟨j, by omega, j3⟩⟩ | exact Or.inr ⟨rfl, e1.imp id z_15⟩)))
theorem z_addb (a : Nat) (b : Bool) : nI a + zb b = nI (a + if b = true then 1 else 0) := by cases b <;> exact nI_add _ _
set_option maxHeartbeats 4000000 in
set_option maxRecDepth 100000 in
theorem l9_bits {C : zCx} {τ : Nat → ClassId} {ι : Nat → Nat} (hC : zOK C τ (zrm 0 0 0) yX9_bits.cls cX9_bits 3) {S : zS} {n : Nat} (k : ∀ lv, zlk 1 lv = some (.int (nI (pcn 16 n))) → zR C τ ι 3 0 0 24 lv [] (zcells S)) : ∀ (d i : Nat), i + d = 16 → zR C τ ι 3 0 0 4 [(0, .int (nI n)), (1, .int (nI (pcn i n))), (2, .int (nI i))] [] (zcells S) := by
  intro d
  induction d with
  | zero =>
    intro i hi
    refine zr_iload_n hC dX9_bits_4 rfl ?_
    refine zk_bipush hC dX9_bits_5 (v := nI 16) (by decide +kernel) ?_
    refine zr_icmp_ge hC dX9_bits_7 (tgt := 24) (by decide) (fun c_7 => ?_) (fun c => absurd c (not_not_intro (nI_le (by omega) (by omega))))
    exact k _ (by obtain rfl : i = 16 := (by omega); rfl)
  | succ d ih =>
    intro i hi
    refine zr_iload_n hC dX9_bits_4 rfl ?_
    refine zk_bipush hC dX9_bits_5 (v := nI 16) (by decide +kernel) ?_
    refine zr_icmp_ge hC dX9_bits_7 (tgt := 24) (by decide) (fun c => absurd c (nI_ge (by omega) (by omega))) (fun c_7 => ?_)
    refine zr_iload_n hC dX9_bits_10 rfl ?_
    refine zr_iload_n hC dX9_bits_11 rfl ?_
    refine zr_iload_n hC dX9_bits_12 rfl ?_
    refine zr_ishr hC dX9_bits_13 ?_
    refine zk_iconst hC dX9_bits_14 (v := nI 1) (by decide +kernel) ?_
    refine zn_iand hC dX9_bits_15 (sh_1 _ i (by omega)) ?_
    refine zn_iadd hC dX9_bits_16 (z_addb (pcn i n) _) ?_
    refine zr_istore_n hC dX9_bits_17 (by decide) ?_
    refine zn_iinc hC dX9_bits_18 rfl (by decide) (zk_inc _ 1) ?_
    refine zr_goto hC dX9_bits_21 (tgt := 4) (by decide) ?_
    exact zR_sub [(0, .int (nI n)), (1, .int (nI (pcn (i + 1) n))), (2, .int (nI (i + 1)))] ⟨rfl, zlk_eq rfl (by rw [pcn, bt_nI _ _ (by omega), Nat.add_comm]), rfl, trivial⟩ (ih (i + 1) (by omega))
def spX9_bits : zSp := fun av S Q => ∃ n : Nat, av = [.int (nI n)] ∧ Q (some (.int (nI (pcn 16 n)))) S
set_option maxHeartbeats 4000000 in
set_option maxRecDepth 100000 in
theorem tX9_bits : zM yX9_bits cX9_bits 3 (some .int) 0 spX9_bits := by
  refine zM.of (by decide) (by decide) (fun av S Q h => by obtain ⟨n, rfl, hQ⟩ := h; exact Nat.le_of_ble_eq_true rfl) (fun C τ ι av S Q Qr h hr hC hE => ?_)
  obtain ⟨n, rfl, hQ⟩ := h
  show zR C τ ι _ 0 0 0 [(0, .int (nI n))] [] _
  refine zk_iconst hC dX9_bits_0 (v := nI 0) (by decide +kernel) ?_
  refine zr_istore_n hC dX9_bits_1 (by decide) ?_
  refine zk_iconst hC dX9_bits_2 (v := nI 0) (by decide +kernel) ?_
  refine zr_istore_n hC dX9_bits_3 (by decide) ?_
  refine zR_sub [(0, .int (nI n)), (1, .int (nI (pcn 0 n))), (2, .int (nI 0))] ⟨rfl, rfl, rfl, trivial⟩ (l9_bits hC (fun lv h => ?_) 16 0 (by omega))
  refine zr_iload_n hC dX9_bits_24 h ?_
  exact zr_ireturn hC hE dX9_bits_25 (hr _ _ hQ)
def spX9_of : zSp := fun av S Q => ∃ (m w : Nat), av = [.ref 245, .int (nI m), .int (nI w)] ∧ m < 16 ∧ w < 6 ∧ Q (some (.int (S.1 246 (4 + 6 * m + w)))) S
set_option maxHeartbeats 4000000 in
set_option maxRecDepth 100000 in
theorem tX9_of : zM yX9_of cX9_of 3 (some .int) 0 spX9_of := by
  refine zM.of (by decide) (by decide) (fun av S Q h => by obtain ⟨m, w, rfl, hm, hw, hQ⟩ := h; exact Nat.le_of_ble_eq_true rfl) (fun C τ ι av S Q Qr h hr hC hE => ?_)
  obtain ⟨m, w, rfl, hm, hw, hQ⟩ := h
  show zR C τ ι _ 0 0 0 [(0, .ref 245), (1, .int (nI m)), (2, .int (nI w))] [] _
  refine zr_aload_n hC dX9_of_0 rfl ?_
  refine zs_getr hC dX9_of_1 fl_X9_7 (a := 245) (r := 246) rfl (by decide) ?_
  refine zk_iconst hC dX9_of_4 (v := nI 4) (by decide +kernel) ?_
  refine zk_bipush hC dX9_of_5 (v := nI 6) (by decide +kernel) ?_
  refine zr_iload_n hC dX9_of_7 rfl ?_
  refine zn_imul hC dX9_of_8 (pk_mul _ _) ?_
  refine zn_iadd hC dX9_of_9 (nI_add _ _) ?_
  refine zr_iload_n hC dX9_of_10 rfl ?_
  refine zn_iadd hC dX9_of_11 (nI_add _ _) ?_
  refine zs_iald hC dX9_of_12 (a := 246) (n := 752) rfl (by decide) (by decide) (j := 4 + 6 * m + w) rfl (by omega) ?_
  exact zr_ireturn hC hE dX9_of_13 (hr _ _ (hQ))
def spX9_put : zSp := fun av S Q => ∃ (m w : Nat) (x : Int32), av = [.ref 245, .int (nI m), .int (nI w), .int x] ∧ m < 16 ∧ w < 6 ∧ Q none (zput S 246 (4 + 6 * m + w) x)
set_option maxHeartbeats 4000000 in
set_option maxRecDepth 100000 in
theorem tX9_put : zM yX9_put cX9_put 4 none 0 spX9_put := by
  refine zM.of (by decide) (by decide) (fun av S Q h => by obtain ⟨m, w, x, rfl, hm, hw, hQ⟩ := h; exact Nat.le_of_ble_eq_true rfl) (fun C τ ι av S Q Qr h hr hC hE => ?_)
  obtain ⟨m, w, x, rfl, hm, hw, hQ⟩ := h
  show zR C τ ι _ 0 0 0 [(0, .ref 245), (1, .int (nI m)), (2, .int (nI w)), (3, .int x)] [] _
  refine zr_aload_n hC dX9_put_0 rfl ?_
  refine zs_getr hC dX9_put_1 fl_X9_7 (a := 245) (r := 246) rfl (by decide) ?_
  refine zk_iconst hC dX9_put_4 (v := nI 4) (by decide +kernel) ?_
  refine zk_bipush hC dX9_put_5 (v := nI 6) (by decide +kernel) ?_
  refine zr_iload_n hC dX9_put_7 rfl ?_
  refine zn_imul hC dX9_put_8 (pk_mul _ _) ?_
  refine zn_iadd hC dX9_put_9 (nI_add _ _) ?_
  refine zr_iload_n hC dX9_put_10 rfl ?_
  refine zn_iadd hC dX9_put_11 (nI_add _ _) ?_
  refine zr_iload_n hC dX9_put_12 rfl ?_
  refine zs_iast hC dX9_put_13 (a := 246) (n := 752) rfl (by decide) (by decide) (j := 4 + 6 * m + w) rfl (by omega) ?_
  exact zr_vreturn hC hE dX9_put_14 (hr _ _ (hQ))
theorem MW.mem {f : Nat → Int32} {D : zD} (h : MW f D) {m w : Nat} (hm : m < 16) (hw : w < 6) : f (4 + 6 * m + w) = nI (D (mfld w) m) := h.1.2.1 m w hm hw
theorem MW.lt0 {f : Nat → Int32} {D : zD} (h : MW f D) {m : Nat} (hm : m < 16) : D 0 m < 32 := (h.2.2.2.2.1 m hm).1
theorem MW.lt1 {f : Nat → Int32} {D : zD} (h : MW f D) {m : Nat} (hm : m < 16) : D 1 m < 3 := (h.2.2.2.2.1 m hm).2.1
theorem MW.lt2 {f : Nat → Int32} {D : zD} (h : MW f D) {m : Nat} (hm : m < 16) : D 2 m < 2 := (h.2.2.2.2.1 m hm).2.2
theorem MW.made {f : Nat → Int32} {D : zD} (h : MW f D) : D 6 0 ≤ 230 := h.2.1
theorem MW.writ {f : Nat → Int32} {D : zD} (h : MW f D) : D 6 1 ≤ 190 := h.2.2.1
theorem MW.bats {f : Nat → Int32} {D : zD} (h : MW f D) : D 6 2 ≤ 5000 := h.2.2.2.1
theorem MW.keyb {f : Nat → Int32} {D : zD} (h : MW f D) {k : Nat} (hk : k < D 6 0) : D 7 k < 32 ∧ D 8 k < 5000 := h.2.2.2.2.2.1 k hk
theorem MW.letb {f : Nat → Int32} {D : zD} (h : MW f D) {i : Nat} (hi : i < D 6 1) : D 10 i < 256 ∧ D 11 i < 256 ∧ D 12 i ≤ 5001 := h.2.2.2.2.2.2 i hi
theorem MW.key {f : Nat → Int32} {D : zD} (h : MW f D) {k : Nat} (hk : k < D 6 0) : f (100 + k) = nI (D 7 k + 32 * D 8 k) := (h.1.2.2.1 k hk).1
theorem MW.hold {f : Nat → Int32} {D : zD} (h : MW f D) {k : Nat} (hk : k < D 6 0) : f (330 + k) = nI (D 9 k) := (h.1.2.2.1 k hk).2
theorem MW.lett {f : Nat → Int32} {D : zD} (h : MW f D) {i : Nat} (hi : i < D 6 1) : f (560 + i) = nI (D 10 i + 256 * D 11 i + 65536 * D 12 i) := h.1.2.2.2 i hi
def spX9_sits : zSp := fun av S Q => ∃ (m : Nat) (D : zD), av = [.ref 245, .int (nI m)] ∧ m < 16 ∧ MW (S.1 246) D ∧ ∀ r, (r = nI 1 ∧ D 0 m ≠ 0) ∨ (r = nI 0 ∧ D 0 m = 0) → Q (some (.int r)) S
set_option maxHeartbeats 4000000 in
set_option maxRecDepth 100000 in
theorem tX9_sits : zM yX9_sits cX9_sits 2 (some .boolean) 1 spX9_sits := by
  refine zM.of (by decide) (by decide) (fun av S Q h => by obtain ⟨m, D, rfl, hm, hM, hQ⟩ := h; exact Nat.le_of_ble_eq_true rfl) (fun C τ ι av S Q Qr h hr hC hE => ?_)
  obtain ⟨m, D, rfl, hm, hM, hQ⟩ := h
  show zR C τ ι _ 0 0 0 [(0, .ref 245), (1, .int (nI m))] [] _
  refine zr_aload_n hC dX9_sits_0 rfl ?_
  refine zr_iload_n hC dX9_sits_1 rfl ?_
  refine zk_iconst hC dX9_sits_2 (v := nI 0) (by decide +kernel) ?_
  refine zs_callV hC (b := 245) [_, _] [] dX9_sits_3 ml_X9_64 mtX9_of tX9_of (by decide) (by decide) (by decide) rfl rfl (by decide) (by decide +kernel) (Nat.le_of_ble_eq_true rfl) rfl ?_
  refine ⟨m, 0, rfl, hm, by decide, ?_⟩
  rw [show S.1 246 (4 + 6 * m + 0) = nI (D 0 m) from hM.mem hm (by decide)]
  dsimp only [Option.toList, List.cons_append, List.nil_append]
  refine zr_if_le hC dX9_sits_6 (tgt := 13) (by decide) (fun c_6 => ?_) (fun c_6 => ?_)
  · have hx : D 0 m = 0 := by have := hM.lt0 hm; rcases Nat.eq_zero_or_pos (D 0 m) with q | q; exact q; exact absurd c_6 (nI_nle q (by omega))
    refine zk_iconst hC dX9_sits_13 (v := nI 0) (by decide +kernel) ?_
    exact zr_zreturn hC hE dX9_sits_14 (by first | exact Or.inl rfl | exact Or.inr rfl) (hr _ _ (hQ _ (by first | exact Or.inl ⟨rfl, hx⟩ | exact Or.inr ⟨rfl, hx⟩)))
  · have hx : D 0 m ≠ 0 := fun q => c_6 (by show nI (D 0 m) ≤ 0; rw [q]; decide)
    refine zk_iconst hC dX9_sits_9 (v := nI 1) (by decide +kernel) ?_
    refine zr_goto hC dX9_sits_10 (tgt := 14) (by decide) ?_
    exact zr_zreturn hC hE dX9_sits_14 (by first | exact Or.inl rfl | exact Or.inr rfl) (hr _ _ (hQ _ (by first | exact Or.inl ⟨rfl, hx⟩ | exact Or.inr ⟨rfl, hx⟩)))
theorem dmn_y {P : Nat → Bool} {i : Nat} (h : P i = true) : nI (dmn P i) ||| nI (2 ^ i) = nI (dmn P (i + 1)) := by rw [fa_or, dmn, if_pos h]
theorem dmn_n {P : Nat → Bool} {i : Nat} (h : P i = false) : nI (dmn P i) ||| nI 0 = nI (dmn P (i + 1)) := by rw [fa_or, dmn, if_neg (by rw [h]; decide)]
def tP (D : zD) (w x : Nat) : Nat → Bool := fun m => if w = 0 then !(D 0 m == 0) else D (mfld w) m == x
set_option maxHeartbeats 4000000 in
set_option maxRecDepth 100000 in
theorem l9_those_0 {C : zCx} {τ : Nat → ClassId} {ι : Nat → Nat} (hC : zOK C τ (zrm 2 0 0) yX9_those.cls cX9_those 6) {S : zS} {D : zD} {x : Nat} (hM : MW (S.1 246) D) (hx : x < 10) (k : ∀ lv, zlk 3 lv = some (.int (nI (dm (tP D 0 x)))) → zR C τ ι 6 0 0 65 lv [] (zcells S)) : ∀ (d i : Nat), i + d = 16 → zR C τ ι 6 0 0 5 [(0, .ref 245), (1, .int (nI 0)), (2, .int (nI x)), (3, .int (nI (dmn (tP D 0 x) i))), (4, .int (nI i))] [] (zcells S) := by
  intro d
  induction d with
  | zero =>
    intro i hi
    refine zr_iload hC dX9_those_5 rfl ?_
    refine zk_bipush hC dX9_those_7 (v := nI 16) (by decide +kernel) ?_
    refine zr_icmp_ge hC dX9_those_9 (tgt := 65) (by decide) (fun c_9 => ?_) (fun c => absurd c (not_not_intro (nI_le (by omega) (by omega))))
    exact k _ (by obtain rfl : i = 16 := (by omega); rfl)
  | succ d ih =>
    intro i hi
    refine zr_iload hC dX9_those_5 rfl ?_
    refine zk_bipush hC dX9_those_7 (v := nI 16) (by decide +kernel) ?_
    refine zr_icmp_ge hC dX9_those_9 (tgt := 65) (by decide) (fun c => absurd c (nI_ge (by omega) (by omega))) (fun c_9 => ?_)
    refine zr_iload_n hC dX9_those_12 rfl ?_
    refine zr_if_ne hC dX9_those_13 (tgt := 25) (by decide) (fun c => absurd c (by decide +kernel)) (fun c_13 => ?_)
    refine zr_aload_n hC dX9_those_16 rfl ?_
    refine zr_iload hC dX9_those_17 rfl ?_
    refine zs_callV hC (b := 245) [_] [] dX9_those_19 ml_X9_68 mtX9_sits tX9_sits (by decide) (by decide) (by decide) rfl rfl (by decide) (by decide +kernel) (Nat.le_of_ble_eq_true rfl) rfl ?_
    refine ⟨i, D, rfl, by omega, hM, fun r e => ?_⟩
    rcases e with ⟨rfl, hx⟩ | ⟨rfl, hx⟩
    · have hp : tP D 0 x i = true := by simp [tP, hx]
      dsimp only [Option.toList, List.cons_append, List.nil_append]
      refine zr_goto hC dX9_those_22 (tgt := 41) (by decide) ?_
      refine zr_istore hC dX9_those_41 (by decide) ?_
      refine zr_iload_n hC dX9_those_43 rfl ?_
      refine zr_iload hC dX9_those_44 rfl ?_
      refine zr_if_eq hC dX9_those_46 (tgt := 56) (by decide) (fun c => absurd c (by decide +kernel)) (fun c_46 => ?_)
      refine zk_iconst hC dX9_those_49 (v := nI 1) (by decide +kernel) ?_
      refine zr_iload hC dX9_those_50 rfl ?_
      refine zn_ishl hC dX9_those_52 (z_shl1 i (by omega)) ?_
      refine zr_goto hC dX9_those_53 (tgt := 57) (by decide) ?_
      refine zn_ior hC dX9_those_57 (dmn_y hp) ?_
      refine zr_istore_n hC dX9_those_58 (by decide) ?_
      refine zn_iinc hC dX9_those_59 rfl (by decide) (zk_inc _ 1) ?_
      refine zr_goto hC dX9_those_62 (tgt := 5) (by decide) ?_
      exact zR_sub [(0, .ref 245), (1, .int (nI 0)), (2, .int (nI x)), (3, .int (nI (dmn (tP D 0 x) (i + 1)))), (4, .int (nI (i + 1)))] ⟨rfl, rfl, rfl, rfl, rfl, trivial⟩ (ih (i + 1) (by omega))
    · have hp : tP D 0 x i = false := by simp [tP, hx]
      dsimp only [Option.toList, List.cons_append, List.nil_append]
      refine zr_goto hC dX9_those_22 (tgt := 41) (by decide) ?_
      refine zr_istore hC dX9_those_41 (by decide) ?_
      refine zr_iload_n hC dX9_those_43 rfl ?_
      refine zr_iload hC dX9_those_44 rfl ?_
      refine zr_if_eq hC dX9_those_46 (tgt := 56) (by decide) (fun c_46 => ?_) (fun c => absurd c (by decide +kernel))
      refine zk_iconst hC dX9_those_56 (v := nI 0) (by decide +kernel) ?_
      refine zn_ior hC dX9_those_57 (dmn_n hp) ?_
      refine zr_istore_n hC dX9_those_58 (by decide) ?_
      refine zn_iinc hC dX9_those_59 rfl (by decide) (zk_inc _ 1) ?_
      refine zr_goto hC dX9_those_62 (tgt := 5) (by decide) ?_
      exact zR_sub [(0, .ref 245), (1, .int (nI 0)), (2, .int (nI x)), (3, .int (nI (dmn (tP D 0 x) (i + 1)))), (4, .int (nI (i + 1)))] ⟨rfl, rfl, rfl, rfl, rfl, trivial⟩ (ih (i + 1) (by omega))
set_option maxHeartbeats 4000000 in
set_option maxRecDepth 100000 in
theorem l9_those_1 {C : zCx} {τ : Nat → ClassId} {ι : Nat → Nat} (hC : zOK C τ (zrm 2 0 0) yX9_those.cls cX9_those 6) {S : zS} {D : zD} {x : Nat} (hM : MW (S.1 246) D) (hx : x < 10) (k : ∀ lv, zlk 3 lv = some (.int (nI (dm (tP D 1 x)))) → zR C τ ι 6 0 0 65 lv [] (zcells S)) : ∀ (d i : Nat), i + d = 16 → zR C τ ι 6 0 0 5 [(0, .ref 245), (1, .int (nI 1)), (2, .int (nI x)), (3, .int (nI (dmn (tP D 1 x) i))), (4, .int (nI i))] [] (zcells S) := by
  intro d
  induction d with
  | zero =>
    intro i hi
    refine zr_iload hC dX9_those_5 rfl ?_
    refine zk_bipush hC dX9_those_7 (v := nI 16) (by decide +kernel) ?_
    refine zr_icmp_ge hC dX9_those_9 (tgt := 65) (by decide) (fun c_9 => ?_) (fun c => absurd c (not_not_intro (nI_le (by omega) (by omega))))
    exact k _ (by obtain rfl : i = 16 := (by omega); rfl)
  | succ d ih =>
    intro i hi
    refine zr_iload hC dX9_those_5 rfl ?_
    refine zk_bipush hC dX9_those_7 (v := nI 16) (by decide +kernel) ?_
    refine zr_icmp_ge hC dX9_those_9 (tgt := 65) (by decide) (fun c => absurd c (nI_ge (by omega) (by omega))) (fun c_9 => ?_)
    refine zr_iload_n hC dX9_those_12 rfl ?_
    refine zr_if_ne hC dX9_those_13 (tgt := 25) (by decide) (fun c_13 => ?_) (fun c => absurd c (by decide +kernel))
    refine zr_aload_n hC dX9_those_25 rfl ?_
    refine zr_iload hC dX9_those_26 rfl ?_
    refine zr_iload_n hC dX9_those_28 rfl ?_
    refine zs_callV hC (b := 245) [_, _] [] dX9_those_29 ml_X9_64 mtX9_of tX9_of (by decide) (by decide) (by decide) rfl rfl (by decide) (by decide +kernel) (Nat.le_of_ble_eq_true rfl) rfl ?_
    refine ⟨i, 1, rfl, by omega, by decide, ?_⟩
    rw [show S.1 246 (4 + 6 * i + 1) = nI (D 2 i) from hM.mem (show i < 16 by omega) (by decide)]
    have hb := hM.2.2.2.2.1 i (by omega)
    dsimp only [Option.toList, List.cons_append, List.nil_append]
    refine zr_iload_n hC dX9_those_32 rfl ?_
    refine zr_icmp_ne hC dX9_those_33 (tgt := 40) (by decide) (fun c_33 => ?_) (fun c_33 => ?_)
    · have hp : tP D 1 x i = false := beq_eq_false_iff_ne.mpr (show D 2 i ≠ x from fun q => c_33 (by rw [q]))
      refine zk_iconst hC dX9_those_40 (v := nI 0) (by decide +kernel) ?_
      refine zr_istore hC dX9_those_41 (by decide) ?_
      refine zr_iload_n hC dX9_those_43 rfl ?_
      refine zr_iload hC dX9_those_44 rfl ?_
      refine zr_if_eq hC dX9_those_46 (tgt := 56) (by decide) (fun c_46 => ?_) (fun c => absurd c (by decide +kernel))
      refine zk_iconst hC dX9_those_56 (v := nI 0) (by decide +kernel) ?_
      refine zn_ior hC dX9_those_57 (dmn_n hp) ?_
      refine zr_istore_n hC dX9_those_58 (by decide) ?_
      refine zn_iinc hC dX9_those_59 rfl (by decide) (zk_inc _ 1) ?_
      refine zr_goto hC dX9_those_62 (tgt := 5) (by decide) ?_
      exact zR_sub [(0, .ref 245), (1, .int (nI 1)), (2, .int (nI x)), (3, .int (nI (dmn (tP D 1 x) (i + 1)))), (4, .int (nI (i + 1)))] ⟨rfl, rfl, rfl, rfl, rfl, trivial⟩ (ih (i + 1) (by omega))
    · have hp : tP D 1 x i = true := beq_iff_eq.mpr (show D 2 i = x from (nI_eq (by omega) (by omega)).mp c_33)
      refine zk_iconst hC dX9_those_36 (v := nI 1) (by decide +kernel) ?_
      refine zr_goto hC dX9_those_37 (tgt := 41) (by decide) ?_
      refine zr_istore hC dX9_those_41 (by decide) ?_
      refine zr_iload_n hC dX9_those_43 rfl ?_
      refine zr_iload hC dX9_those_44 rfl ?_
      refine zr_if_eq hC dX9_those_46 (tgt := 56) (by decide) (fun c => absurd c (by decide +kernel)) (fun c_46 => ?_)
      refine zk_iconst hC dX9_those_49 (v := nI 1) (by decide +kernel) ?_
      refine zr_iload hC dX9_those_50 rfl ?_
      refine zn_ishl hC dX9_those_52 (z_shl1 i (by omega)) ?_
      refine zr_goto hC dX9_those_53 (tgt := 57) (by decide) ?_
      refine zn_ior hC dX9_those_57 (dmn_y hp) ?_
      refine zr_istore_n hC dX9_those_58 (by decide) ?_
      refine zn_iinc hC dX9_those_59 rfl (by decide) (zk_inc _ 1) ?_
      refine zr_goto hC dX9_those_62 (tgt := 5) (by decide) ?_
      exact zR_sub [(0, .ref 245), (1, .int (nI 1)), (2, .int (nI x)), (3, .int (nI (dmn (tP D 1 x) (i + 1)))), (4, .int (nI (i + 1)))] ⟨rfl, rfl, rfl, rfl, rfl, trivial⟩ (ih (i + 1) (by omega))
set_option maxHeartbeats 4000000 in
set_option maxRecDepth 100000 in
theorem l9_those_3 {C : zCx} {τ : Nat → ClassId} {ι : Nat → Nat} (hC : zOK C τ (zrm 2 0 0) yX9_those.cls cX9_those 6) {S : zS} {D : zD} {x : Nat} (hM : MW (S.1 246) D) (hx : x < 10) (k : ∀ lv, zlk 3 lv = some (.int (nI (dm (tP D 3 x)))) → zR C τ ι 6 0 0 65 lv [] (zcells S)) : ∀ (d i : Nat), i + d = 16 → zR C τ ι 6 0 0 5 [(0, .ref 245), (1, .int (nI 3)), (2, .int (nI x)), (3, .int (nI (dmn (tP D 3 x) i))), (4, .int (nI i))] [] (zcells S) := by
  intro d
  induction d with
  | zero =>
    intro i hi
    refine zr_iload hC dX9_those_5 rfl ?_
    refine zk_bipush hC dX9_those_7 (v := nI 16) (by decide +kernel) ?_
    refine zr_icmp_ge hC dX9_those_9 (tgt := 65) (by decide) (fun c_9 => ?_) (fun c => absurd c (not_not_intro (nI_le (by omega) (by omega))))
    exact k _ (by obtain rfl : i = 16 := (by omega); rfl)
  | succ d ih =>
    intro i hi
    refine zr_iload hC dX9_those_5 rfl ?_
    refine zk_bipush hC dX9_those_7 (v := nI 16) (by decide +kernel) ?_
    refine zr_icmp_ge hC dX9_those_9 (tgt := 65) (by decide) (fun c => absurd c (nI_ge (by omega) (by omega))) (fun c_9 => ?_)
    refine zr_iload_n hC dX9_those_12 rfl ?_
    refine zr_if_ne hC dX9_those_13 (tgt := 25) (by decide) (fun c_13 => ?_) (fun c => absurd c (by decide +kernel))
    refine zr_aload_n hC dX9_those_25 rfl ?_
    refine zr_iload hC dX9_those_26 rfl ?_
    refine zr_iload_n hC dX9_those_28 rfl ?_
    refine zs_callV hC (b := 245) [_, _] [] dX9_those_29 ml_X9_64 mtX9_of tX9_of (by decide) (by decide) (by decide) rfl rfl (by decide) (by decide +kernel) (Nat.le_of_ble_eq_true rfl) rfl ?_
    refine ⟨i, 3, rfl, by omega, by decide, ?_⟩
    rw [show S.1 246 (4 + 6 * i + 3) = nI (D 1 i) from hM.mem (show i < 16 by omega) (by decide)]
    have hb := hM.2.2.2.2.1 i (by omega)
    dsimp only [Option.toList, List.cons_append, List.nil_append]
    refine zr_iload_n hC dX9_those_32 rfl ?_
    refine zr_icmp_ne hC dX9_those_33 (tgt := 40) (by decide) (fun c_33 => ?_) (fun c_33 => ?_)
    · have hp : tP D 3 x i = false := beq_eq_false_iff_ne.mpr (show D 1 i ≠ x from fun q => c_33 (by rw [q]))
      refine zk_iconst hC dX9_those_40 (v := nI 0) (by decide +kernel) ?_
      refine zr_istore hC dX9_those_41 (by decide) ?_
      refine zr_iload_n hC dX9_those_43 rfl ?_
      refine zr_iload hC dX9_those_44 rfl ?_
      refine zr_if_eq hC dX9_those_46 (tgt := 56) (by decide) (fun c_46 => ?_) (fun c => absurd c (by decide +kernel))
      refine zk_iconst hC dX9_those_56 (v := nI 0) (by decide +kernel) ?_
      refine zn_ior hC dX9_those_57 (dmn_n hp) ?_
      refine zr_istore_n hC dX9_those_58 (by decide) ?_
      refine zn_iinc hC dX9_those_59 rfl (by decide) (zk_inc _ 1) ?_
      refine zr_goto hC dX9_those_62 (tgt := 5) (by decide) ?_
      exact zR_sub [(0, .ref 245), (1, .int (nI 3)), (2, .int (nI x)), (3, .int (nI (dmn (tP D 3 x) (i + 1)))), (4, .int (nI (i + 1)))] ⟨rfl, rfl, rfl, rfl, rfl, trivial⟩ (ih (i + 1) (by omega))
    · have hp : tP D 3 x i = true := beq_iff_eq.mpr (show D 1 i = x from (nI_eq (by omega) (by omega)).mp c_33)
      refine zk_iconst hC dX9_those_36 (v := nI 1) (by decide +kernel) ?_
      refine zr_goto hC dX9_those_37 (tgt := 41) (by decide) ?_
      refine zr_istore hC dX9_those_41 (by decide) ?_
      refine zr_iload_n hC dX9_those_43 rfl ?_
      refine zr_iload hC dX9_those_44 rfl ?_
      refine zr_if_eq hC dX9_those_46 (tgt := 56) (by decide) (fun c => absurd c (by decide +kernel)) (fun c_46 => ?_)
      refine zk_iconst hC dX9_those_49 (v := nI 1) (by decide +kernel) ?_
      refine zr_iload hC dX9_those_50 rfl ?_
      refine zn_ishl hC dX9_those_52 (z_shl1 i (by omega)) ?_
      refine zr_goto hC dX9_those_53 (tgt := 57) (by decide) ?_
      refine zn_ior hC dX9_those_57 (dmn_y hp) ?_
      refine zr_istore_n hC dX9_those_58 (by decide) ?_
      refine zn_iinc hC dX9_those_59 rfl (by decide) (zk_inc _ 1) ?_
      refine zr_goto hC dX9_those_62 (tgt := 5) (by decide) ?_
      exact zR_sub [(0, .ref 245), (1, .int (nI 3)), (2, .int (nI x)), (3, .int (nI (dmn (tP D 3 x) (i + 1)))), (4, .int (nI (i + 1)))] ⟨rfl, rfl, rfl, rfl, rfl, trivial⟩ (ih (i + 1) (by omega))
def spX9_those : zSp := fun av S Q => ∃ (w x : Nat) (D : zD), av = [.ref 245, .int (nI w), .int (nI x)] ∧ (w = 0 ∨ w = 1 ∨ w = 3) ∧ x < 10 ∧ MW (S.1 246) D ∧ Q (some (.int (nI (dm (tP D w x))))) S
set_option maxHeartbeats 4000000 in
set_option maxRecDepth 100000 in
theorem tX9_those : zM yX9_those cX9_those 6 (some .int) 2 spX9_those := by
  refine zM.of (by decide) (by decide) (fun av S Q h => by obtain ⟨w, x, D, rfl, hw, hx, hM, hQ⟩ := h; exact Nat.le_of_ble_eq_true rfl) (fun C τ ι av S Q Qr h hr hC hE => ?_)
  obtain ⟨w, x, D, rfl, hw, hx, hM, hQ⟩ := h
  rcases hw with rfl | rfl | rfl
  · show zR C τ ι _ 0 0 0 [(0, .ref 245), (1, .int (nI 0)), (2, .int (nI x))] [] _
    refine zk_iconst hC dX9_those_0 (v := nI 0) (by decide +kernel) ?_
    refine zr_istore_n hC dX9_those_1 (by decide) ?_
    refine zk_iconst hC dX9_those_2 (v := nI 0) (by decide +kernel) ?_
    refine zr_istore hC dX9_those_3 (by decide) ?_
    refine zR_sub [(0, .ref 245), (1, .int (nI 0)), (2, .int (nI x)), (3, .int (nI (dmn (tP D 0 x) 0))), (4, .int (nI 0))] ⟨rfl, rfl, rfl, rfl, rfl, trivial⟩ (l9_those_0 hC hM hx (fun lv h => ?_) 16 0 (by omega))
    refine zr_iload_n hC dX9_those_65 h ?_
    exact zr_ireturn hC hE dX9_those_66 (hr _ _ hQ)
  · show zR C τ ι _ 0 0 0 [(0, .ref 245), (1, .int (nI 1)), (2, .int (nI x))] [] _
    refine zk_iconst hC dX9_those_0 (v := nI 0) (by decide +kernel) ?_
    refine zr_istore_n hC dX9_those_1 (by decide) ?_
    refine zk_iconst hC dX9_those_2 (v := nI 0) (by decide +kernel) ?_
    refine zr_istore hC dX9_those_3 (by decide) ?_
    refine zR_sub [(0, .ref 245), (1, .int (nI 1)), (2, .int (nI x)), (3, .int (nI (dmn (tP D 1 x) 0))), (4, .int (nI 0))] ⟨rfl, rfl, rfl, rfl, rfl, trivial⟩ (l9_those_1 hC hM hx (fun lv h => ?_) 16 0 (by omega))
    refine zr_iload_n hC dX9_those_65 h ?_
    exact zr_ireturn hC hE dX9_those_66 (hr _ _ hQ)
  · show zR C τ ι _ 0 0 0 [(0, .ref 245), (1, .int (nI 3)), (2, .int (nI x))] [] _
    refine zk_iconst hC dX9_those_0 (v := nI 0) (by decide +kernel) ?_
    refine zr_istore_n hC dX9_those_1 (by decide) ?_
    refine zk_iconst hC dX9_those_2 (v := nI 0) (by decide +kernel) ?_
    refine zr_istore hC dX9_those_3 (by decide) ?_
    refine zR_sub [(0, .ref 245), (1, .int (nI 3)), (2, .int (nI x)), (3, .int (nI (dmn (tP D 3 x) 0))), (4, .int (nI 0))] ⟨rfl, rfl, rfl, rfl, rfl, trivial⟩ (l9_those_3 hC hM hx (fun lv h => ?_) 16 0 (by omega))
    refine zr_iload_n hC dX9_those_65 h ?_
    exact zr_ireturn hC hE dX9_those_66 (hr _ _ hQ)
def spX9_nodeOf : zSp := fun av S Q => ∃ (k : Nat) (D : zD), av = [.ref 245, .int (nI k)] ∧ k < D 6 0 ∧ MW (S.1 246) D ∧ Q (some (.int (nI (D 7 k)))) S
set_option maxHeartbeats 4000000 in
set_option maxRecDepth 100000 in
theorem tX9_nodeOf : zM yX9_nodeOf cX9_nodeOf 2 (some .int) 0 spX9_nodeOf := by
  refine zM.of (by decide) (by decide) (fun av S Q h => by obtain ⟨k, D, rfl, hk, hM, hQ⟩ := h; exact Nat.le_of_ble_eq_true rfl) (fun C τ ι av S Q Qr h hr hC hE => ?_)
  obtain ⟨k, D, rfl, hk, hM, hQ⟩ := h
  have h0 := hM.made
  have h1 := hM.writ
  obtain ⟨b1, b2⟩ := hM.keyb hk
  show zR C τ ι _ 0 0 0 [(0, .ref 245), (1, .int (nI k))] [] _
  refine zr_aload_n hC dX9_nodeOf_0 rfl ?_
  refine zs_getr hC dX9_nodeOf_1 fl_X9_7 (a := 245) (r := 246) rfl (by decide) ?_
  refine zk_bipush hC dX9_nodeOf_4 (v := nI 100) (by decide +kernel) ?_
  refine zr_iload_n hC dX9_nodeOf_6 rfl ?_
  refine zn_iadd hC dX9_nodeOf_7 (nI_add _ _) ?_
  refine zv_iald hC dX9_nodeOf_8 (a := 246) (n := 752) rfl (by decide) (by decide) (j := 100 + k) rfl (by omega) (hM.key hk) ?_
  refine zk_bipush hC dX9_nodeOf_9 (v := nI 32) (by decide +kernel) ?_
  refine zn_irem hC dX9_nodeOf_11 (by decide +kernel) ((z_rem (by omega) (by decide) (by decide)).trans (congrArg nI (show (D 7 k + 32 * D 8 k) % 32 = D 7 k by omega))) ?_
  exact zr_ireturn hC hE dX9_nodeOf_12 (hr _ _ (hQ))
def spX9_batchOf : zSp := fun av S Q => ∃ (k : Nat) (D : zD), av = [.ref 245, .int (nI k)] ∧ k < D 6 0 ∧ MW (S.1 246) D ∧ Q (some (.int (nI (D 8 k)))) S
set_option maxHeartbeats 4000000 in
set_option maxRecDepth 100000 in
theorem tX9_batchOf : zM yX9_batchOf cX9_batchOf 2 (some .int) 0 spX9_batchOf := by
  refine zM.of (by decide) (by decide) (fun av S Q h => by obtain ⟨k, D, rfl, hk, hM, hQ⟩ := h; exact Nat.le_of_ble_eq_true rfl) (fun C τ ι av S Q Qr h hr hC hE => ?_)
  obtain ⟨k, D, rfl, hk, hM, hQ⟩ := h
  have h0 := hM.made
  have h1 := hM.writ
  obtain ⟨b1, b2⟩ := hM.keyb hk
  show zR C τ ι _ 0 0 0 [(0, .ref 245), (1, .int (nI k))] [] _
  refine zr_aload_n hC dX9_batchOf_0 rfl ?_
  refine zs_getr hC dX9_batchOf_1 fl_X9_7 (a := 245) (r := 246) rfl (by decide) ?_
  refine zk_bipush hC dX9_batchOf_4 (v := nI 100) (by decide +kernel) ?_
  refine zr_iload_n hC dX9_batchOf_6 rfl ?_
  refine zn_iadd hC dX9_batchOf_7 (nI_add _ _) ?_
  refine zv_iald hC dX9_batchOf_8 (a := 246) (n := 752) rfl (by decide) (by decide) (j := 100 + k) rfl (by omega) (hM.key hk) ?_
  refine zk_bipush hC dX9_batchOf_9 (v := nI 32) (by decide +kernel) ?_
  refine zn_idiv hC dX9_batchOf_11 (by decide +kernel) ((pk_div (by omega) (by decide) (by decide)).trans (congrArg nI (show (D 7 k + 32 * D 8 k) / 32 = D 8 k by omega))) ?_
  exact zr_ireturn hC hE dX9_batchOf_12 (hr _ _ (hQ))
def spX9_inOf : zSp := fun av S Q => ∃ (k : Nat) (D : zD), av = [.ref 245, .int (nI k)] ∧ k < D 6 1 ∧ MW (S.1 246) D ∧ Q (some (.int (nI (D 10 k)))) S
set_option maxHeartbeats 4000000 in
set_option maxRecDepth 100000 in
theorem tX9_inOf : zM yX9_inOf cX9_inOf 2 (some .int) 0 spX9_inOf := by
  refine zM.of (by decide) (by decide) (fun av S Q h => by obtain ⟨k, D, rfl, hk, hM, hQ⟩ := h; exact Nat.le_of_ble_eq_true rfl) (fun C τ ι av S Q Qr h hr hC hE => ?_)
  obtain ⟨k, D, rfl, hk, hM, hQ⟩ := h
  have h0 := hM.made
  have h1 := hM.writ
  obtain ⟨b1, b2, b3⟩ := hM.letb hk
  show zR C τ ι _ 0 0 0 [(0, .ref 245), (1, .int (nI k))] [] _
  refine zr_aload_n hC dX9_inOf_0 rfl ?_
  refine zs_getr hC dX9_inOf_1 fl_X9_7 (a := 245) (r := 246) rfl (by decide) ?_
  refine zk_sipush hC dX9_inOf_4 (v := nI 560) (by decide +kernel) ?_
  refine zr_iload_n hC dX9_inOf_7 rfl ?_
  refine zn_iadd hC dX9_inOf_8 (nI_add _ _) ?_
  refine zv_iald hC dX9_inOf_9 (a := 246) (n := 752) rfl (by decide) (by decide) (j := 560 + k) rfl (by omega) (hM.lett hk) ?_
  refine zk_sipush hC dX9_inOf_10 (v := nI 256) (by decide +kernel) ?_
  refine zn_irem hC dX9_inOf_13 (by decide +kernel) ((z_rem (by omega) (by decide) (by decide)).trans (congrArg nI (show (D 10 k + 256 * D 11 k + 65536 * D 12 k) % 256 = D 10 k by omega))) ?_
  exact zr_ireturn hC hE dX9_inOf_14 (hr _ _ (hQ))
def spX9_underOf : zSp := fun av S Q => ∃ (k : Nat) (D : zD), av = [.ref 245, .int (nI k)] ∧ k < D 6 1 ∧ MW (S.1 246) D ∧ Q (some (.int (nI (D 11 k)))) S
set_option maxHeartbeats 4000000 in
set_option maxRecDepth 100000 in
theorem tX9_underOf : zM yX9_underOf cX9_underOf 2 (some .int) 0 spX9_underOf := by
  refine zM.of (by decide) (by decide) (fun av S Q h => by obtain ⟨k, D, rfl, hk, hM, hQ⟩ := h; exact Nat.le_of_ble_eq_true rfl) (fun C τ ι av S Q Qr h hr hC hE => ?_)
  obtain ⟨k, D, rfl, hk, hM, hQ⟩ := h
  have h0 := hM.made
  have h1 := hM.writ
  obtain ⟨b1, b2, b3⟩ := hM.letb hk
  show zR C τ ι _ 0 0 0 [(0, .ref 245), (1, .int (nI k))] [] _
  refine zr_aload_n hC dX9_underOf_0 rfl ?_
  refine zs_getr hC dX9_underOf_1 fl_X9_7 (a := 245) (r := 246) rfl (by decide) ?_
  refine zk_sipush hC dX9_underOf_4 (v := nI 560) (by decide +kernel) ?_
  refine zr_iload_n hC dX9_underOf_7 rfl ?_
  refine zn_iadd hC dX9_underOf_8 (nI_add _ _) ?_
  refine zv_iald hC dX9_underOf_9 (a := 246) (n := 752) rfl (by decide) (by decide) (j := 560 + k) rfl (by omega) (hM.lett hk) ?_
  refine zk_sipush hC dX9_underOf_10 (v := nI 256) (by decide +kernel) ?_
  refine zn_idiv hC dX9_underOf_13 (by decide +kernel) (pk_div (by omega) (by decide) (by decide)) ?_
  refine zk_sipush hC dX9_underOf_14 (v := nI 256) (by decide +kernel) ?_
  refine zn_irem hC dX9_underOf_17 (by decide +kernel) ((z_rem (by omega) (by decide) (by decide)).trans (congrArg nI (show (D 10 k + 256 * D 11 k + 65536 * D 12 k) / 256 % 256 = D 11 k by omega))) ?_
  exact zr_ireturn hC hE dX9_underOf_18 (hr _ _ (hQ))
def spX9_batchOfLetter : zSp := fun av S Q => ∃ (k : Nat) (D : zD), av = [.ref 245, .int (nI k)] ∧ k < D 6 1 ∧ MW (S.1 246) D ∧ Q (some (.int (nI (D 12 k) - nI 1))) S
set_option maxHeartbeats 4000000 in
set_option maxRecDepth 100000 in
theorem tX9_batchOfLetter : zM yX9_batchOfLetter cX9_batchOfLetter 2 (some .int) 0 spX9_batchOfLetter := by
  refine zM.of (by decide) (by decide) (fun av S Q h => by obtain ⟨k, D, rfl, hk, hM, hQ⟩ := h; exact Nat.le_of_ble_eq_true rfl) (fun C τ ι av S Q Qr h hr hC hE => ?_)
  obtain ⟨k, D, rfl, hk, hM, hQ⟩ := h
  have h0 := hM.made
  have h1 := hM.writ
  obtain ⟨b1, b2, b3⟩ := hM.letb hk
  show zR C τ ι _ 0 0 0 [(0, .ref 245), (1, .int (nI k))] [] _
  refine zr_aload_n hC dX9_batchOfLetter_0 rfl ?_
  refine zs_getr hC dX9_batchOfLetter_1 fl_X9_7 (a := 245) (r := 246) rfl (by decide) ?_
  refine zk_sipush hC dX9_batchOfLetter_4 (v := nI 560) (by decide +kernel) ?_
  refine zr_iload_n hC dX9_batchOfLetter_7 rfl ?_
  refine zn_iadd hC dX9_batchOfLetter_8 (nI_add _ _) ?_
  refine zv_iald hC dX9_batchOfLetter_9 (a := 246) (n := 752) rfl (by decide) (by decide) (j := 560 + k) rfl (by omega) (hM.lett hk) ?_
  refine zr_ldc hC dX9_batchOfLetter_10 kc_X9_76 ?_
  refine zn_idiv hC dX9_batchOfLetter_12 (by decide +kernel) ((show nI _ / nI 65536 = _ from pk_div (by omega) (by decide) (by decide)).trans (congrArg nI (show (D 10 k + 256 * D 11 k + 65536 * D 12 k) / 65536 = D 12 k by omega))) ?_
  refine zk_iconst hC dX9_batchOfLetter_13 (v := nI 1) (by decide +kernel) ?_
  refine zn_isub hC dX9_batchOfLetter_14 rfl ?_
  exact zr_ireturn hC hE dX9_batchOfLetter_15 (hr _ _ (hQ))
def spX9_holds : zSp := fun av S Q => ∃ (m k : Nat) (D : zD), av = [.ref 245, .int (nI m), .int (nI k)] ∧ m < 16 ∧ k < D 6 0 ∧ MW (S.1 246) D ∧ ∀ r, (r = nI 1 ∧ hd D m k = true) ∨ (r = nI 0 ∧ hd D m k = false) → Q (some (.int r)) S
set_option maxHeartbeats 4000000 in
set_option maxRecDepth 100000 in
theorem tX9_holds : zM yX9_holds cX9_holds 3 (some .boolean) 1 spX9_holds := by
  refine zM.of (by decide) (by decide) (fun av S Q h => by obtain ⟨m, k, D, rfl, hm, hk, hM, hQ⟩ := h; exact Nat.le_of_ble_eq_true rfl) (fun C τ ι av S Q Qr h hr hC hE => ?_)
  obtain ⟨m, k, D, rfl, hm, hk, hM, hQ⟩ := h
  show zR C τ ι _ 0 0 0 [(0, .ref 245), (1, .int (nI m)), (2, .int (nI k))] [] _
  refine zr_aload_n hC dX9_holds_0 rfl ?_
  refine zs_getr hC dX9_holds_1 fl_X9_7 (a := 245) (r := 246) rfl (by decide) ?_
  refine zk_sipush hC dX9_holds_4 (v := nI 330) (by decide +kernel) ?_
  refine zr_iload_n hC dX9_holds_7 rfl ?_
  refine zn_iadd hC dX9_holds_8 (nI_add _ _) ?_
  refine zv_iald hC dX9_holds_9 (a := 246) (n := 752) rfl (by decide) (by decide) (j := 330 + k) rfl (by have := hM.made; omega) (hM.hold hk) ?_
  refine zr_iload_n hC dX9_holds_10 rfl ?_
  refine zs_callS hC [_, _] [] dX9_holds_11 ml_X9_72 mtX9_has tX9_has (by decide) (by decide) (by decide) rfl (Nat.le_of_ble_eq_true rfl) rfl ?_
  refine ⟨_, m, rfl, by omega, fun r e => ?_⟩
  rw [bt_nI _ _ (show m < 32 by omega)] at e
  rcases e with ⟨rfl, hx⟩ | ⟨rfl, hx⟩
  · dsimp only [Option.toList, List.cons_append, List.nil_append]
    exact zr_zreturn hC hE dX9_holds_14 (by first | exact Or.inl rfl | exact Or.inr rfl) (hr _ _ (hQ _ (by first | exact Or.inl ⟨rfl, hx⟩ | exact Or.inr ⟨rfl, hx⟩)))
  · dsimp only [Option.toList, List.cons_append, List.nil_append]
    exact zr_zreturn hC hE dX9_holds_14 (by first | exact Or.inl rfl | exact Or.inr rfl) (hr _ _ (hQ _ (by first | exact Or.inl ⟨rfl, hx⟩ | exact Or.inr ⟨rfl, hx⟩)))
theorem zb_or2 (b : Bool) : (zb (false || b) = nI 1 ∧ b = true) ∨ (zb (false || b) = nI 0 ∧ b = false) := by cases b <;> simp [zb]
set_option maxHeartbeats 4000000 in
set_option maxRecDepth 100000 in
theorem l9_isBen {C : zCx} {τ : Nat → ClassId} {ι : Nat → Nat} (hC : zOK C τ (zrm 0 0 0) yX9_isBeneath.cls cX9_isBeneath 4) {S : zS} {v : Nat} (hv32 : v < 1000) : ∀ (n u : Nat) (b : Bool), u < 2 ^ n → u < 32 → (∀ lv, zlk 2 lv = some (.int (zb (b || bnf n u v))) → zR C τ ι 4 0 0 30 lv [] (zcells S)) → zR C τ ι 4 0 0 4 [(1, .int (nI v)), (2, .int (zb b)), (3, .int (nI u))] [] (zcells S) := by
  intro n
  induction n with
  | zero =>
    intro u b hu hu2 k
    have hu0 : u = 0 := by simpa using hu
    subst hu0
    refine zr_iload_n hC dX9_isBeneath_4 rfl ?_
    refine zr_if_le hC dX9_isBeneath_5 (tgt := 30) (by decide) (fun c_5 => ?_) (fun c => absurd c (not_not_intro (nI_le (b := 0) (Nat.le_refl 0) (by decide))))
    exact k _ (by rw [bnf, Bool.or_false]; rfl)
  | succ n ih =>
    intro u b hu hu2 k
    refine zr_iload_n hC dX9_isBeneath_4 rfl ?_
    refine zr_if_le hC dX9_isBeneath_5 (tgt := 30) (by decide) (fun c_5 => ?_) (fun c_5 => ?_)
    · have hu0 : u = 0 := by rcases Nat.eq_zero_or_pos u with q | q; exact q; exact absurd c_5 (nI_nle q (by omega))
      subst hu0
      exact k _ (by rw [bnf_0, Bool.or_false]; rfl)
    · have hu1 : u ≠ 0 := fun q => c_5 (by rw [q]; decide)
      have hs : bnf (n + 1) u v = ((v == u) || bnf n (u / 2) v) := by simp [bnf, hu1]
      refine zr_iload_n hC dX9_isBeneath_8 rfl ?_
      refine zr_if_ne hC dX9_isBeneath_9 (tgt := 17) (by decide) (fun c_9 => ?_) (fun c_9 => ?_)
      · have hb : b = true := (zb_ne0 b).mp c_9
        refine zk_iconst hC dX9_isBeneath_17 (v := nI 1) (by decide +kernel) ?_
        refine zr_goto hC dX9_isBeneath_18 (tgt := 22) (by decide) ?_
        refine zr_istore_n hC dX9_isBeneath_22 (by decide) ?_
        refine zr_iload_n hC dX9_isBeneath_23 rfl ?_
        refine zk_iconst hC dX9_isBeneath_24 (v := nI 2) (by decide +kernel) ?_
        refine zn_idiv hC dX9_isBeneath_25 (by decide +kernel) (z_half (by omega)) ?_
        refine zr_istore_n hC dX9_isBeneath_26 (by decide) ?_
        refine zr_goto hC dX9_isBeneath_27 (tgt := 4) (by decide) ?_
        refine zR_sub [(1, .int (nI v)), (2, .int (zb true)), (3, .int (nI (u / 2)))] ⟨rfl, rfl, rfl, trivial⟩ (ih (u / 2) true (by rw [Nat.pow_succ] at hu; omega) (by omega) (fun lv h => k lv (by rw [h, hs]; exact congrArg (fun z => some (Value.int (zb z))) (by rw [hb]; rfl))))
      · have hb : b = false := (zb_eq0 b).mp c_9
        refine zr_iload_n hC dX9_isBeneath_12 rfl ?_
        refine zr_iload_n hC dX9_isBeneath_13 rfl ?_
        refine zr_icmp_ne hC dX9_isBeneath_14 (tgt := 21) (by decide) (fun c_14 => ?_) (fun c_14 => ?_)
        · have hv : (v == u) = false := beq_eq_false_iff_ne.mpr (fun q => c_14 (by rw [q]))
          refine zk_iconst hC dX9_isBeneath_21 (v := nI 0) (by decide +kernel) ?_
          refine zr_istore_n hC dX9_isBeneath_22 (by decide) ?_
          refine zr_iload_n hC dX9_isBeneath_23 rfl ?_
          refine zk_iconst hC dX9_isBeneath_24 (v := nI 2) (by decide +kernel) ?_
          refine zn_idiv hC dX9_isBeneath_25 (by decide +kernel) (z_half (by omega)) ?_
          refine zr_istore_n hC dX9_isBeneath_26 (by decide) ?_
          refine zr_goto hC dX9_isBeneath_27 (tgt := 4) (by decide) ?_
          refine zR_sub [(1, .int (nI v)), (2, .int (zb false)), (3, .int (nI (u / 2)))] ⟨rfl, rfl, rfl, trivial⟩ (ih (u / 2) false (by rw [Nat.pow_succ] at hu; omega) (by omega) (fun lv h => k lv (by rw [h, hs]; exact congrArg (fun z => some (Value.int (zb z))) (by rw [hb, hv]; rfl))))
        · have hv : (v == u) = true := beq_iff_eq.mpr ((nI_eq (by omega) (by omega)).mp c_14).symm
          refine zk_iconst hC dX9_isBeneath_17 (v := nI 1) (by decide +kernel) ?_
          refine zr_goto hC dX9_isBeneath_18 (tgt := 22) (by decide) ?_
          refine zr_istore_n hC dX9_isBeneath_22 (by decide) ?_
          refine zr_iload_n hC dX9_isBeneath_23 rfl ?_
          refine zk_iconst hC dX9_isBeneath_24 (v := nI 2) (by decide +kernel) ?_
          refine zn_idiv hC dX9_isBeneath_25 (by decide +kernel) (z_half (by omega)) ?_
          refine zr_istore_n hC dX9_isBeneath_26 (by decide) ?_
          refine zr_goto hC dX9_isBeneath_27 (tgt := 4) (by decide) ?_
          refine zR_sub [(1, .int (nI v)), (2, .int (zb true)), (3, .int (nI (u / 2)))] ⟨rfl, rfl, rfl, trivial⟩ (ih (u / 2) true (by rw [Nat.pow_succ] at hu; omega) (by omega) (fun lv h => k lv (by rw [h, hs]; exact congrArg (fun z => some (Value.int (zb z))) (by rw [hv]; cases b <;> rfl))))
def spX9_isBeneath : zSp := fun av S Q => ∃ u v : Nat, av = [.int (nI u), .int (nI v)] ∧ u < 32 ∧ v < 1000 ∧ ∀ r, (r = nI 1 ∧ bn u v = true) ∨ (r = nI 0 ∧ bn u v = false) → Q (some (.int r)) S
set_option maxHeartbeats 4000000 in
set_option maxRecDepth 100000 in
theorem tX9_isBeneath : zM yX9_isBeneath cX9_isBeneath 4 (some .boolean) 0 spX9_isBeneath := by
  refine zM.of (by decide) (by decide) (fun av S Q h => by obtain ⟨u, v, rfl, hu, hv, hQ⟩ := h; exact Nat.le_of_ble_eq_true rfl) (fun C τ ι av S Q Qr h hr hC hE => ?_)
  obtain ⟨u, v, rfl, hu, hv, hQ⟩ := h
  show zR C τ ι _ 0 0 0 [(0, .int (nI u)), (1, .int (nI v))] [] _
  refine zk_iconst hC dX9_isBeneath_0 (v := nI 0) (by decide +kernel) ?_
  refine zr_istore_n hC dX9_isBeneath_1 (by decide) ?_
  refine zr_iload_n hC dX9_isBeneath_2 rfl ?_
  refine zr_istore_n hC dX9_isBeneath_3 (by decide) ?_
  refine zR_sub [(1, .int (nI v)), (2, .int (zb false)), (3, .int (nI u))] ⟨rfl, rfl, rfl, trivial⟩ (l9_isBen hC hv 5 u false hu hu (fun lv h => ?_))
  refine zr_iload_n hC dX9_isBeneath_30 h ?_
  exact zr_zreturn hC hE dX9_isBeneath_31 (zb_01 _) (hr _ _ (hQ _ (zb_or2 (bnf 5 u v))))
set_option maxHeartbeats 4000000 in
set_option maxRecDepth 100000 in
theorem l9_beneath {C : zCx} {τ : Nat → ClassId} {ι : Nat → Nat} (hC : zOK C τ (zrm 1 0 0) yX9_beneath.cls cX9_beneath 4) {S : zS} {D : zD} {v : Nat} (hM : MW (S.1 246) D) (hv : v < 1000) (k : ∀ lv, zlk 2 lv = some (.int (nI (sm (D 0) v))) → zR C τ ι 4 0 0 39 lv [] (zcells S)) : ∀ (d i : Nat), i + d = 16 → zR C τ ι 4 0 0 4 [(0, .ref 245), (1, .int (nI v)), (2, .int (nI (dmn (fun m => bn (D 0 m) v) i))), (3, .int (nI i))] [] (zcells S) := by
  intro d
  induction d with
  | zero =>
    intro i hi
    refine zr_iload_n hC dX9_beneath_4 rfl ?_
    refine zk_bipush hC dX9_beneath_5 (v := nI 16) (by decide +kernel) ?_
    refine zr_icmp_ge hC dX9_beneath_7 (tgt := 39) (by decide) (fun c_7 => ?_) (fun c => absurd c (not_not_intro (nI_le (by omega) (by omega))))
    exact k _ (by obtain rfl : i = 16 := (by omega); rfl)
  | succ d ih =>
    intro i hi
    refine zr_iload_n hC dX9_beneath_4 rfl ?_
    refine zk_bipush hC dX9_beneath_5 (v := nI 16) (by decide +kernel) ?_
    refine zr_icmp_ge hC dX9_beneath_7 (tgt := 39) (by decide) (fun c => absurd c (nI_ge (by omega) (by omega))) (fun c_7 => ?_)
    refine zr_iload_n hC dX9_beneath_10 rfl ?_
    refine zr_aload_n hC dX9_beneath_11 rfl ?_
    refine zr_iload_n hC dX9_beneath_12 rfl ?_
    refine zk_iconst hC dX9_beneath_13 (v := nI 0) (by decide +kernel) ?_
    refine zs_callV hC (b := 245) [_, _] [_] dX9_beneath_14 ml_X9_64 mtX9_of tX9_of (by decide) (by decide) (by decide) rfl rfl (by decide) (by decide +kernel) (Nat.le_of_ble_eq_true rfl) rfl ?_
    refine ⟨i, 0, rfl, by omega, by decide, ?_⟩
    rw [show S.1 246 (4 + 6 * i + 0) = nI (D 0 i) from hM.mem (show i < 16 by omega) (by decide)]
    dsimp only [Option.toList, List.cons_append, List.nil_append]
    refine zr_iload_n hC dX9_beneath_17 rfl ?_
    refine zs_callS hC [_, _] [_] dX9_beneath_18 ml_X9_77 mtX9_isBeneath tX9_isBeneath (by decide) (by decide) (by decide) rfl (Nat.le_of_ble_eq_true rfl) rfl ?_
    refine ⟨D 0 i, v, rfl, hM.lt0 (by omega), hv, fun r e => ?_⟩
    rcases e with ⟨rfl, hx⟩ | ⟨rfl, hx⟩
    · dsimp only [Option.toList, List.cons_append, List.nil_append]
      refine zr_if_eq hC dX9_beneath_21 (tgt := 30) (by decide) (fun c => absurd c (by decide +kernel)) (fun c_21 => ?_)
      refine zk_iconst hC dX9_beneath_24 (v := nI 1) (by decide +kernel) ?_
      refine zr_iload_n hC dX9_beneath_25 rfl ?_
      refine zn_ishl hC dX9_beneath_26 (z_shl1 i (by omega)) ?_
      refine zr_goto hC dX9_beneath_27 (tgt := 31) (by decide) ?_
      refine zn_ior hC dX9_beneath_31 (dmn_y (P := fun m => bn (D 0 m) v) hx) ?_
      refine zr_istore_n hC dX9_beneath_32 (by decide) ?_
      refine zn_iinc hC dX9_beneath_33 rfl (by decide) (zk_inc _ 1) ?_
      refine zr_goto hC dX9_beneath_36 (tgt := 4) (by decide) ?_
      exact zR_sub [(0, .ref 245), (1, .int (nI v)), (2, .int (nI (dmn (fun m => bn (D 0 m) v) (i + 1)))), (3, .int (nI (i + 1)))] ⟨rfl, rfl, rfl, rfl, trivial⟩ (ih (i + 1) (by omega))
    · dsimp only [Option.toList, List.cons_append, List.nil_append]
      refine zr_if_eq hC dX9_beneath_21 (tgt := 30) (by decide) (fun c_21 => ?_) (fun c => absurd c (by decide +kernel))
      refine zk_iconst hC dX9_beneath_30 (v := nI 0) (by decide +kernel) ?_
      refine zn_ior hC dX9_beneath_31 (dmn_n (P := fun m => bn (D 0 m) v) hx) ?_
      refine zr_istore_n hC dX9_beneath_32 (by decide) ?_
      refine zn_iinc hC dX9_beneath_33 rfl (by decide) (zk_inc _ 1) ?_
      refine zr_goto hC dX9_beneath_36 (tgt := 4) (by decide) ?_
      exact zR_sub [(0, .ref 245), (1, .int (nI v)), (2, .int (nI (dmn (fun m => bn (D 0 m) v) (i + 1)))), (3, .int (nI (i + 1)))] ⟨rfl, rfl, rfl, rfl, trivial⟩ (ih (i + 1) (by omega))
def spX9_beneath : zSp := fun av S Q => ∃ (v : Nat) (D : zD), av = [.ref 245, .int (nI v)] ∧ v < 1000 ∧ MW (S.1 246) D ∧ Q (some (.int (nI (sm (D 0) v)))) S
set_option maxHeartbeats 4000000 in
set_option maxRecDepth 100000 in
theorem tX9_beneath : zM yX9_beneath cX9_beneath 4 (some .int) 1 spX9_beneath := by
  refine zM.of (by decide) (by decide) (fun av S Q h => by obtain ⟨v, D, rfl, hv, hM, hQ⟩ := h; exact Nat.le_of_ble_eq_true rfl) (fun C τ ι av S Q Qr h hr hC hE => ?_)
  obtain ⟨v, D, rfl, hv, hM, hQ⟩ := h
  show zR C τ ι _ 0 0 0 [(0, .ref 245), (1, .int (nI v))] [] _
  refine zk_iconst hC dX9_beneath_0 (v := nI 0) (by decide +kernel) ?_
  refine zr_istore_n hC dX9_beneath_1 (by decide) ?_
  refine zk_iconst hC dX9_beneath_2 (v := nI 0) (by decide +kernel) ?_
  refine zr_istore_n hC dX9_beneath_3 (by decide) ?_
  refine zR_sub [(0, .ref 245), (1, .int (nI v)), (2, .int (nI (dmn (fun m => bn (D 0 m) v) 0))), (3, .int (nI 0))] ⟨rfl, rfl, rfl, rfl, trivial⟩ (l9_beneath hC hM hv (fun lv h => ?_) 16 0 (by omega))
  refine zr_iload_n hC dX9_beneath_39 h ?_
  exact zr_ireturn hC hE dX9_beneath_40 (hr _ _ hQ)
/-- the last key that was made for v, told by going through all -/
def fnd (D : zD) (v : Nat) : Nat → Int32
  | 0 => -4
  | n + 1 => if D 7 n = v then nI n else fnd D v n
def kofm (D : zD) (v : Nat) : Int32 := if sm (D 0) v = 0 then -4 else fnd D v (D 6 0)
theorem fnd_is {D : zD} {v : Nat} : ∀ n, (∃ k, k < n ∧ D 7 k = v) → fnd D v n = nI (lastk D v n)
  | 0, ⟨k, h, _⟩ => by omega
  | n + 1, ⟨k, h, e⟩ => by
    unfold fnd lastk
    by_cases hn : D 7 n = v
    · rw [if_pos hn, if_pos hn]
    · rw [if_neg hn, if_neg hn]
      have : k ≠ n := fun q => hn (q ▸ e)
      exact fnd_is n ⟨k, by omega, e⟩
theorem kofm_is {D : zD} {v : Nat} (h : sm (D 0) v ≠ 0 → ∃ k, k < D 6 0 ∧ D 7 k = v) : kofm D v = kof (D 0) D v := by
  unfold kofm kof
  by_cases hs : sm (D 0) v = 0
  · rw [if_pos hs, if_pos hs]
  · rw [if_neg hs, if_neg hs]; exact fnd_is _ (h hs)
set_option maxHeartbeats 4000000 in
set_option maxRecDepth 100000 in
theorem l9_keyOf {C : zCx} {τ : Nat → ClassId} {ι : Nat → Nat} (hC : zOK C τ (zrm 2 0 0) yX9_keyOf.cls cX9_keyOf 4) {S : zS} {D : zD} {v : Nat} (hM : MW (S.1 246) D) (hv : v < 1000) (k : ∀ lv, zlk 0 lv = some (.ref 245) → zlk 1 lv = some (.int (nI v)) → zlk 2 lv = some (.int (fnd D v (D 6 0))) → zR C τ ι 4 0 0 36 lv [] (zcells S)) : ∀ (d i : Nat), i + d = D 6 0 → zR C τ ι 4 0 0 5 [(0, .ref 245), (1, .int (nI v)), (2, .int (fnd D v i)), (3, .int (nI i))] [] (zcells S) := by
  intro d
  induction d with
  | zero =>
    intro i hi
    refine zr_iload_n hC dX9_keyOf_5 rfl ?_
    refine zr_aload_n hC dX9_keyOf_6 rfl ?_
    refine zs_getr hC dX9_keyOf_7 fl_X9_7 (a := 245) (r := 246) rfl (by decide) ?_
    refine zk_iconst hC dX9_keyOf_10 (v := nI 0) (by decide +kernel) ?_
    refine zv_iald hC dX9_keyOf_11 (a := 246) (n := 752) rfl (by decide) (by decide) (j := 0) rfl (by decide) (hM.1.1.1) ?_
    refine zr_icmp_ge hC dX9_keyOf_12 (tgt := 36) (by decide) (fun c_12 => ?_) (fun c => absurd c (not_not_intro (nI_le (by omega) (by have := hM.made; omega))))
    exact k _ rfl rfl (by rw [show D 6 0 = i by omega]; rfl)
  | succ d ih =>
    intro i hi
    refine zr_iload_n hC dX9_keyOf_5 rfl ?_
    refine zr_aload_n hC dX9_keyOf_6 rfl ?_
    refine zs_getr hC dX9_keyOf_7 fl_X9_7 (a := 245) (r := 246) rfl (by decide) ?_
    refine zk_iconst hC dX9_keyOf_10 (v := nI 0) (by decide +kernel) ?_
    refine zv_iald hC dX9_keyOf_11 (a := 246) (n := 752) rfl (by decide) (by decide) (j := 0) rfl (by decide) (hM.1.1.1) ?_
    refine zr_icmp_ge hC dX9_keyOf_12 (tgt := 36) (by decide) (fun c => absurd c (nI_ge (by omega) (by have := hM.made; omega))) (fun c_12 => ?_)
    refine zr_aload_n hC dX9_keyOf_15 rfl ?_
    refine zr_iload_n hC dX9_keyOf_16 rfl ?_
    refine zs_callV hC (b := 245) [_] [] dX9_keyOf_17 ml_X9_80 mtX9_nodeOf tX9_nodeOf (by decide) (by decide) (by decide) rfl rfl (by decide) (by decide +kernel) (Nat.le_of_ble_eq_true rfl) rfl ?_
    refine ⟨i, D, rfl, by omega, hM, ?_⟩
    have hb := hM.keyb (show i < D 6 0 by omega)
    dsimp only [Option.toList, List.cons_append, List.nil_append]
    refine zr_iload_n hC dX9_keyOf_20 rfl ?_
    refine zr_icmp_ne hC dX9_keyOf_21 (tgt := 28) (by decide) (fun c_21 => ?_) (fun c_21 => ?_)
    · have hf : fnd D v (i + 1) = fnd D v i := if_neg (fun q => c_21 (by rw [q]))
      refine zr_iload_n hC dX9_keyOf_28 rfl ?_
      refine zr_istore_n hC dX9_keyOf_29 (by decide) ?_
      refine zn_iinc hC dX9_keyOf_30 rfl (by decide) (zk_inc _ 1) ?_
      refine zr_goto hC dX9_keyOf_33 (tgt := 5) (by decide) ?_
      exact zR_sub [(0, .ref 245), (1, .int (nI v)), (2, .int (fnd D v (i + 1))), (3, .int (nI (i + 1)))] ⟨rfl, rfl, by rw [hf]; rfl, rfl, trivial⟩ (ih (i + 1) (by omega))
    · have hf : fnd D v (i + 1) = nI i := if_pos ((nI_eq (by omega) (by omega)).mp c_21)
      refine zr_iload_n hC dX9_keyOf_24 rfl ?_
      refine zr_goto hC dX9_keyOf_25 (tgt := 29) (by decide) ?_
      refine zr_istore_n hC dX9_keyOf_29 (by decide) ?_
      refine zn_iinc hC dX9_keyOf_30 rfl (by decide) (zk_inc _ 1) ?_
      refine zr_goto hC dX9_keyOf_33 (tgt := 5) (by decide) ?_
      exact zR_sub [(0, .ref 245), (1, .int (nI v)), (2, .int (fnd D v (i + 1))), (3, .int (nI (i + 1)))] ⟨rfl, rfl, by rw [hf]; rfl, rfl, trivial⟩ (ih (i + 1) (by omega))
def spX9_keyOf : zSp := fun av S Q => ∃ (v : Nat) (D : zD), av = [.ref 245, .int (nI v)] ∧ v < 1000 ∧ MW (S.1 246) D ∧ Q (some (.int (kofm D v))) S
set_option maxHeartbeats 4000000 in
set_option maxRecDepth 100000 in
theorem tX9_keyOf : zM yX9_keyOf cX9_keyOf 4 (some .int) 2 spX9_keyOf := by
  refine zM.of (by decide) (by decide) (fun av S Q h => by obtain ⟨v, D, rfl, hv, hM, hQ⟩ := h; exact Nat.le_of_ble_eq_true rfl) (fun C τ ι av S Q Qr h hr hC hE => ?_)
  obtain ⟨v, D, rfl, hv, hM, hQ⟩ := h
  show zR C τ ι _ 0 0 0 [(0, .ref 245), (1, .int (nI v))] [] _
  refine zk_bipush hC dX9_keyOf_0 (v := (-4)) (by decide +kernel) ?_
  refine zr_istore_n hC dX9_keyOf_2 (by decide) ?_
  refine zk_iconst hC dX9_keyOf_3 (v := nI 0) (by decide +kernel) ?_
  refine zr_istore_n hC dX9_keyOf_4 (by decide) ?_
  refine zR_sub [(0, .ref 245), (1, .int (nI v)), (2, .int (fnd D v 0)), (3, .int (nI 0))] ⟨rfl, rfl, rfl, rfl, trivial⟩ (l9_keyOf hC hM hv (fun lv h0 h1 h2 => ?_) (D 6 0) 0 (by omega))
  refine zR_sub [(0, .ref 245), (1, .int (nI v)), (2, .int (fnd D v (D 6 0)))] ⟨h0, h1, h2, trivial⟩ ?_
  refine zr_aload_n hC dX9_keyOf_36 rfl ?_
  refine zr_iload_n hC dX9_keyOf_37 rfl ?_
  refine zs_callV hC (b := 245) [_] [] dX9_keyOf_38 ml_X9_84 mtX9_beneath tX9_beneath (by decide) (by decide) (by decide) rfl rfl (by decide) (by decide +kernel) (Nat.le_of_ble_eq_true rfl) rfl ?_
  refine ⟨v, D, rfl, hv, hM, ?_⟩
  dsimp only [Option.toList, List.cons_append, List.nil_append]
  refine zr_if_ne hC dX9_keyOf_41 (tgt := 49) (by decide) (fun c_41 => ?_) (fun c_41 => ?_)
  · rw [z_ne0 (Nat.lt_trans (sm_lt _ _) (by decide))] at c_41
    rw [show kofm D v = fnd D v (D 6 0) from if_neg c_41] at hQ
    refine zr_iload_n hC dX9_keyOf_49 rfl ?_
    exact zr_ireturn hC hE dX9_keyOf_50 (hr _ _ (hQ))
  · rw [z_ne0 (Nat.lt_trans (sm_lt _ _) (by decide))] at c_41
    rw [show kofm D v = -4 from if_pos c_41] at hQ
    refine zk_bipush hC dX9_keyOf_44 (v := (-4)) (by decide +kernel) ?_
    refine zr_goto hC dX9_keyOf_46 (tgt := 50) (by decide) ?_
    exact zr_ireturn hC hE dX9_keyOf_50 (hr _ _ (hQ))
def spX9_isFull : zSp := fun av S Q => ∃ (D : zD), av = [.ref 245] ∧ MW (S.1 246) D ∧ ∀ r, (r = nI 1 ∧ (200 ≤ D 6 0 ∨ 160 ≤ D 6 1)) ∨ (r = nI 0 ∧ ¬ (200 ≤ D 6 0 ∨ 160 ≤ D 6 1)) → Q (some (.int r)) S
set_option maxHeartbeats 4000000 in
set_option maxRecDepth 100000 in
theorem tX9_isFull : zM yX9_isFull cX9_isFull 1 (some .boolean) 0 spX9_isFull := by
  refine zM.of (by decide) (by decide) (fun av S Q h => by obtain ⟨D, rfl, hM, hQ⟩ := h; exact Nat.le_of_ble_eq_true rfl) (fun C τ ι av S Q Qr h hr hC hE => ?_)
  obtain ⟨D, rfl, hM, hQ⟩ := h
  show zR C τ ι _ 0 0 0 [(0, .ref 245)] [] _
  refine zr_aload_n hC dX9_isFull_0 rfl ?_
  refine zs_getr hC dX9_isFull_1 fl_X9_7 (a := 245) (r := 246) rfl (by decide) ?_
  refine zk_iconst hC dX9_isFull_4 (v := nI 0) (by decide +kernel) ?_
  refine zv_iald hC dX9_isFull_5 (a := 246) (n := 752) rfl (by decide) (by decide) (j := 0) rfl (by decide) (hM.1.1.1) ?_
  refine zk_sipush hC dX9_isFull_6 (v := nI 200) (by decide +kernel) ?_
  refine zr_icmp_ge hC dX9_isFull_9 (tgt := 24) (by decide) (fun c_9 => ?_) (fun c_9 => ?_)
  · rw [nI_leI (by decide) (by have := hM.made; omega)] at c_9
    refine zk_iconst hC dX9_isFull_24 (v := nI 1) (by decide +kernel) ?_
    refine zr_goto hC dX9_isFull_25 (tgt := 29) (by decide) ?_
    exact zr_zreturn hC hE dX9_isFull_29 (by first | exact Or.inl rfl | exact Or.inr rfl) (hr _ _ (hQ _ (by first | exact Or.inl ⟨rfl, by omega⟩ | exact Or.inr ⟨rfl, by omega⟩)))
  · rw [z_nle (by decide) (by have := hM.made; omega)] at c_9
    refine zr_aload_n hC dX9_isFull_12 rfl ?_
    refine zs_getr hC dX9_isFull_13 fl_X9_7 (a := 245) (r := 246) rfl (by decide) ?_
    refine zk_iconst hC dX9_isFull_16 (v := nI 1) (by decide +kernel) ?_
    refine zv_iald hC dX9_isFull_17 (a := 246) (n := 752) rfl (by decide) (by decide) (j := 1) rfl (by decide) (hM.1.1.2.1) ?_
    refine zk_sipush hC dX9_isFull_18 (v := nI 160) (by decide +kernel) ?_
    refine zr_icmp_lt hC dX9_isFull_21 (tgt := 28) (by decide) (fun c_21 => ?_) (fun c_21 => ?_)
    · rw [nI_ltI (by have := hM.writ; omega) (by decide)] at c_21
      refine zk_iconst hC dX9_isFull_28 (v := nI 0) (by decide +kernel) ?_
      exact zr_zreturn hC hE dX9_isFull_29 (by first | exact Or.inl rfl | exact Or.inr rfl) (hr _ _ (hQ _ (by first | exact Or.inl ⟨rfl, by omega⟩ | exact Or.inr ⟨rfl, by omega⟩)))
    · rw [z_nlt (by have := hM.writ; omega) (by decide)] at c_21
      refine zk_iconst hC dX9_isFull_24 (v := nI 1) (by decide +kernel) ?_
      refine zr_goto hC dX9_isFull_25 (tgt := 29) (by decide) ?_
      exact zr_zreturn hC hE dX9_isFull_29 (by first | exact Or.inl rfl | exact Or.inr rfl) (hr _ _ (hQ _ (by first | exact Or.inl ⟨rfl, by omega⟩ | exact Or.inr ⟨rfl, by omega⟩)))
