/-! THE LAW'S SMALL METHODS: cell, has, bits, mark -/
theorem fkey0 {G : zG} {k : Nat} (hg : GI G) (hk : k < G.1 6 0) : fKey (nI k) (nI 0) G = nI (G.1 7 k) := (fkey hg hk (by decide)).trans rfl
theorem fkey1 {G : zG} {k : Nat} (hg : GI G) (hk : k < G.1 6 0) : fKey (nI k) (nI 1) G = nI (G.1 8 k) := (fkey hg hk (by decide)).trans rfl
theorem fkey2 {G : zG} {k : Nat} (hg : GI G) (hk : k < G.1 6 0) : fKey (nI k) (nI 2) G = if kof (G.1 0) G.1 (G.1 7 k) = nI k then nI 1 else nI 0 := (fkey hg hk (by decide)).trans rfl
theorem fkey3 {G : zG} {k : Nat} (hg : GI G) (hk : k < G.1 6 0) : fKey (nI k) (nI 3) G = nI (G.1 9 k) := (fkey hg hk (by decide)).trans rfl
theorem flet0 {G : zG} {i : Nat} (hg : GI G) (hi : i < G.1 6 1) : fLetter (nI i) (nI 0) G = nI (G.1 10 i) := (flet hg hi (by decide)).trans rfl
theorem flet1 {G : zG} {i : Nat} (hg : GI G) (hi : i < G.1 6 1) : fLetter (nI i) (nI 1) G = nI (G.1 11 i) := (flet hg hi (by decide)).trans rfl
theorem flet2 {G : zG} {i : Nat} (hg : GI G) (hi : i < G.1 6 1) : fLetter (nI i) (nI 2) G = lbI (G.1 12 i) := (flet hg hi (by decide)).trans rfl
theorem z_sm31 : ∀ k, k < 32 → ((nI k &&& 31).toBitVec.smod 32).toNat = k := by decide +kernel
theorem z_shrk {s k : Nat} (hs : s < 2147483648) (hk : k < 32) : nI s >>> (nI k &&& 31) = nI (s / 2 ^ k) := pk_shrN hs _ k (z_sm31 k hk)
theorem z_bit1 (s k : Nat) : nI (s / 2 ^ k) &&& nI 1 = zb (s.testBit k) := by
  rw [show (1 : Nat) = 2 ^ 1 - 1 from rfl, fa_mask, Nat.testBit_eq_decide_div_mod_eq]
  by_cases q : s / 2 ^ k % 2 = 1
  · rw [decide_eq_true q]
    show nI (s / 2 ^ k % 2) = nI 1
    rw [q]
  · rw [decide_eq_false q]
    show nI (s / 2 ^ k % 2) = nI 0
    rw [show s / 2 ^ k % 2 = 0 by omega]
theorem zb_is1 {b : Bool} : zb b = nI 1 ↔ b = true := by cases b <;> decide
theorem and256 {a b c d : Nat} (hb : b < 256) (hd : d < 256) : (256 * a + b) &&& (256 * c + d) = 256 * (a &&& c) + (b &&& d) := by
  refine Nat.eq_of_testBit_eq (fun i => ?_)
  have hbd : b &&& d < 2 ^ 8 := Nat.and_lt_two_pow _ hd
  rw [Nat.testBit_and, show 256 = 2 ^ 8 from rfl, Nat.testBit_two_pow_mul_add _ (show b < 2 ^ 8 from hb), Nat.testBit_two_pow_mul_add _ (show d < 2 ^ 8 from hd), Nat.testBit_two_pow_mul_add _ hbd]
  split <;> rw [Nat.testBit_and]
theorem low_byte : ∀ b, b < 256 → b ≠ 0 → pcn 8 (b &&& (b - 1)) + 1 = pcn 8 b ∧ b &&& (b - 1) < 256 := by decide +kernel
theorem pcn_low {x : Nat} (hx : x < 65536) (h0 : x ≠ 0) : pcn 16 (x &&& (x - 1)) + 1 = pcn 16 x ∧ x &&& (x - 1) < 65536 := by
  obtain ⟨a, b, ha, hb, rfl⟩ : ∃ a b, a < 256 ∧ b < 256 ∧ x = 256 * a + b := ⟨x / 256, x % 256, by omega, by omega, by omega⟩
  refine ⟨?_, Nat.and_lt_two_pow (n := 16) _ (by omega)⟩
  by_cases q : b = 0
  · subst q
    have ha0 : a ≠ 0 := by omega
    have e : 256 * a + 0 - 1 = 256 * (a - 1) + 255 := by omega
    rw [e, and256 (by decide) (by decide), Nat.zero_and, pcn_split (by decide), pcn_split (by decide)]
    have := (low_byte a ha ha0).1
    omega
  · have e : 256 * a + b - 1 = 256 * a + (b - 1) := by omega
    rw [e, and256 hb (by omega), Nat.and_self, pcn_split (low_byte b hb q).2, pcn_split hb]
    have := (low_byte b hb q).1
    omega
/-- a cell of the script, or what stands for it -/
def pcell (L : Nat) (xs : Nat → Int32) (k : Nat) : Nat := ((if k < L then xs k else nI 15485957 * nI k + nI 107) &&& 2147483647).toBitVec.toNat
theorem z_7f (x : Int32) : x &&& 2147483647 = nI (x.toBitVec.toNat % 2147483648) := by
  have e : x = nI x.toBitVec.toNat := by
    apply Int32.toBitVec_inj.1
    show x.toBitVec = BitVec.ofNat 32 x.toBitVec.toNat
    simp
  have h := fa_mask x.toBitVec.toNat 31
  rw [← e] at h
  exact h
theorem pcell_lt (L : Nat) (xs : Nat → Int32) (k : Nat) : pcell L xs k < 2147483648 := by
  unfold pcell
  rw [z_7f, pk_tn (by omega)]
  exact Nat.mod_lt _ (by decide)
theorem pcell_eq (L : Nat) (xs : Nat → Int32) (k : Nat) : (if k < L then xs k else nI 15485957 * nI k + nI 107) &&& 2147483647 = nI (pcell L xs k) := by
  unfold pcell
  rw [z_7f, pk_tn (by have := Nat.mod_lt (if k < L then xs k else nI 15485957 * nI k + nI 107).toBitVec.toNat (show 0 < 2147483648 by decide); omega)]
def spL_cell : zSpS := fun L xs av S Q => ∃ k : Nat, av = [.ref 245, .int (nI k)] ∧ k < 16 ∧ L ≤ 260 ∧ Q (some (.int (nI (pcell L xs k)))) S
set_option maxHeartbeats 4000000 in
set_option maxRecDepth 100000 in
theorem tL_cell : zMS yL_cell cL_cell 2 (some .int) 0 spL_cell := by
  refine zMS.of (by decide) (by decide) (fun L xs av S Q h => by obtain ⟨k, rfl, hk, hL, hQ⟩ := h; exact Nat.le_of_ble_eq_true rfl) (fun C τ ι av S Q Qr L xs h hr hC hX hE => ?_)
  obtain ⟨k, rfl, hk, hL, hQ⟩ := h
  show zR C τ ι _ 0 0 0 [(0, .ref 245), (1, .int (nI k))] [] _
  refine zr_iload_n hC dL_cell_0 rfl ?_
  refine zr_aload_n hC dL_cell_1 rfl ?_
  refine zs_slen hC hX dL_cell_2 ?_
  refine zr_icmp_ge hC dL_cell_3 (tgt := 12) (by decide) (fun c_3 => ?_) (fun c_3 => ?_)
  · rw [nI_leI (by omega) (by omega)] at c_3
    rw [← pcell_eq, if_neg (by omega)] at hQ
    refine zr_ldc hC dL_cell_12 kc_L_7 ?_
    refine zr_iload_n hC dL_cell_14 rfl ?_
    refine zr_imul hC dL_cell_15 ?_
    refine zk_bipush hC dL_cell_16 (v := nI 107) (by decide +kernel) ?_
    refine zr_iadd hC dL_cell_18 ?_
    refine zr_ldc hC dL_cell_19 kc_L_8 ?_
    refine zr_iand hC dL_cell_21 ?_
    exact zr_ireturn hC hE dL_cell_22 (hr _ _ (hQ))
  · rw [nI_leI (by omega) (by omega)] at c_3
    rw [← pcell_eq, if_pos (by omega)] at hQ
    refine zr_aload_n hC dL_cell_6 rfl ?_
    refine zr_iload_n hC dL_cell_7 rfl ?_
    refine zs_sld hC hX (vp_in_n (j := k) (by omega) (by omega)) dL_cell_8 ?_
    rw [nI_toNat (by omega)]
    refine zr_goto hC dL_cell_9 (tgt := 19) (by decide) ?_
    refine zr_ldc hC dL_cell_19 kc_L_8 ?_
    refine zr_iand hC dL_cell_21 ?_
    exact zr_ireturn hC hE dL_cell_22 (hr _ _ (hQ))
def spL_has : zSp := fun av S Q => ∃ s k : Nat, av = [.int (nI s), .int (nI k)] ∧ s < 65536 ∧ k < 16 ∧ Q (some (.int (zb (s.testBit k)))) S
set_option maxHeartbeats 4000000 in
set_option maxRecDepth 100000 in
theorem tL_has : zM yL_has cL_has 2 (some .boolean) 0 spL_has := by
  refine zM.of (by decide) (by decide) (fun av S Q h => by obtain ⟨s, k, rfl, hs, hk, hQ⟩ := h; exact Nat.le_of_ble_eq_true rfl) (fun C τ ι av S Q Qr h hr hC hE => ?_)
  obtain ⟨s, k, rfl, hs, hk, hQ⟩ := h
  show zR C τ ι _ 0 0 0 [(0, .int (nI s)), (1, .int (nI k))] [] _
  refine zr_iload_n hC dL_has_0 rfl ?_
  refine zr_iload_n hC dL_has_1 rfl ?_
  refine zn_ishr hC dL_has_2 (z_shrk (by omega) (by omega)) ?_
  refine zk_iconst hC dL_has_3 (v := nI 1) (by decide +kernel) ?_
  refine zn_iand hC dL_has_4 (z_bit1 s k) ?_
  refine zk_iconst hC dL_has_5 (v := nI 1) (by decide +kernel) ?_
  refine zr_icmp_ne hC dL_has_6 (tgt := 13) (by decide) (fun c_6 => ?_) (fun c_6 => ?_)
  · have e : s.testBit k = false := by
      cases q : s.testBit k with
      | false => rfl
      | true => exact absurd (zb_is1.mpr q) c_6
    rw [e] at hQ
    refine zk_iconst hC dL_has_13 (v := nI 0) (by decide +kernel) ?_
    exact zr_zreturn hC hE dL_has_14 (by first | exact Or.inl rfl | exact Or.inr rfl) (hr _ _ (hQ))
  · rw [zb_is1.mp c_6] at hQ
    refine zk_iconst hC dL_has_9 (v := nI 1) (by decide +kernel) ?_
    refine zr_goto hC dL_has_10 (tgt := 14) (by decide) ?_
    exact zr_zreturn hC hE dL_has_14 (by first | exact Or.inl rfl | exact Or.inr rfl) (hr _ _ (hQ))
set_option maxHeartbeats 4000000 in
set_option maxRecDepth 100000 in
theorem lL_bits {C : zCx} {τ : Nat → ClassId} {ι : Nat → Nat} (hC : zOK C τ (zrm 0 0 0) yL_bits.cls cL_bits 3) {S : zS} {s : Nat} (k : ∀ {lv : List (Nat × Value)} {a : Nat}, a = pcn 16 s → zR C τ ι 3 0 0 21 lv [.int (nI a)] (zcells S)) : ∀ (n a x : Nat), x < 65536 → a + pcn 16 x = pcn 16 s → pcn 16 x = n → zR C τ ι 3 0 0 4 [(0, .int (nI s)), (1, .int (nI a)), (2, .int (nI x))] [] (zcells S) := by
  intro n
  induction n with
  | zero =>
    intro a x hx h hz
    have hx0 : x = 0 := Nat.eq_of_testBit_eq (fun i => by
      rw [Nat.zero_testBit]
      rcases Nat.lt_or_ge i 16 with hi | hi
      · exact pcn_zero 16 hz i hi
      · exact z_small (n := 16) hx hi)
    refine zr_iload_n hC dL_bits_4 rfl ?_
    refine zr_if_eq hC dL_bits_5 (tgt := 20) (by decide) (fun c_5 => ?_) (fun c => absurd c (not_not_intro (by rw [hx0]; rfl)))
    refine zr_iload_n hC dL_bits_20 rfl ?_
    exact k (by rw [← h, hz, Nat.add_zero])
  | succ n ih =>
    intro a x hx h hz
    have hx0 : x ≠ 0 := fun e => by rw [e, show pcn 16 0 = 0 from by decide] at hz; omega
    have hl := pcn_low hx hx0
    refine zr_iload_n hC dL_bits_4 rfl ?_
    refine zr_if_eq hC dL_bits_5 (tgt := 20) (by decide) (fun c => absurd c (nI_ne0 (by omega) (by omega))) (fun c_5 => ?_)
    refine zn_iinc hC dL_bits_8 rfl (by decide) (zk_inc _ 1) ?_
    refine zr_iload_n hC dL_bits_11 rfl ?_
    refine zr_iload_n hC dL_bits_12 rfl ?_
    refine zk_iconst hC dL_bits_13 (v := nI 1) (by decide +kernel) ?_
    refine zn_isub hC dL_bits_14 (pk_sub (by omega)) ?_
    refine zn_iand hC dL_bits_15 (fa_and _ _) ?_
    refine zr_istore_n hC dL_bits_16 (by decide) ?_
    refine zr_goto hC dL_bits_17 (tgt := 4) (by decide) ?_
    exact zR_sub [(0, .int (nI s)), (1, .int (nI (a + 1))), (2, .int (nI (x &&& (x - 1))))] ⟨rfl, rfl, rfl, trivial⟩ (ih (a + 1) (x &&& (x - 1)) hl.2 (by omega) (by omega))
def spL_bits : zSp := fun av S Q => ∃ s : Nat, av = [.int (nI s)] ∧ s < 65536 ∧ Q (some (.int (nI (pcn 16 s)))) S
set_option maxHeartbeats 4000000 in
set_option maxRecDepth 100000 in
theorem tL_bits : zM yL_bits cL_bits 3 (some .int) 0 spL_bits := by
  refine zM.of (by decide) (by decide) (fun av S Q h => by obtain ⟨s, rfl, hs, hQ⟩ := h; exact Nat.le_of_ble_eq_true rfl) (fun C τ ι av S Q Qr h hr hC hE => ?_)
  obtain ⟨s, rfl, hs, hQ⟩ := h
  show zR C τ ι _ 0 0 0 [(0, .int (nI s))] [] _
  refine zk_iconst hC dL_bits_0 (v := nI 0) (by decide +kernel) ?_
  refine zr_istore_n hC dL_bits_1 (by decide) ?_
  refine zr_iload_n hC dL_bits_2 rfl ?_
  refine zr_istore_n hC dL_bits_3 (by decide) ?_
  refine zR_sub [(0, .int (nI s)), (1, .int (nI 0)), (2, .int (nI s))] ⟨rfl, rfl, rfl, trivial⟩ ?_
  exact lL_bits hC (fun {lv a} e => (by
    rw [e]
    exact zr_ireturn hC hE dL_bits_21 (hr _ _ hQ))) _ 0 s hs (Nat.zero_add _) rfl
/-- all keys with who holds them, all letters, in one number -/
def mkk (D : zD) : Nat → Int32
  | 0 => nI (sm (D 0) 1) + nI 3 * nI (cms D) + nI 5 * nI (lvs D) + nI 7 * nI (sls D)
  | n + 1 => nI 31 * mkk D n + nI (D 7 n) + nI 32 * nI (D 9 n)
def mkl (D : zD) : Nat → Int32
  | 0 => mkk D (D 6 0)
  | n + 1 => nI 31 * mkl D n + nI (D 10 n) + nI 256 * nI (D 11 n)
abbrev mk (D : zD) : Int32 := mkl D (D 6 1)
set_option maxHeartbeats 4000000 in
set_option maxRecDepth 100000 in
theorem lL_mk1 {C : zCx} {τ : Nat → ClassId} {ι : Nat → Nat} (hC : zOK C τ (zrm 3 0 0) yL_mark.cls cL_mark 3) {G : zG} (hg : GI G) (k : ∀ S lv, CG S G → zsub lv [(0, .ref 0), (1, .int (mkk G.1 (G.1 6 0)))] → zR C τ ι 3 0 0 70 lv [] (zcells S)) : ∀ (n i : Nat) (S : zS), i + n = G.1 6 0 → CG S G → zR C τ ι 3 0 0 33 [(0, .ref 0), (1, .int (mkk G.1 i)), (2, .int (nI i))] [] (zcells S) := by
  intro n
  induction n with
  | zero =>
    intro i S hi hc
    have hb1 := hg.1.made
    have hb2 := hg.1.written
    refine zr_iload_n hC dL_mark_33 rfl ?_
    refine zr_aload_n hC dL_mark_34 rfl ?_
    refine zk_iconst hC dL_mark_35 (v := nI 4) (by decide +kernel) ?_
    refine zs_callV hC (b := 0) [_] [_] dL_mark_36 ml_L_37 mtX8_count tX8_count (by decide) (by decide) (by decide) rfl rfl (by decide) (by decide +kernel) (Nat.le_of_ble_eq_true rfl) rfl ?_
    refine ⟨G, _, rfl, hc, hg, fun S hc _ => ?_⟩
    rw [fc_4]
    dsimp only [Option.toList, List.cons_append, List.nil_append]
    refine zr_icmp_ge hC dL_mark_39 (tgt := 70) (by decide) (fun c_39 => ?_) (fun c => absurd c (not_not_intro (nI_le (by omega) (by omega))))
    exact k S _ hc ⟨rfl, by rw [show G.1 6 0 = i by omega]; rfl, trivial⟩
  | succ n ih =>
    intro i S hi hc
    have hb1 := hg.1.made
    have hb2 := hg.1.written
    refine zr_iload_n hC dL_mark_33 rfl ?_
    refine zr_aload_n hC dL_mark_34 rfl ?_
    refine zk_iconst hC dL_mark_35 (v := nI 4) (by decide +kernel) ?_
    refine zs_callV hC (b := 0) [_] [_] dL_mark_36 ml_L_37 mtX8_count tX8_count (by decide) (by decide) (by decide) rfl rfl (by decide) (by decide +kernel) (Nat.le_of_ble_eq_true rfl) rfl ?_
    refine ⟨G, _, rfl, hc, hg, fun S hc _ => ?_⟩
    rw [fc_4]
    dsimp only [Option.toList, List.cons_append, List.nil_append]
    refine zr_icmp_ge hC dL_mark_39 (tgt := 70) (by decide) (fun c => absurd c (nI_ge (by omega) (by omega))) (fun c_39 => ?_)
    refine zk_bipush hC dL_mark_42 (v := nI 31) (by decide +kernel) ?_
    refine zr_iload_n hC dL_mark_44 rfl ?_
    refine zr_imul hC dL_mark_45 ?_
    refine zr_aload_n hC dL_mark_46 rfl ?_
    refine zr_iload_n hC dL_mark_47 rfl ?_
    refine zk_iconst hC dL_mark_48 (v := nI 0) (by decide +kernel) ?_
    refine zs_callV hC (b := 0) [_, _] [_] dL_mark_49 ml_L_63 mtX8_key tX8_key (by decide) (by decide) (by decide) rfl rfl (by decide) (by decide +kernel) (Nat.le_of_ble_eq_true rfl) rfl ?_
    refine ⟨G, _, _, rfl, hc, hg, fun S hc _ => ?_⟩
    rw [fkey0 hg (by omega)]
    dsimp only [Option.toList, List.cons_append, List.nil_append]
    refine zr_iadd hC dL_mark_52 ?_
    refine zk_bipush hC dL_mark_53 (v := nI 32) (by decide +kernel) ?_
    refine zr_aload_n hC dL_mark_55 rfl ?_
    refine zr_iload_n hC dL_mark_56 rfl ?_
    refine zk_iconst hC dL_mark_57 (v := nI 3) (by decide +kernel) ?_
    refine zs_callV hC (b := 0) [_, _] [_, _] dL_mark_58 ml_L_63 mtX8_key tX8_key (by decide) (by decide) (by decide) rfl rfl (by decide) (by decide +kernel) (Nat.le_of_ble_eq_true rfl) rfl ?_
    refine ⟨G, _, _, rfl, hc, hg, fun S hc _ => ?_⟩
    rw [fkey3 hg (by omega)]
    dsimp only [Option.toList, List.cons_append, List.nil_append]
    refine zr_imul hC dL_mark_61 ?_
    refine zr_iadd hC dL_mark_62 ?_
    refine zr_istore_n hC dL_mark_63 (by decide) ?_
    refine zn_iinc hC dL_mark_64 rfl (by decide) (zk_inc _ 1) ?_
    refine zr_goto hC dL_mark_67 (tgt := 33) (by decide) ?_
    exact zR_sub [(0, .ref 0), (1, .int (mkk G.1 (i + 1))), (2, .int (nI (i + 1)))] ⟨rfl, rfl, rfl, trivial⟩ (ih (i + 1) S (by omega) hc)
set_option maxHeartbeats 4000000 in
set_option maxRecDepth 100000 in
theorem lL_mk2 {C : zCx} {τ : Nat → ClassId} {ι : Nat → Nat} (hC : zOK C τ (zrm 3 0 0) yL_mark.cls cL_mark 3) {G : zG} (hg : GI G) (k : ∀ S lv, CG S G → zsub lv [(0, .ref 0), (1, .int (mkl G.1 (G.1 6 1)))] → zR C τ ι 3 0 0 110 lv [] (zcells S)) : ∀ (n i : Nat) (S : zS), i + n = G.1 6 1 → CG S G → zR C τ ι 3 0 0 72 [(0, .ref 0), (1, .int (mkl G.1 i)), (2, .int (nI i))] [] (zcells S) := by
  intro n
  induction n with
  | zero =>
    intro i S hi hc
    have hb1 := hg.1.made
    have hb2 := hg.1.written
    refine zr_iload_n hC dL_mark_72 rfl ?_
    refine zr_aload_n hC dL_mark_73 rfl ?_
    refine zk_iconst hC dL_mark_74 (v := nI 5) (by decide +kernel) ?_
    refine zs_callV hC (b := 0) [_] [_] dL_mark_75 ml_L_37 mtX8_count tX8_count (by decide) (by decide) (by decide) rfl rfl (by decide) (by decide +kernel) (Nat.le_of_ble_eq_true rfl) rfl ?_
    refine ⟨G, _, rfl, hc, hg, fun S hc _ => ?_⟩
    rw [fc_5]
    dsimp only [Option.toList, List.cons_append, List.nil_append]
    refine zr_icmp_ge hC dL_mark_78 (tgt := 110) (by decide) (fun c_78 => ?_) (fun c => absurd c (not_not_intro (nI_le (by omega) (by omega))))
    exact k S _ hc ⟨rfl, by rw [show G.1 6 1 = i by omega]; rfl, trivial⟩
  | succ n ih =>
    intro i S hi hc
    have hb1 := hg.1.made
    have hb2 := hg.1.written
    refine zr_iload_n hC dL_mark_72 rfl ?_
    refine zr_aload_n hC dL_mark_73 rfl ?_
    refine zk_iconst hC dL_mark_74 (v := nI 5) (by decide +kernel) ?_
    refine zs_callV hC (b := 0) [_] [_] dL_mark_75 ml_L_37 mtX8_count tX8_count (by decide) (by decide) (by decide) rfl rfl (by decide) (by decide +kernel) (Nat.le_of_ble_eq_true rfl) rfl ?_
    refine ⟨G, _, rfl, hc, hg, fun S hc _ => ?_⟩
    rw [fc_5]
    dsimp only [Option.toList, List.cons_append, List.nil_append]
    refine zr_icmp_ge hC dL_mark_78 (tgt := 110) (by decide) (fun c => absurd c (nI_ge (by omega) (by omega))) (fun c_78 => ?_)
    refine zk_bipush hC dL_mark_81 (v := nI 31) (by decide +kernel) ?_
    refine zr_iload_n hC dL_mark_83 rfl ?_
    refine zr_imul hC dL_mark_84 ?_
    refine zr_aload_n hC dL_mark_85 rfl ?_
    refine zr_iload_n hC dL_mark_86 rfl ?_
    refine zk_iconst hC dL_mark_87 (v := nI 0) (by decide +kernel) ?_
    refine zs_callV hC (b := 0) [_, _] [_] dL_mark_88 ml_L_67 mtX8_letter tX8_letter (by decide) (by decide) (by decide) rfl rfl (by decide) (by decide +kernel) (Nat.le_of_ble_eq_true rfl) rfl ?_
    refine ⟨G, _, _, rfl, hc, hg, fun S hc _ => ?_⟩
    rw [flet0 hg (by omega)]
    dsimp only [Option.toList, List.cons_append, List.nil_append]
    refine zr_iadd hC dL_mark_91 ?_
    refine zk_sipush hC dL_mark_92 (v := nI 256) (by decide +kernel) ?_
    refine zr_aload_n hC dL_mark_95 rfl ?_
    refine zr_iload_n hC dL_mark_96 rfl ?_
    refine zk_iconst hC dL_mark_97 (v := nI 1) (by decide +kernel) ?_
    refine zs_callV hC (b := 0) [_, _] [_, _] dL_mark_98 ml_L_67 mtX8_letter tX8_letter (by decide) (by decide) (by decide) rfl rfl (by decide) (by decide +kernel) (Nat.le_of_ble_eq_true rfl) rfl ?_
    refine ⟨G, _, _, rfl, hc, hg, fun S hc _ => ?_⟩
    rw [flet1 hg (by omega)]
    dsimp only [Option.toList, List.cons_append, List.nil_append]
    refine zr_imul hC dL_mark_101 ?_
    refine zr_iadd hC dL_mark_102 ?_
    refine zr_istore_n hC dL_mark_103 (by decide) ?_
    refine zn_iinc hC dL_mark_104 rfl (by decide) (zk_inc _ 1) ?_
    refine zr_goto hC dL_mark_107 (tgt := 72) (by decide) ?_
    exact zR_sub [(0, .ref 0), (1, .int (mkl G.1 (i + 1))), (2, .int (nI (i + 1)))] ⟨rfl, rfl, rfl, trivial⟩ (ih (i + 1) S (by omega) hc)
def spL_mark : zSp := fun av S Q => ∃ G : zG, av = [.ref 0] ∧ CG S G ∧ GI G ∧ ∀ S', CG S' G → Q (some (.int (mk G.1))) S'
set_option maxHeartbeats 4000000 in
set_option maxRecDepth 100000 in
theorem tL_mark : zM yL_mark cL_mark 3 (some .int) 3 spL_mark := by
  refine zM.of (by decide) (by decide) (fun av S Q h => by obtain ⟨G, rfl, hc, hg, hQ⟩ := h; exact Nat.le_of_ble_eq_true rfl) (fun C τ ι av S Q Qr h hr hC hE => ?_)
  obtain ⟨G, rfl, hc, hg, hQ⟩ := h
  show zR C τ ι _ 0 0 0 [(0, .ref 0)] [] _
  refine zr_aload_n hC dL_mark_0 rfl ?_
  refine zk_iconst hC dL_mark_1 (v := nI 0) (by decide +kernel) ?_
  refine zs_callV hC (b := 0) [_] [] dL_mark_2 ml_L_37 mtX8_count tX8_count (by decide) (by decide) (by decide) rfl rfl (by decide) (by decide +kernel) (Nat.le_of_ble_eq_true rfl) rfl ?_
  refine ⟨G, _, rfl, hc, hg, fun S hc _ => ?_⟩
  rw [fc_0]
  dsimp only [Option.toList, List.cons_append, List.nil_append]
  refine zk_iconst hC dL_mark_5 (v := nI 3) (by decide +kernel) ?_
  refine zr_aload_n hC dL_mark_6 rfl ?_
  refine zk_iconst hC dL_mark_7 (v := nI 1) (by decide +kernel) ?_
  refine zs_callV hC (b := 0) [_] [_, _] dL_mark_8 ml_L_37 mtX8_count tX8_count (by decide) (by decide) (by decide) rfl rfl (by decide) (by decide +kernel) (Nat.le_of_ble_eq_true rfl) rfl ?_
  refine ⟨G, _, rfl, hc, hg, fun S hc _ => ?_⟩
  rw [fc_1]
  dsimp only [Option.toList, List.cons_append, List.nil_append]
  refine zr_imul hC dL_mark_11 ?_
  refine zr_iadd hC dL_mark_12 ?_
  refine zk_iconst hC dL_mark_13 (v := nI 5) (by decide +kernel) ?_
  refine zr_aload_n hC dL_mark_14 rfl ?_
  refine zk_iconst hC dL_mark_15 (v := nI 2) (by decide +kernel) ?_
  refine zs_callV hC (b := 0) [_] [_, _] dL_mark_16 ml_L_37 mtX8_count tX8_count (by decide) (by decide) (by decide) rfl rfl (by decide) (by decide +kernel) (Nat.le_of_ble_eq_true rfl) rfl ?_
  refine ⟨G, _, rfl, hc, hg, fun S hc _ => ?_⟩
  rw [fc_2]
  dsimp only [Option.toList, List.cons_append, List.nil_append]
  refine zr_imul hC dL_mark_19 ?_
  refine zr_iadd hC dL_mark_20 ?_
  refine zk_bipush hC dL_mark_21 (v := nI 7) (by decide +kernel) ?_
  refine zr_aload_n hC dL_mark_23 rfl ?_
  refine zk_iconst hC dL_mark_24 (v := nI 3) (by decide +kernel) ?_
  refine zs_callV hC (b := 0) [_] [_, _] dL_mark_25 ml_L_37 mtX8_count tX8_count (by decide) (by decide) (by decide) rfl rfl (by decide) (by decide +kernel) (Nat.le_of_ble_eq_true rfl) rfl ?_
  refine ⟨G, _, rfl, hc, hg, fun S hc _ => ?_⟩
  rw [fc_3]
  dsimp only [Option.toList, List.cons_append, List.nil_append]
  refine zr_imul hC dL_mark_28 ?_
  refine zr_iadd hC dL_mark_29 ?_
  refine zr_istore_n hC dL_mark_30 (by decide) ?_
  refine zk_iconst hC dL_mark_31 (v := nI 0) (by decide +kernel) ?_
  refine zr_istore_n hC dL_mark_32 (by decide) ?_
  refine zR_sub [(0, .ref 0), (1, .int (mkk G.1 0)), (2, .int (nI 0))] ⟨rfl, rfl, rfl, trivial⟩ ?_
  refine lL_mk1 hC hg (fun S lv hc h => ?_) (G.1 6 0) 0 S (Nat.zero_add _) hc
  obtain ⟨v0, v1, -⟩ := h
  refine zR_sub [(0, .ref 0), (1, .int (mkl G.1 0))] ⟨v0, v1, trivial⟩ ?_
  refine zk_iconst hC dL_mark_70 (v := nI 0) (by decide +kernel) ?_
  refine zr_istore_n hC dL_mark_71 (by decide) ?_
  refine zR_sub [(0, .ref 0), (1, .int (mkl G.1 0)), (2, .int (nI 0))] ⟨rfl, rfl, rfl, trivial⟩ ?_
  refine lL_mk2 hC hg (fun S lv hc h => ?_) (G.1 6 1) 0 S (Nat.zero_add _) hc
  obtain ⟨v0, v1, -⟩ := h
  refine zr_iload_n hC dL_mark_110 v1 ?_
  exact zr_ireturn hC hE dL_mark_111 (hr _ _ (hQ _ hc))
