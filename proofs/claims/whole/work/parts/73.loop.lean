/-! THE LAW'S LOOP -/
theorem lw_and (x : Int32) : ∃ k, k < 32 ∧ x &&& nI 31 = nI k := ⟨x.toBitVec.toNat % 32, Nat.mod_lt _ (by decide), by
  have e : x = nI x.toBitVec.toNat := by
    apply Int32.toBitVec_inj.1
    show x.toBitVec = BitVec.ofNat 32 x.toBitVec.toNat
    simp
  rw [e, show (31 : Nat) = 2 ^ 5 - 1 from rfl, fa_mask, ← e]⟩
theorem lw_end {L i : Nat} (hL : L ≤ 3072) (hi : i ≤ 3072) : nI L - nI 6 < nI i ↔ L < i + 6 := by
  rw [Int32.lt_iff_toInt_lt, nI_toInt (by omega)]
  have e : (nI L - nI 6).toInt = (L : Int) - 6 := by
    rw [Int32.toInt_sub, nI_toInt (by omega), nI_toInt (by omega)]
    rw [Int.bmod_eq_of_le (by omega) (by omega)]
    rfl
  rw [e]
  omega
theorem law_loop {C : zCx} {τ : Nat → ClassId} {ι : Nat → Nat} {kc ks L : Nat} {xs : Nat → Int32} (hC : zOK C τ room_1 RL cL_law 4) (hE : zLw C) (hX : zSc C ι L xs) (hkc : kc ≤ 600000) (hks : ks ≤ 7302250) (hL : L ≤ 3072) : ∀ (n i : Nat), L ≤ i + n → i ≤ L → ∀ (S : zS) (G : zG), CG S G → MG S G → GI G → zR C τ ι 4 kc ks 18 [(0, .ref 260), (1, .ref 0), (2, .ref 245), (3, .int (nI i))] [] (zcells S) := by
  intro n
  induction n with
  | zero =>
    intro i hn hi S G hc hm hg
    refine zr_iload_n hC dL_law_18 rfl ?_
    refine zr_aload_n hC dL_law_19 rfl ?_
    refine zl_slen hC hX dL_law_20 ?_
    refine zk_bipush hC dL_law_21 (v := nI 6) (by decide +kernel) ?_
    refine zr_isub hC dL_law_23 ?_
    refine zr_icmp_gt hC dL_law_24 (tgt := 1067) (by decide) (fun _ => ?_) (fun c => absurd ((lw_end hL (by omega)).mpr (by omega)) c)
    refine zk_iconst hC dL_law_1067 (v := 1) (by decide +kernel) ?_
    exact zl_end hC hE hkc hks dL_law_1068
  | succ n ih =>
    intro i hn hi S G hc hm hg
    refine zr_iload_n hC dL_law_18 rfl ?_
    refine zr_aload_n hC dL_law_19 rfl ?_
    refine zl_slen hC hX dL_law_20 ?_
    refine zk_bipush hC dL_law_21 (v := nI 6) (by decide +kernel) ?_
    refine zr_isub hC dL_law_23 ?_
    refine zr_icmp_gt hC dL_law_24 (tgt := 1067) (by decide) (fun _ => ?_) (fun c => ?_)
    · refine zk_iconst hC dL_law_1067 (v := 1) (by decide +kernel) ?_
      exact zl_end hC hE hkc hks dL_law_1068
    have h6 : i + 6 ≤ L := by
      have := (not_congr (lw_end hL (by omega))).mp c
      omega
    have kk : lk C τ ι kc ks i := fun S' G' hc' hm' hg' => by
      refine zn_iinc hC dL_law_1061 rfl (by decide) (zk_inc i 6) ?_
      refine zr_goto hC dL_law_1064 (tgt := 18) (by decide) ?_
      exact zR_sub [(0, .ref 260), (1, .ref 0), (2, .ref 245), (3, .int (nI (i + 6)))] ⟨rfl, rfl, rfl, rfl, trivial⟩ (ih (i + 6) (by omega) (by omega) S' G' hc' hm' hg')
    refine zr_aload_n hC dL_law_27 rfl ?_
    refine zr_iload_n hC dL_law_28 rfl ?_
    refine zl_ld hC hX (i := i) (by omega) hL dL_law_29 ?_
    refine zk_bipush hC dL_law_30 (v := nI 31) (by decide +kernel) ?_
    obtain ⟨k, hk, ek⟩ := lw_and (xs i)
    refine zn_iand hC dL_law_32 ek ?_
    by_cases h29 : k < 29
    · rcases (by omega : k = 0 ∨ k = 1 ∨ k = 2 ∨ k = 3 ∨ k = 4 ∨ k = 5 ∨ k = 6 ∨ k = 7 ∨ k = 8 ∨ k = 9 ∨ k = 10 ∨ k = 11 ∨ k = 12 ∨ k = 13 ∨ k = 14 ∨ k = 15 ∨ k = 16 ∨ k = 17 ∨ k = 18 ∨ k = 19 ∨ k = 20 ∨ k = 21 ∨ k = 22 ∨ k = 23 ∨ k = 24 ∨ k = 25 ∨ k = 26 ∨ k = 27 ∨ k = 28) with rfl | rfl | rfl | rfl | rfl | rfl | rfl | rfl | rfl | rfl | rfl | rfl | rfl | rfl | rfl | rfl | rfl | rfl | rfl | rfl | rfl | rfl | rfl | rfl | rfl | rfl | rfl | rfl | rfl
      · exact zr_tableIn hC dL_law_33 (by decide +kernel) (by decide +kernel) (off := 131) (by decide +kernel) (tgt := 164) (by decide) (lc_0 hC hX hkc hks hL h6 hc hm hg kk)
      · exact zr_tableIn hC dL_law_33 (by decide +kernel) (by decide +kernel) (off := 154) (by decide +kernel) (tgt := 187) (by decide) (lc_1 hC hX hkc hks hL h6 hc hm hg kk)
      · exact zr_tableIn hC dL_law_33 (by decide +kernel) (by decide +kernel) (off := 177) (by decide +kernel) (tgt := 210) (by decide) (lc_2 hC hX hkc hks hL h6 hc hm hg kk)
      · exact zr_tableIn hC dL_law_33 (by decide +kernel) (by decide +kernel) (off := 190) (by decide +kernel) (tgt := 223) (by decide) (lc_3 hC hX hkc hks hL h6 hc hm hg kk)
      · exact zr_tableIn hC dL_law_33 (by decide +kernel) (by decide +kernel) (off := 223) (by decide +kernel) (tgt := 256) (by decide) (lc_4 hC hX hkc hks hL h6 hc hm hg kk)
      · exact zr_tableIn hC dL_law_33 (by decide +kernel) (by decide +kernel) (off := 256) (by decide +kernel) (tgt := 289) (by decide) (lc_5 hC hX hkc hks hL h6 hc hm hg kk)
      · exact zr_tableIn hC dL_law_33 (by decide +kernel) (by decide +kernel) (off := 279) (by decide +kernel) (tgt := 312) (by decide) (lc_6 hC hX hkc hks hL h6 hc hm hg kk)
      · exact zr_tableIn hC dL_law_33 (by decide +kernel) (by decide +kernel) (off := 292) (by decide +kernel) (tgt := 325) (by decide) (lc_7 hC hX hkc hks hL h6 hc hm hg kk)
      · exact zr_tableIn hC dL_law_33 (by decide +kernel) (by decide +kernel) (off := 325) (by decide +kernel) (tgt := 358) (by decide) (lc_8 hC hX hkc hks hL h6 hc hm hg kk)
      · exact zr_tableIn hC dL_law_33 (by decide +kernel) (by decide +kernel) (off := 358) (by decide +kernel) (tgt := 391) (by decide) (lc_9 hC hX hkc hks hL h6 hc hm hg kk)
      · exact zr_tableIn hC dL_law_33 (by decide +kernel) (by decide +kernel) (off := 391) (by decide +kernel) (tgt := 424) (by decide) (lc_10 hC hX hkc hks hL h6 hc hm hg kk)
      · exact zr_tableIn hC dL_law_33 (by decide +kernel) (by decide +kernel) (off := 424) (by decide +kernel) (tgt := 457) (by decide) (lc_11 hC hX hkc hks hL h6 hc hm hg kk)
      · exact zr_tableIn hC dL_law_33 (by decide +kernel) (by decide +kernel) (off := 447) (by decide +kernel) (tgt := 480) (by decide) (lc_12 hC hX hkc hks hL h6 hc hm hg kk)
      · exact zr_tableIn hC dL_law_33 (by decide +kernel) (by decide +kernel) (off := 480) (by decide +kernel) (tgt := 513) (by decide) (lc_13 hC hX hkc hks hL h6 hc hm hg kk)
      · exact zr_tableIn hC dL_law_33 (by decide +kernel) (by decide +kernel) (off := 513) (by decide +kernel) (tgt := 546) (by decide) (lc_14 hC hX hkc hks hL h6 hc hm hg kk)
      · exact zr_tableIn hC dL_law_33 (by decide +kernel) (by decide +kernel) (off := 536) (by decide +kernel) (tgt := 569) (by decide) (lc_15 hC hX hkc hks hL h6 hc hm hg kk)
      · exact zr_tableIn hC dL_law_33 (by decide +kernel) (by decide +kernel) (off := 579) (by decide +kernel) (tgt := 612) (by decide) (lc_16 hC hX hkc hks hL h6 hc hm hg kk)
      · exact zr_tableIn hC dL_law_33 (by decide +kernel) (by decide +kernel) (off := 602) (by decide +kernel) (tgt := 635) (by decide) (lc_17 hC hX hkc hks hL h6 hc hm hg kk)
      · exact zr_tableIn hC dL_law_33 (by decide +kernel) (by decide +kernel) (off := 615) (by decide +kernel) (tgt := 648) (by decide) (lc_18 hC hX hkc hks hL h6 hc hm hg kk)
      · exact zr_tableIn hC dL_law_33 (by decide +kernel) (by decide +kernel) (off := 638) (by decide +kernel) (tgt := 671) (by decide) (lc_19 hC hX hkc hks hL h6 hc hm hg kk)
      · exact zr_tableIn hC dL_law_33 (by decide +kernel) (by decide +kernel) (off := 651) (by decide +kernel) (tgt := 684) (by decide) (lc_20 hC hX hkc hks hL h6 hc hm hg kk)
      · exact zr_tableIn hC dL_law_33 (by decide +kernel) (by decide +kernel) (off := 674) (by decide +kernel) (tgt := 707) (by decide) (lc_21 hC hX hkc hks hL h6 hc hm hg kk)
      · exact zr_tableIn hC dL_law_33 (by decide +kernel) (by decide +kernel) (off := 687) (by decide +kernel) (tgt := 720) (by decide) (lc_22 hC hX hkc hks hL h6 hc hm hg kk)
      · exact zr_tableIn hC dL_law_33 (by decide +kernel) (by decide +kernel) (off := 700) (by decide +kernel) (tgt := 733) (by decide) (lc_23 hC hX hkc hks hL h6 hc hm hg kk)
      · exact zr_tableIn hC dL_law_33 (by decide +kernel) (by decide +kernel) (off := 763) (by decide +kernel) (tgt := 796) (by decide) (lc_24 hC hX hkc hks hL h6 hc hm hg kk)
      · exact zr_tableIn hC dL_law_33 (by decide +kernel) (by decide +kernel) (off := 816) (by decide +kernel) (tgt := 849) (by decide) (lc_25 hC hX hkc hks hL h6 hc hm hg kk)
      · exact zr_tableIn hC dL_law_33 (by decide +kernel) (by decide +kernel) (off := 859) (by decide +kernel) (tgt := 892) (by decide) (lc_26 hC hX hkc hks hL h6 hc hm hg kk)
      · exact zr_tableIn hC dL_law_33 (by decide +kernel) (by decide +kernel) (off := 882) (by decide +kernel) (tgt := 915) (by decide) (lc_27 hC hX hkc hks hL h6 hc hm hg kk)
      · exact zr_tableIn hC dL_law_33 (by decide +kernel) (by decide +kernel) (off := 965) (by decide +kernel) (tgt := 998) (by decide) (lc_28 hC hX hkc hks hL h6 hc hm hg kk)
    · exact zr_tableOut hC dL_law_33 (Or.inr (by rw [nI_toInt (by omega)]; omega)) (tgt := 1061) (by decide) (kk S G hc hm hg)
