/-! READING -/
theorem lastk_cong {D D' : zD} (h : D' 7 = D 7) (v : Nat) : ∀ n, lastk D' v n = lastk D v n
  | 0 => rfl
  | n + 1 => by unfold lastk; rw [h, lastk_cong h v n]
theorem key_cong {D D' : zD} (h7 : D' 7 = D 7) (h6 : D' 6 0 = D 6 0) (v : Nat) : key D' v = key D v := by
  show lastk D' v (D' 6 0) = lastk D v (D 6 0)
  rw [h6, lastk_cong h7]
theorem kof_cong {D D' : zD} (h7 : D' 7 = D 7) (h6 : D' 6 0 = D 6 0) (lf : Nat → Nat) (v : Nat) : kof lf D' v = kof lf D v := by
  unfold kof
  rw [key_cong h7 h6]
/-- what reading leans on -/
def RDok (D : zD) : Prop := D 6 0 ≤ 230 ∧ D 6 1 ≤ 189 ∧ (∀ i, i < D 6 1 → D 10 i < D 6 0 ∧ D 11 i < D 6 0) ∧ (∀ m, m < 16 → D 2 m ≤ 1) ∧ ∀ m, m < 16 → D 0 m ≠ 0 → D 3 m ≤ D 6 1
theorem INV.rd {D : zD} (h : INV D) : RDok D := ⟨h.made, h.written, fun i hi => ⟨(h.lets hi).1, (h.lets hi).2.1⟩, fun m hm => by rcases h.late hm with q | q <;> omega, fun m hm h0 => h.read hm h0⟩
theorem CR.c8 {S S' : zS} {D D' : zD} (h : CR S D) (hS : ∀ a, a ≠ 8 → S'.1 a = S.1 a) (hD : ∀ f, f ≠ 9 → D' f = D f) (hk : ∀ k, k < D 6 0 → S'.1 8 k = nI (D' 9 k)) : CR S' D' := by
  obtain ⟨h1, h2, h3, h4, h5, h6, h7⟩ := h
  have e0 := hD 0 (by decide)
  have e1 := hD 1 (by decide)
  have e2 := hD 2 (by decide)
  have e6 := hD 6 (by decide)
  have e7 := hD 7 (by decide)
  refine ⟨?_, ?_, ?_, ?_, ?_, ?_, ?_⟩
  · rw [e0]; exact h1.kept (hS _ (by decide)) (hS _ (by decide))
  · unfold KR; rw [e6, e7, hD 8 (by decide), hS 5 (by decide), hS 6 (by decide), hS 7 (by decide)]
    exact ⟨h2.1, fun k hk2 => ⟨(h2.2 k hk2).1, (h2.2 k hk2).2.1, hk k hk2⟩⟩
  · intro v a b
    rw [hS 9 (by decide), kof_cong e7 (by rw [e6]), e0]
    exact h3 v a b
  · unfold LR; rw [e6, hD 10 (by decide), hD 11 (by decide), hD 12 (by decide), hS 10 (by decide), hS 11 (by decide), hS 12 (by decide), hS 13 (by decide)]; exact h4
  · unfold MRs cms lvs sls; rw [hS 1 (by decide), e1, e2]; exact h5
  · unfold QR; rw [hS 1 (by decide), e6]; exact h6
  · unfold AR; rw [e0, hD 3 (by decide), hD 4 (by decide), hD 5 (by decide), hS 14 (by decide), hS 15 (by decide), hS 16 (by decide)]; exact h7
theorem CR.give {S : zS} {D : zD} (h : CR S D) {k m : Nat} (hk : k < D 6 0) : CR (zput S 8 k (S.1 8 k ||| nI (2 ^ m))) (dset D 9 k (D 9 k ||| 2 ^ m)) := by
  refine h.c8 (fun a ha => zput_ne _ _ ha) (fun f hf => dset_ff _ _ _ hf) (fun j hj => ?_)
  by_cases e : j = k
  · subst e
    rw [zput_at, dset_at, (h.kr.2 j hj).2.2, fa_or]
  · rw [zput_k _ _ e, dset_k _ _ _ e, (h.kr.2 j hj).2.2]
theorem CR.read {S : zS} {D : zD} (h : CR S D) {m x : Nat} : CR (zput S 16 m (nI x)) (dset D 3 m x) := by
  obtain ⟨h1, h2, h3, h4, h5, h6, h7⟩ := h
  refine ⟨?_, ?_, ?_, ?_, ?_, ?_, ?_⟩
  · rw [dset_ff _ _ _ (by decide)]; exact h1.kept (zput_ne _ _ (by decide)) (zput_ne _ _ (by decide))
  · exact h2.kept (zput_ne _ _ (by decide)) (zput_ne _ _ (by decide)) (zput_ne _ _ (by decide)) (zput_ne _ _ (by decide))
  · intro v a b
    rw [zput_ne _ _ (by decide), kof_cong (dset_ff _ _ _ (by decide)) (dset_f _ _ _ _ (by decide)), dset_ff _ _ _ (by decide)]
    exact h3 v a b
  · exact h4.kept (zput_ne _ _ (by decide)) (zput_ne _ _ (by decide)) (zput_ne _ _ (by decide)) (zput_ne _ _ (by decide))
  · exact h5
  · exact h6
  · unfold AR
    rw [dset_ff _ _ _ (by decide), dset_ff _ _ _ (by decide), dset_ff _ _ _ (by decide), zput_ne _ _ (by decide), zput_ne _ _ (by decide)]
    refine ⟨h7.1, h7.2.1, fun j hj h0 => ?_⟩
    by_cases e : j = m
    · subst e; rw [zput_at, dset_at]
    · rw [zput_k _ _ e, dset_k _ _ _ e]; exact h7.2.2 j hj h0
theorem rds_f {m i0 : Nat} {D : zD} {f : Nat} (hf : f ≠ 9) : ∀ n, (rds m i0 D n).1 f = D f
  | 0 => rfl
  | n + 1 => by
    unfold rds
    split
    · show dset _ 9 _ _ f = _
      rw [dset_ff _ _ _ hf, rds_f hf n]
    · exact rds_f hf n
theorem rds_c {m i0 : Nat} {D : zD} : ∀ n, (rds m i0 D n).2 ≤ n
  | 0 => Nat.le_refl 0
  | n + 1 => by
    have := rds_c (m := m) (i0 := i0) (D := D) n
    unfold rds
    split
    · show (rds m i0 D n).2 + 1 ≤ n + 1; omega
    · omega
theorem rds_yes {m i0 : Nat} {D : zD} {n : Nat} (h1 : hd (rds m i0 D n).1 m ((rds m i0 D n).1 11 (i0 + n)) = true) (h2 : hd (rds m i0 D n).1 m ((rds m i0 D n).1 10 (i0 + n)) = false) : rds m i0 D (n + 1) = (dset (rds m i0 D n).1 9 ((rds m i0 D n).1 10 (i0 + n)) ((rds m i0 D n).1 9 ((rds m i0 D n).1 10 (i0 + n)) ||| 2 ^ m), (rds m i0 D n).2 + 1) := if_pos ⟨h1, h2⟩
theorem rds_no1 {m i0 : Nat} {D : zD} {n : Nat} (h1 : hd (rds m i0 D n).1 m ((rds m i0 D n).1 11 (i0 + n)) = false) : rds m i0 D (n + 1) = rds m i0 D n := if_neg (fun q => by rw [h1] at q; exact absurd q.1 (by decide))
theorem rds_no2 {m i0 : Nat} {D : zD} {n : Nat} (h2 : hd (rds m i0 D n).1 m ((rds m i0 D n).1 10 (i0 + n)) = true) : rds m i0 D (n + 1) = rds m i0 D n := if_neg (fun q => by rw [h2] at q; exact absurd q.2 (by decide))
theorem RDok.fs {D D' : zD} (h : RDok D) (hf : ∀ f, f ≠ 9 → D' f = D f) : RDok D' := by
  unfold RDok
  rw [hf 6 (by decide), hf 10 (by decide), hf 11 (by decide), hf 2 (by decide), hf 0 (by decide), hf 3 (by decide)]
  exact h
theorem RDok.rd1 {D : zD} (h : RDok D) (m : Nat) : RDok (rdm m D) := by
  have h1 : RDok (rds m (D 3 m) D (D 6 1 - D 3 m)).1 := h.fs (fun f hf => rds_f hf _)
  obtain ⟨a, b, c, d, e⟩ := h1
  unfold rdm
  refine ⟨?_, ?_, ?_, ?_, fun j hj h0 => ?_⟩
  · rw [dset_f _ _ _ _ (by decide)]; exact a
  · rw [dset_f _ _ _ _ (by decide)]; exact b
  · rw [dset_ff _ _ _ (by decide), dset_ff _ _ _ (by decide), dset_ff _ _ _ (by decide)]; exact c
  · rw [dset_ff _ _ _ (by decide)]; exact d
  · rw [dset_ff _ _ _ (show 0 ≠ 3 by decide)] at h0
    rw [dset_ff _ _ _ (show 6 ≠ 3 by decide)]
    by_cases q : j = m
    · subst q
      rw [dset_at, rds_f (by decide)]
      exact Nat.le_refl _
    · rw [dset_k _ _ _ q]; exact e j hj h0
theorem rda_RD {D : zD} (h : RDok D) : ∀ n, RDok (rda D n)
  | 0 => h
  | n + 1 => by
    unfold rda
    split
    · exact (rda_RD h n).rd1 n
    · exact rda_RD h n
set_option maxHeartbeats 4000000 in
set_option maxRecDepth 100000 in
theorem l0_readUnread {C : zCx} {τ : Nat → ClassId} {ι : Nat → Nat} (hC : zOK C τ (zrm 3 0 0) yX0_readUnread.cls cX0_readUnread 5) {S0 : zS} {D : zD} {m i0 : Nat} (hok : RDok D) (hm : m < 16) (hi0 : i0 ≤ D 6 1) (k : ∀ S' lv, CR S' (rds m i0 D (D 6 1 - i0)).1 → zfrm 8 9 S0 S' → zsub lv [(0, .ref 1), (1, .int (nI m)), (2, .int (nI (rds m i0 D (D 6 1 - i0)).2))] → zR C τ ι 5 0 0 83 lv [] (zcells S')) : ∀ (n j : Nat) (S : zS), j + n = D 6 1 - i0 → CR S (rds m i0 D j).1 → zfrm 8 9 S0 S → zR C τ ι 5 0 0 9 [(0, .ref 1), (1, .int (nI m)), (2, .int (nI (rds m i0 D j).2)), (3, .int (nI (i0 + j)))] [] (zcells S) := by
  intro n
  induction n with
  | zero =>
    intro j S hj hCR hF
    have hb := hok.2.1
    have hR : RDok (rds m i0 D j).1 := hok.fs (fun f hf => rds_f hf j)
    have e6 : (rds m i0 D j).1 6 = D 6 := rds_f (by decide) j
    have hw : S.1 10 0 = nI (D 6 1) := by have := hCR.lr.1; rwa [e6] at this
    refine zr_iload_n hC dX0_readUnread_9 rfl ?_
    refine zr_aload_n hC dX0_readUnread_10 rfl ?_
    refine zs_getr hC dX0_readUnread_11 fl_X0_28 (a := 1) (r := 10) rfl (by decide) ?_
    refine zv_geti hC dX0_readUnread_14 fl_X0_84 (a := 10) rfl (by decide) (hw) ?_
    refine zr_icmp_ge hC dX0_readUnread_17 (tgt := 83) (by decide) (fun c_17 => ?_) (fun c => absurd c (not_not_intro (nI_le (by omega) (by omega))))
    exact k S _ (by rw [show D 6 1 - i0 = j by omega]; exact hCR) hF ⟨rfl, rfl, by rw [show D 6 1 - i0 = j by omega]; rfl, trivial⟩
  | succ n ih =>
    intro j S hj hCR hF
    have hb := hok.2.1
    have hR : RDok (rds m i0 D j).1 := hok.fs (fun f hf => rds_f hf j)
    have e6 : (rds m i0 D j).1 6 = D 6 := rds_f (by decide) j
    have hw : S.1 10 0 = nI (D 6 1) := by have := hCR.lr.1; rwa [e6] at this
    have h60 := hR.1
    have hi1 : i0 + j < (rds m i0 D j).1 6 1 := by rw [e6]; omega
    have hin := hR.2.2.1 (i0 + j) hi1
    have hlt := hCR.lr.2 (i0 + j) hi1
    refine zr_iload_n hC dX0_readUnread_9 rfl ?_
    refine zr_aload_n hC dX0_readUnread_10 rfl ?_
    refine zs_getr hC dX0_readUnread_11 fl_X0_28 (a := 1) (r := 10) rfl (by decide) ?_
    refine zv_geti hC dX0_readUnread_14 fl_X0_84 (a := 10) rfl (by decide) (hw) ?_
    refine zr_icmp_ge hC dX0_readUnread_17 (tgt := 83) (by decide) (fun c => absurd c (nI_ge (by omega) (by omega))) (fun c_17 => ?_)
    refine zr_aload_n hC dX0_readUnread_20 rfl ?_
    refine zs_getr hC dX0_readUnread_21 fl_X0_28 (a := 1) (r := 10) rfl (by decide) ?_
    refine zs_getr hC dX0_readUnread_24 fl_X0_168 (a := 10) (r := 11) rfl (by decide) ?_
    refine zr_iload_n hC dX0_readUnread_27 rfl ?_
    refine zv_iald hC dX0_readUnread_28 (a := 11) (n := 192) rfl (by decide) (by decide) (j := (i0 + j)) rfl (by omega) (hlt.1) ?_
    refine zr_istore hC dX0_readUnread_29 (by decide) ?_
    refine zr_aload_n hC dX0_readUnread_31 rfl ?_
    refine zs_getr hC dX0_readUnread_32 fl_X0_21 (a := 1) (r := 5) rfl (by decide) ?_
    refine zr_aload_n hC dX0_readUnread_35 rfl ?_
    refine zs_getr hC dX0_readUnread_36 fl_X0_28 (a := 1) (r := 10) rfl (by decide) ?_
    refine zs_getr hC dX0_readUnread_39 fl_X0_171 (a := 10) (r := 12) rfl (by decide) ?_
    refine zr_iload_n hC dX0_readUnread_42 rfl ?_
    refine zv_iald hC dX0_readUnread_43 (a := 12) (n := 192) rfl (by decide) (by decide) (j := (i0 + j)) rfl (by omega) (hlt.2.1) ?_
    refine zr_iload_n hC dX0_readUnread_44 rfl ?_
    refine zs_callV hC (b := 5) [_, _] [] dX0_readUnread_45 ml_X0_114 mtX1_held tX1_held (by decide) (by decide) (by decide) rfl rfl (by decide) (by decide +kernel) (Nat.le_of_ble_eq_true rfl) rfl ?_
    refine ⟨_, (rds m i0 D j).1 6 0, m, rfl, hCR.kr.1, by omega, by omega, fun r e => ?_⟩
    have e := hCR.kr.held hin.2 (by omega) (by omega) e
    rcases e with ⟨rfl, hx⟩ | ⟨rfl, hx⟩
    · dsimp only [Option.toList, List.cons_append, List.nil_append]
      refine zr_if_eq hC dX0_readUnread_48 (tgt := 77) (by decide) (fun c => absurd c (by decide +kernel)) (fun c_48 => ?_)
      refine zr_aload_n hC dX0_readUnread_51 rfl ?_
      refine zs_getr hC dX0_readUnread_52 fl_X0_21 (a := 1) (r := 5) rfl (by decide) ?_
      refine zr_iload hC dX0_readUnread_55 rfl ?_
      refine zr_iload_n hC dX0_readUnread_57 rfl ?_
      refine zs_callV hC (b := 5) [_, _] [] dX0_readUnread_58 ml_X0_114 mtX1_held tX1_held (by decide) (by decide) (by decide) rfl rfl (by decide) (by decide +kernel) (Nat.le_of_ble_eq_true rfl) rfl ?_
      refine ⟨_, (rds m i0 D j).1 6 0, m, rfl, hCR.kr.1, by omega, by omega, fun r e => ?_⟩
      have e := hCR.kr.held hin.1 (by omega) (by omega) e
      rcases e with ⟨rfl, hy⟩ | ⟨rfl, hy⟩
      · dsimp only [Option.toList, List.cons_append, List.nil_append]
        refine zr_if_ne hC dX0_readUnread_61 (tgt := 77) (by decide) (fun c_61 => ?_) (fun c => absurd c (by decide +kernel))
        refine zn_iinc hC dX0_readUnread_77 rfl (by decide) (zk_inc _ 1) ?_
        refine zr_goto hC dX0_readUnread_80 (tgt := 9) (by decide) ?_
        first | exact zR_sub [(0, .ref 1), (1, .int (nI m)), (2, .int (nI (rds m i0 D (j + 1)).2)), (3, .int (nI (i0 + (j + 1))))] ⟨rfl, rfl, by rw [rds_no1 hx]; rfl, rfl, trivial⟩ (ih (j + 1) _ (by omega) (by rw [rds_no1 hx]; exact hCR) hF) | exact zR_sub [(0, .ref 1), (1, .int (nI m)), (2, .int (nI (rds m i0 D (j + 1)).2)), (3, .int (nI (i0 + (j + 1))))] ⟨rfl, rfl, by rw [rds_no2 hy]; rfl, rfl, trivial⟩ (ih (j + 1) _ (by omega) (by rw [rds_no2 hy]; exact hCR) hF) | exact zR_sub [(0, .ref 1), (1, .int (nI m)), (2, .int (nI (rds m i0 D (j + 1)).2)), (3, .int (nI (i0 + (j + 1))))] ⟨rfl, rfl, by rw [rds_yes hx hy]; rfl, rfl, trivial⟩ (ih (j + 1) _ (by omega) (by rw [rds_yes hx hy]; exact hCR.give hin.1) (hF.put (by decide) (by decide)))
      · dsimp only [Option.toList, List.cons_append, List.nil_append]
        refine zr_if_ne hC dX0_readUnread_61 (tgt := 77) (by decide) (fun c => absurd c (by decide +kernel)) (fun c_61 => ?_)
        refine zr_aload_n hC dX0_readUnread_64 rfl ?_
        refine zs_getr hC dX0_readUnread_65 fl_X0_21 (a := 1) (r := 5) rfl (by decide) ?_
        refine zr_iload hC dX0_readUnread_68 rfl ?_
        refine zr_iload_n hC dX0_readUnread_70 rfl ?_
        refine zs_callV hC (b := 5) [_, _] [] dX0_readUnread_71 ml_X0_144 mtX1_give tX1_give (by decide) (by decide) (by decide) rfl rfl (by decide) (by decide +kernel) (Nat.le_of_ble_eq_true rfl) rfl ?_
        refine ⟨(rds m i0 D j).1 6 0, _, m, rfl, hCR.kr.1, by omega, hin.1, by omega, ?_⟩
        dsimp only [Option.toList, List.nil_append]
        refine zn_iinc hC dX0_readUnread_74 rfl (by decide) (zk_inc _ 1) ?_
        refine zn_iinc hC dX0_readUnread_77 rfl (by decide) (zk_inc _ 1) ?_
        refine zr_goto hC dX0_readUnread_80 (tgt := 9) (by decide) ?_
        first | exact zR_sub [(0, .ref 1), (1, .int (nI m)), (2, .int (nI (rds m i0 D (j + 1)).2)), (3, .int (nI (i0 + (j + 1))))] ⟨rfl, rfl, by rw [rds_no1 hx]; rfl, rfl, trivial⟩ (ih (j + 1) _ (by omega) (by rw [rds_no1 hx]; exact hCR) hF) | exact zR_sub [(0, .ref 1), (1, .int (nI m)), (2, .int (nI (rds m i0 D (j + 1)).2)), (3, .int (nI (i0 + (j + 1))))] ⟨rfl, rfl, by rw [rds_no2 hy]; rfl, rfl, trivial⟩ (ih (j + 1) _ (by omega) (by rw [rds_no2 hy]; exact hCR) hF) | exact zR_sub [(0, .ref 1), (1, .int (nI m)), (2, .int (nI (rds m i0 D (j + 1)).2)), (3, .int (nI (i0 + (j + 1))))] ⟨rfl, rfl, by rw [rds_yes hx hy]; rfl, rfl, trivial⟩ (ih (j + 1) _ (by omega) (by rw [rds_yes hx hy]; exact hCR.give hin.1) (hF.put (by decide) (by decide)))
    · dsimp only [Option.toList, List.cons_append, List.nil_append]
      refine zr_if_eq hC dX0_readUnread_48 (tgt := 77) (by decide) (fun c_48 => ?_) (fun c => absurd c (by decide +kernel))
      refine zn_iinc hC dX0_readUnread_77 rfl (by decide) (zk_inc _ 1) ?_
      refine zr_goto hC dX0_readUnread_80 (tgt := 9) (by decide) ?_
      first | exact zR_sub [(0, .ref 1), (1, .int (nI m)), (2, .int (nI (rds m i0 D (j + 1)).2)), (3, .int (nI (i0 + (j + 1))))] ⟨rfl, rfl, by rw [rds_no1 hx]; rfl, rfl, trivial⟩ (ih (j + 1) _ (by omega) (by rw [rds_no1 hx]; exact hCR) hF) | exact zR_sub [(0, .ref 1), (1, .int (nI m)), (2, .int (nI (rds m i0 D (j + 1)).2)), (3, .int (nI (i0 + (j + 1))))] ⟨rfl, rfl, by rw [rds_no2 hy]; rfl, rfl, trivial⟩ (ih (j + 1) _ (by omega) (by rw [rds_no2 hy]; exact hCR) hF) | exact zR_sub [(0, .ref 1), (1, .int (nI m)), (2, .int (nI (rds m i0 D (j + 1)).2)), (3, .int (nI (i0 + (j + 1))))] ⟨rfl, rfl, by rw [rds_yes hx hy]; rfl, rfl, trivial⟩ (ih (j + 1) _ (by omega) (by rw [rds_yes hx hy]; exact hCR.give hin.1) (hF.put (by decide) (by decide)))
def spX0_readUnread : zSp := fun av S Q => ∃ (m : Nat) (D : zD), av = [.ref 1, .int (nI m)] ∧ m < 16 ∧ CR S D ∧ RDok D ∧ D 0 m ≠ 0 ∧ ∀ S', CR S' (rdm m D) → zfrm 1 17 S S' → Q (some (.int (nI (rds m (D 3 m) D (D 6 1 - D 3 m)).2))) S'
set_option maxHeartbeats 4000000 in
set_option maxRecDepth 100000 in
theorem tX0_readUnread : zM yX0_readUnread cX0_readUnread 5 (some .int) 3 spX0_readUnread := by
  refine zM.of (by decide) (by decide) (fun av S Q h => by obtain ⟨m, D, rfl, hm, hCR, hok, h0, hQ⟩ := h; exact Nat.le_of_ble_eq_true rfl) (fun C τ ι av S Q Qr h hr hC hE => ?_)
  obtain ⟨m, D, rfl, hm, hCR, hok, h0, hQ⟩ := h
  show zR C τ ι _ 0 0 0 [(0, .ref 1), (1, .int (nI m))] [] _
  refine zk_iconst hC dX0_readUnread_0 (v := nI 0) (by decide +kernel) ?_
  refine zr_istore_n hC dX0_readUnread_1 (by decide) ?_
  refine zr_aload_n hC dX0_readUnread_2 rfl ?_
  refine zs_getr hC dX0_readUnread_3 fl_X0_43 (a := 1) (r := 16) rfl (by decide) ?_
  refine zr_iload_n hC dX0_readUnread_6 rfl ?_
  refine zv_iald hC dX0_readUnread_7 (a := 16) (n := 16) rfl (by decide) (by decide) (j := m) rfl hm (hCR.ar.2.2 m hm h0) ?_
  refine zr_istore_n hC dX0_readUnread_8 (by decide) ?_
  have hi0 := hok.2.2.2.2 m hm h0
  refine zR_sub [(0, .ref 1), (1, .int (nI m)), (2, .int (nI (rds m (D 3 m) D 0).2)), (3, .int (nI (D 3 m + 0)))] ⟨rfl, rfl, rfl, rfl, trivial⟩ ?_
  refine l0_readUnread (S0 := S) hC hok hm hi0 (fun S1 lv h1 h2 h3 => ?_) (D 6 1 - D 3 m) 0 S (by omega) hCR zfrm.rf
  obtain ⟨v0, v1, v2, -⟩ := h3
  have hw : S1.1 10 0 = nI (D 6 1) := by have := h1.lr.1; rwa [rds_f (by decide)] at this
  refine zr_aload_n hC dX0_readUnread_83 v0 ?_
  refine zs_getr hC dX0_readUnread_84 fl_X0_43 (a := 1) (r := 16) rfl (by decide) ?_
  refine zr_iload_n hC dX0_readUnread_87 v1 ?_
  refine zr_aload_n hC dX0_readUnread_88 v0 ?_
  refine zs_getr hC dX0_readUnread_89 fl_X0_28 (a := 1) (r := 10) rfl (by decide) ?_
  refine zv_geti hC dX0_readUnread_92 fl_X0_84 (a := 10) rfl (by decide) hw ?_
  refine zs_iast hC dX0_readUnread_95 (a := 16) (n := 16) rfl (by decide) (by decide) (j := m) rfl hm ?_
  refine zr_iload_n hC dX0_readUnread_96 v2 ?_
  exact zr_ireturn hC hE dX0_readUnread_97 (hr _ _ (hQ _ h1.read ((h2.up (by decide) (by decide)).put (by decide) (by decide))))
set_option maxHeartbeats 4000000 in
set_option maxRecDepth 100000 in
theorem l0_readByAll {C : zCx} {τ : Nat → ClassId} {ι : Nat → Nat} (hC : zOK C τ (zrm 4 0 0) yX0_readByAll.cls cX0_readByAll 2) {S0 : zS} {D : zD} (hok : RDok D) (k : ∀ S' lv, CR S' (rda D 16) → zfrm 1 17 S0 S' → zR C τ ι 2 0 0 28 lv [] (zcells S')) : ∀ (n i : Nat) (S : zS), i + n = 16 → CR S (rda D i) → zfrm 1 17 S0 S → zR C τ ι 2 0 0 2 [(0, .ref 1), (1, .int (nI i))] [] (zcells S) := by
  intro n
  induction n with
  | zero =>
    intro i S hi hCR hF
    refine zr_iload_n hC dX0_readByAll_2 rfl ?_
    refine zk_bipush hC dX0_readByAll_3 (v := nI 16) (by decide +kernel) ?_
    refine zr_icmp_ge hC dX0_readByAll_5 (tgt := 28) (by decide) (fun c_5 => ?_) (fun c => absurd c (not_not_intro (nI_le (by omega) (by omega))))
    exact k S _ (by rw [show 16 = i by omega]; exact hCR) hF
  | succ n ih =>
    intro i S hi hCR hF
    have hR := rda_RD hok i
    have hl2 := hR.2.2.2.1 i (by omega)
    refine zr_iload_n hC dX0_readByAll_2 rfl ?_
    refine zk_bipush hC dX0_readByAll_3 (v := nI 16) (by decide +kernel) ?_
    refine zr_icmp_ge hC dX0_readByAll_5 (tgt := 28) (by decide) (fun c => absurd c (nI_ge (by omega) (by omega))) (fun c_5 => ?_)
    refine zr_aload_n hC dX0_readByAll_8 rfl ?_
    refine zr_iload_n hC dX0_readByAll_9 rfl ?_
    refine zs_callV hC (b := 1) [_] [] dX0_readByAll_10 ml_X0_102 mtX0_isAwake tX0_isAwake (by decide) (by decide) (by decide) rfl rfl (by decide) (by decide +kernel) (Nat.le_of_ble_eq_true rfl) rfl ?_
    refine ⟨i, _, rfl, by omega, hCR.sr, hCR.ms, fun r e => ?_⟩
    rcases e with ⟨rfl, hx⟩ | ⟨rfl, hx⟩
    · dsimp only [Option.toList, List.cons_append, List.nil_append]
      refine zr_if_eq hC dX0_readByAll_13 (tgt := 22) (by decide) (fun c => absurd c (by decide +kernel)) (fun c_13 => ?_)
      refine zr_aload_n hC dX0_readByAll_16 rfl ?_
      refine zr_iload_n hC dX0_readByAll_17 rfl ?_
      refine zs_callV hC (b := 1) [_] [] dX0_readByAll_18 ml_X0_164 mtX0_readUnread tX0_readUnread (by decide) (by decide) (by decide) rfl rfl (by decide) (by decide +kernel) (Nat.le_of_ble_eq_true rfl) rfl ?_
      refine ⟨i, _, rfl, by omega, hCR, hR, hx.1, fun S1 h1 h2 => ?_⟩
      dsimp only [Option.toList, List.cons_append, List.nil_append]
      refine zr_pop hC dX0_readByAll_21 rfl ?_
      refine zn_iinc hC dX0_readByAll_22 rfl (by decide) (zk_inc _ 1) ?_
      refine zr_goto hC dX0_readByAll_25 (tgt := 2) (by decide) ?_
      first | exact zR_sub [(0, .ref 1), (1, .int (nI (i + 1)))] ⟨rfl, rfl, trivial⟩ (ih (i + 1) _ (by omega) (by rw [rda, if_pos ⟨hx.1, by omega⟩]; exact h1) (hF.tr h2)) | exact zR_sub [(0, .ref 1), (1, .int (nI (i + 1)))] ⟨rfl, rfl, trivial⟩ (ih (i + 1) _ (by omega) (by rw [rda, if_neg (by omega)]; exact hCR) hF)
    · dsimp only [Option.toList, List.cons_append, List.nil_append]
      refine zr_if_eq hC dX0_readByAll_13 (tgt := 22) (by decide) (fun c_13 => ?_) (fun c => absurd c (by decide +kernel))
      refine zn_iinc hC dX0_readByAll_22 rfl (by decide) (zk_inc _ 1) ?_
      refine zr_goto hC dX0_readByAll_25 (tgt := 2) (by decide) ?_
      first | exact zR_sub [(0, .ref 1), (1, .int (nI (i + 1)))] ⟨rfl, rfl, trivial⟩ (ih (i + 1) _ (by omega) (by rw [rda, if_pos ⟨hx.1, by omega⟩]; exact h1) (hF.tr h2)) | exact zR_sub [(0, .ref 1), (1, .int (nI (i + 1)))] ⟨rfl, rfl, trivial⟩ (ih (i + 1) _ (by omega) (by rw [rda, if_neg (by omega)]; exact hCR) hF)
def spX0_readByAll : zSp := fun av S Q => ∃ (D : zD), av = [.ref 1] ∧ CR S D ∧ RDok D ∧ ∀ S', CR S' (rda D 16) → zfrm 1 17 S S' → Q none S'
set_option maxHeartbeats 4000000 in
set_option maxRecDepth 100000 in
theorem tX0_readByAll : zM yX0_readByAll cX0_readByAll 2 none 4 spX0_readByAll := by
  refine zM.of (by decide) (by decide) (fun av S Q h => by obtain ⟨D, rfl, hCR, hok, hQ⟩ := h; exact Nat.le_of_ble_eq_true rfl) (fun C τ ι av S Q Qr h hr hC hE => ?_)
  obtain ⟨D, rfl, hCR, hok, hQ⟩ := h
  show zR C τ ι _ 0 0 0 [(0, .ref 1)] [] _
  refine zk_iconst hC dX0_readByAll_0 (v := nI 0) (by decide +kernel) ?_
  refine zr_istore_n hC dX0_readByAll_1 (by decide) ?_
  refine zR_sub [(0, .ref 1), (1, .int (nI 0))] ⟨rfl, rfl, trivial⟩ ?_
  exact l0_readByAll (S0 := S) hC hok (fun S1 lv h1 h2 => zr_vreturn hC hE dX0_readByAll_28 (hr _ _ (hQ _ h1 h2))) 16 0 S (by omega) hCR zfrm.rf
def spX0_wakeUp : zSp := fun av S Q => ∃ (m : Nat) (D : zD), av = [.ref 1, .int (nI m)] ∧ m < 16 ∧ CR S D ∧ RDok D ∧ D 0 m ≠ 0 ∧ ∀ S', CR S' (rdm m (dset D 2 m 0)) → zfrm 1 17 S S' → Q (some (.int (nI (rds m (D 3 m) (dset D 2 m 0) (D 6 1 - D 3 m)).2))) S'
set_option maxHeartbeats 4000000 in
set_option maxRecDepth 100000 in
theorem tX0_wakeUp : zM yX0_wakeUp cX0_wakeUp 2 (some .int) 4 spX0_wakeUp := by
  refine zM.of (by decide) (by decide) (fun av S Q h => by obtain ⟨m, D, rfl, hm, hCR, hok, h0, hQ⟩ := h; exact Nat.le_of_ble_eq_true rfl) (fun C τ ι av S Q Qr h hr hC hE => ?_)
  obtain ⟨m, D, rfl, hm, hCR, hok, h0, hQ⟩ := h
  show zR C τ ι _ 0 0 0 [(0, .ref 1), (1, .int (nI m))] [] _
  refine zr_aload_n hC dX0_wakeUp_0 rfl ?_
  refine zr_dup hC dX0_wakeUp_1 rfl ?_
  refine zv_geti hC dX0_wakeUp_2 fl_X0_68 (a := 1) rfl (by decide) (hCR.ms.2.2) ?_
  refine zk_iconst hC dX0_wakeUp_5 (v := nI 1) (by decide +kernel) ?_
  refine zr_iload_n hC dX0_wakeUp_6 rfl ?_
  refine zn_ishl hC dX0_wakeUp_7 (z_shl1 m (by omega)) ?_
  refine zk_iconst hC dX0_wakeUp_8 (v := (-1)) (by decide +kernel) ?_
  refine zr_ixor hC dX0_wakeUp_9 ?_
  refine zn_iand hC dX0_wakeUp_10 sls_sub ?_
  refine zs_puti hC dX0_wakeUp_11 fl_X0_68 fp_X0_5 (a := 1) rfl (by decide) ?_
  refine zr_aload_n hC dX0_wakeUp_14 rfl ?_
  refine zr_iload_n hC dX0_wakeUp_15 rfl ?_
  refine zs_callV hC (b := 1) [_] [] dX0_wakeUp_16 ml_X0_164 mtX0_readUnread tX0_readUnread (by decide) (by decide) (by decide) rfl rfl (by decide) (by decide +kernel) (Nat.le_of_ble_eq_true rfl) rfl ?_
  refine ⟨m, _, rfl, hm, hCR.sleep, ?_, h0, fun S1 h1 h2 => ?_⟩
  · obtain ⟨a, b, c, d, e⟩ := hok
    refine ⟨a, b, c, fun j hj => ?_, e⟩
    by_cases q : j = m
    · subst q; rw [dset_at]; exact Nat.zero_le _
    · rw [dset_k _ _ _ q]; exact d j hj
  dsimp only [Option.toList, List.cons_append, List.nil_append]
  exact zr_ireturn hC hE dX0_wakeUp_19 (hr _ _ (hQ _ h1 ((zfrm.rf.put (by decide) (by decide)).tr h2)))
theorem z_min {a b : Nat} (ha : a < 2147483648) (hb : b < 2147483648) : (if nI b < nI a then nI b else nI a) = nI (min a b) := by
  by_cases h : b < a
  · rw [if_pos (nI_lt h ha), Nat.min_eq_right (by omega)]
  · rw [if_neg (nI_nlt (by omega) hb), Nat.min_eq_left (by omega)]
def spX0_loseLetters : zSp := fun av S Q => ∃ (m n : Nat) (D : zD), av = [.ref 1, .int (nI m), .int (nI n)] ∧ m < 16 ∧ n < 100 ∧ CR S D ∧ RDok D ∧ D 0 m ≠ 0 ∧ ∀ S', CR S' (dset D 3 m (D 3 m + min n (D 6 1 - D 3 m))) → zfrm 1 17 S S' → Q (some (.int (nI (min n (D 6 1 - D 3 m))))) S'
set_option maxHeartbeats 4000000 in
set_option maxRecDepth 100000 in
theorem tX0_loseLetters : zM yX0_loseLetters cX0_loseLetters 4 (some .int) 1 spX0_loseLetters := by
  refine zM.of (by decide) (by decide) (fun av S Q h => by obtain ⟨m, n, D, rfl, hm, hn, hCR, hok, h0, hQ⟩ := h; exact Nat.le_of_ble_eq_true rfl) (fun C τ ι av S Q Qr h hr hC hE => ?_)
  obtain ⟨m, n, D, rfl, hm, hn, hCR, hok, h0, hQ⟩ := h
  show zR C τ ι _ 0 0 0 [(0, .ref 1), (1, .int (nI m)), (2, .int (nI n))] [] _
  refine zr_iload_n hC dX0_loseLetters_0 rfl ?_
  refine zr_aload_n hC dX0_loseLetters_1 rfl ?_
  refine zr_iload_n hC dX0_loseLetters_2 rfl ?_
  refine zs_callV hC (b := 1) [_] [_] dX0_loseLetters_3 ml_X0_174 mtX0_unread tX0_unread (by decide) (by decide) (by decide) rfl rfl (by decide) (by decide +kernel) (Nat.le_of_ble_eq_true rfl) rfl ?_
  refine ⟨m, _, _, rfl, hm, hCR.lr.1, hCR.ar.2.2 m hm h0, hok.2.2.2.2 m hm h0, ?_⟩
  dsimp only [Option.toList, List.cons_append, List.nil_append]
  refine zr_min hC (by decide) dX0_loseLetters_6 ml_X0_177 (by decide) (by decide) (Nat.le_of_ble_eq_true rfl) (z_min (by omega) (by have := hok.2.1; omega)) ?_
  refine zr_istore_n hC dX0_loseLetters_9 (by decide) ?_
  refine zr_aload_n hC dX0_loseLetters_10 rfl ?_
  refine zs_getr hC dX0_loseLetters_11 fl_X0_43 (a := 1) (r := 16) rfl (by decide) ?_
  refine zr_iload_n hC dX0_loseLetters_14 rfl ?_
  refine zr_dup2 hC dX0_loseLetters_15 rfl rfl ?_
  refine zv_iald hC dX0_loseLetters_16 (a := 16) (n := 16) rfl (by decide) (by decide) (j := m) rfl hm (hCR.ar.2.2 m hm h0) ?_
  refine zr_iload_n hC dX0_loseLetters_17 rfl ?_
  refine zn_iadd hC dX0_loseLetters_18 (nI_add _ _) ?_
  refine zs_iast hC dX0_loseLetters_19 (a := 16) (n := 16) rfl (by decide) (by decide) (j := m) rfl hm ?_
  refine zr_iload_n hC dX0_loseLetters_20 rfl ?_
  exact zr_ireturn hC hE dX0_loseLetters_21 (hr _ _ (hQ _ hCR.read (zfrm.rf.put (by decide) (by decide))))
