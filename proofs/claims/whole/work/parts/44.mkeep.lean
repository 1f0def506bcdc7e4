/-! THE MODEL: what is kept, all that it knows -/
theorem zcpy_rd (S : zS) {a b sp dp i : Nat} (h : a ≠ b ∨ dp ≤ sp) : (zcpy S a sp b dp i).1 a (sp + i) = S.1 a (sp + i) := by
  have : ¬ (a = b ∧ dp ≤ sp + i ∧ sp + i < dp + i) := fun q => by
    rcases h with h | h
    · exact h q.1
    · omega
  simp only [zcpy, if_neg this]
theorem zcpy_s (S : zS) {a b sp dp i : Nat} : zput (zcpy S a sp b dp i) b (dp + i) (S.1 a (sp + i)) = zcpy S a sp b dp (i + 1) := by
  unfold zput zcpy
  simp only [Prod.mk.injEq, and_true]
  funext a' k'
  by_cases h1 : a' = b
  · subst h1
    by_cases h2 : k' = dp + i
    · subst h2
      rw [if_pos ⟨rfl, rfl⟩, if_pos ⟨rfl, by omega, by omega⟩, show dp + i - dp = i by omega]
    · rw [if_neg (fun q => h2 q.2)]
      by_cases h3 : dp ≤ k' ∧ k' < dp + i
      · rw [if_pos ⟨rfl, h3⟩, if_pos ⟨rfl, h3.1, by omega⟩]
      · rw [if_neg (fun q => h3 q.2), if_neg (fun q => h3 ⟨q.2.1, by omega⟩)]
  · rw [if_neg (fun q => h1 q.1), if_neg (fun q => h1 q.1), if_neg (fun q => h1 q.1)]
theorem zcpy_0 (S : zS) (a b sp dp : Nat) : zcpy S a sp b dp 0 = S := by
  unfold zcpy
  apply Prod.ext
  · funext a' k'
    exact if_neg (fun q => by omega)
  · rfl
theorem zcpy_ne (S : zS) {a b sp dp n a' : Nat} (h : a' ≠ b) : (zcpy S a sp b dp n).1 a' = S.1 a' := by
  funext k
  exact if_neg (fun q => h q.1)
theorem zcpy_in (S : zS) {a b sp dp n k : Nat} (h1 : dp ≤ k) (h2 : k < dp + n) : (zcpy S a sp b dp n).1 b k = S.1 a (sp + (k - dp)) := if_pos ⟨rfl, h1, h2⟩
theorem zcpy_out (S : zS) {a b sp dp n k : Nat} (h : k < dp ∨ dp + n ≤ k) : (zcpy S a sp b dp n).1 b k = S.1 b k := if_neg (fun q => by omega)
theorem MW.ext {f f' : Nat → Int32} {D : zD} (h : MW f D) (e : ∀ k, k < 752 → f' k = f k) : MW f' D := by
  obtain ⟨⟨⟨a0, a1, a2, a3⟩, b, c, d⟩, hb⟩ := h
  have h1 := hb.1
  have h2 := hb.2.1
  refine ⟨⟨⟨by rw [e _ (by decide)]; exact a0, by rw [e _ (by decide)]; exact a1, by rw [e _ (by decide)]; exact a2, by rw [e _ (by decide)]; exact a3⟩, fun m w hm hw => by rw [e _ (by omega)]; exact b m w hm hw, fun k hk => by rw [e _ (by omega), e _ (by omega)]; exact c k hk, fun i hi => by rw [e _ (by omega)]; exact d i hi⟩, hb⟩
def MP (S : zS) (c f : Nat) (p : zP) : Prop := S.1 245 f = nI p.2 ∧ p.2 ≤ 6 ∧ ∀ j, j < p.2 → MW (fun k => S.1 c (752 * j + k)) (p.1 j)
def MT (S : zS) (t : (Nat → Nat) × Nat) : Prop := S.1 245 6 = nI t.2 ∧ t.2 ≤ 90 ∧ ∀ i, i < t.2 → S.1 251 i = nI (t.1 i)
def MSH (S : zS) (h : zH) : Prop := ∀ t, t < 4 → S.1 255 t = caI (h.1 t) ∧ h.1 t ≤ 4 ∧ (h.1 t ≠ 0 → S.1 256 t = nI (h.2.1 t) ∧ h.2.1 t ≤ 24 ∧ ∀ k, k < h.2.1 t → S.2 257 (24 * t + k) = h.2.2 t k)
def MIM (S : zS) (i : Bool × zD × zP) : Prop := (i.1 = false → S.1 245 13 = -1) ∧ (i.1 = true → MW (S.1 253) i.2.1 ∧ MP S 254 13 i.2.2)
def MG (S : zS) (G : zG) : Prop := MW (S.1 246) G.1 ∧ MP S 252 10 G.2.1 ∧ MIM S G.2.2.1 ∧ MT S G.2.2.2.1 ∧ MSH S G.2.2.2.2
def zfm (S S' : zS) : Prop := ∀ a, a < 245 → S'.1 a = S.1 a ∧ S'.2 a = S.2 a
theorem zfm.rf {S : zS} : zfm S S := fun _ _ => ⟨rfl, rfl⟩
theorem zfm.tr {S S' S'' : zS} (h : zfm S S') (h' : zfm S' S'') : zfm S S'' := fun a ha => ⟨(h' a ha).1.trans (h a ha).1, (h' a ha).2.trans (h a ha).2⟩
theorem zfrm.m {lo hi : Nat} {S S' : zS} (h : zfrm lo hi S S') (hh : 245 ≤ lo) : zfm S S' := fun a ha => ⟨h.1 a (by omega), by rw [h.2]⟩
theorem MP.fr {S S' : zS} {c f : Nat} {p : zP} (h : MP S c f p) (h1 : S'.1 245 f = S.1 245 f) (h2 : S'.1 c = S.1 c) : MP S' c f p := by
  unfold MP
  rw [h1, h2]; exact h
/-- the other cells stay -/
theorem MG.fr {S S' : zS} {G : zG} {D : zD} (h : MG S G) (hM : MW (S'.1 246) D) (h5 : ∀ k, (k = 6 ∨ k = 10 ∨ k = 13) → S'.1 245 k = S.1 245 k) (he : ∀ a, 251 ≤ a → a < 257 → S'.1 a = S.1 a) (h2 : S'.2 257 = S.2 257) : MG S' (gset G D) := by
  obtain ⟨a, b, c, d, e⟩ := h
  refine ⟨hM, b.fr (h5 10 (by decide)) (he _ (by decide) (by decide)), ⟨fun q => (h5 13 (by decide)).trans (c.1 q), fun q => ⟨by rw [he 253 (by decide) (by decide)]; exact (c.2 q).1, (c.2 q).2.fr (h5 13 (by decide)) (he _ (by decide) (by decide))⟩⟩, ?_, ?_⟩
  · unfold MT; rw [h5 6 (by decide), he 251 (by decide) (by decide)]; exact d
  · unfold MSH; rw [he 255 (by decide) (by decide), he 256 (by decide) (by decide), h2]; exact e
theorem MG.book {S S' : zS} {G : zG} (h : MG S G) {D : zD} (hM : MW (S'.1 246) D) (hf : zfrm 246 250 S S') : MG S' (gset G D) := h.fr hM (fun k _ => by rw [hf.1 245 (by decide)]) (fun a q1 q2 => hf.1 a (by omega)) (by rw [hf.2])
theorem MG.same {S S' : zS} {G : zG} (h : MG S G) (hM : S'.1 246 = S.1 246) (h5 : ∀ k, (k = 6 ∨ k = 10 ∨ k = 13) → S'.1 245 k = S.1 245 k) (he : ∀ a, 251 ≤ a → a < 257 → S'.1 a = S.1 a) (h2 : S'.2 257 = S.2 257) : MG S' G := h.fr (D := G.1) (by rw [hM]; exact h.1) h5 he h2
set_option maxHeartbeats 4000000 in
set_option maxRecDepth 100000 in
theorem l9_notes1 {C : zCx} {τ : Nat → ClassId} {ι : Nat → Nat} (hC : zOK C τ (zrm 0 0 0) yX9_notes.cls cX9_notes 2) {S0 : zS} (k : ∀ lv, zlk 0 lv = some (.ref 245) → zR C τ ι 2 0 0 42 lv [] (zcells (zcpy S0 252 752 252 0 3760))) : ∀ (d i : Nat), i + d = 3760 → zR C τ ι 2 0 0 13 [(0, .ref 245), (1, .int (nI (752 + i)))] [] (zcells (zcpy S0 252 752 252 0 i)) := by
  intro d
  induction d with
  | zero =>
    intro i hi
    refine zr_iload_n hC dX9_notes_13 rfl ?_
    refine zk_sipush hC dX9_notes_14 (v := nI 4512) (by decide +kernel) ?_
    refine zr_icmp_ge hC dX9_notes_17 (tgt := 42) (by decide) (fun c_17 => ?_) (fun c => absurd c (not_not_intro (nI_le (by omega) (by omega))))
    obtain rfl : i = 3760 := (by omega)
    exact k _ rfl
  | succ d ih =>
    intro i hi
    refine zr_iload_n hC dX9_notes_13 rfl ?_
    refine zk_sipush hC dX9_notes_14 (v := nI 4512) (by decide +kernel) ?_
    refine zr_icmp_ge hC dX9_notes_17 (tgt := 42) (by decide) (fun c => absurd c (nI_ge (by omega) (by omega))) (fun c_17 => ?_)
    refine zr_aload_n hC dX9_notes_20 rfl ?_
    refine zs_getr hC dX9_notes_21 fl_X9_29 (a := 245) (r := 252) rfl (by decide) ?_
    refine zr_iload_n hC dX9_notes_24 rfl ?_
    refine zk_sipush hC dX9_notes_25 (v := nI 752) (by decide +kernel) ?_
    refine zn_isub hC dX9_notes_28 (pk_sub (by omega)) ?_
    refine zr_aload_n hC dX9_notes_29 rfl ?_
    refine zs_getr hC dX9_notes_30 fl_X9_29 (a := 245) (r := 252) rfl (by decide) ?_
    refine zr_iload_n hC dX9_notes_33 rfl ?_
    refine zv_iald hC dX9_notes_34 (a := 252) (n := 4512) rfl (by decide) (by decide) (j := 752 + i) rfl (by omega) (zcpy_rd S0 (Or.inr (by decide))) ?_
    refine zs_iast hC dX9_notes_35 (a := 252) (n := 4512) rfl (by decide) (by decide) (j := 752 + i - 752) rfl (by omega) ?_
    refine zn_iinc hC dX9_notes_36 rfl (by decide) (zk_inc _ 1) ?_
    refine zr_goto hC dX9_notes_39 (tgt := 13) (by decide) ?_
    rw [show zput (zcpy S0 252 752 252 0 i) 252 (752 + i - 752) (S0.1 252 (752 + i)) = zcpy S0 252 752 252 0 (i + 1) by rw [show 752 + i - 752 = 0 + i by omega]; exact zcpy_s S0]
    exact zR_sub [(0, .ref 245), (1, .int (nI (752 + (i + 1))))] ⟨rfl, rfl, trivial⟩ (ih (i + 1) (by omega))
set_option maxHeartbeats 4000000 in
set_option maxRecDepth 100000 in
theorem l9_notes2 {C : zCx} {τ : Nat → ClassId} {ι : Nat → Nat} (hC : zOK C τ (zrm 0 0 0) yX9_notes.cls cX9_notes 2) {S0 : zS} {n : Nat} (hn : S0.1 245 10 = nI n) (hn5 : n ≤ 5) (k : ∀ lv, zlk 0 lv = some (.ref 245) → zR C τ ι 2 0 0 83 lv [] (zcells (zcpy S0 246 0 252 (752 * n) 752))) : ∀ (d i : Nat), i + d = 752 → zR C τ ι 2 0 0 49 [(0, .ref 245), (1, .int (nI i))] [] (zcells (zcpy S0 246 0 252 (752 * n) i)) := by
  intro d
  induction d with
  | zero =>
    intro i hi
    refine zr_iload_n hC dX9_notes_49 rfl ?_
    refine zk_sipush hC dX9_notes_50 (v := nI 752) (by decide +kernel) ?_
    refine zr_icmp_ge hC dX9_notes_53 (tgt := 83) (by decide) (fun c_53 => ?_) (fun c => absurd c (not_not_intro (nI_le (by omega) (by omega))))
    obtain rfl : i = 752 := (by omega)
    exact k _ rfl
  | succ d ih =>
    intro i hi
    refine zr_iload_n hC dX9_notes_49 rfl ?_
    refine zk_sipush hC dX9_notes_50 (v := nI 752) (by decide +kernel) ?_
    refine zr_icmp_ge hC dX9_notes_53 (tgt := 83) (by decide) (fun c => absurd c (nI_ge (by omega) (by omega))) (fun c_53 => ?_)
    refine zr_aload_n hC dX9_notes_56 rfl ?_
    refine zs_getr hC dX9_notes_57 fl_X9_29 (a := 245) (r := 252) rfl (by decide) ?_
    refine zk_sipush hC dX9_notes_60 (v := nI 752) (by decide +kernel) ?_
    refine zr_aload_n hC dX9_notes_63 rfl ?_
    refine zv_geti hC dX9_notes_64 fl_X9_169 (a := 245) rfl (by decide) ((congrFun (zcpy_ne S0 (by decide)) 10).trans hn) ?_
    refine zn_imul hC dX9_notes_67 (pk_mul _ _) ?_
    refine zr_iload_n hC dX9_notes_68 rfl ?_
    refine zn_iadd hC dX9_notes_69 (nI_add _ _) ?_
    refine zr_aload_n hC dX9_notes_70 rfl ?_
    refine zs_getr hC dX9_notes_71 fl_X9_7 (a := 245) (r := 246) rfl (by decide) ?_
    refine zr_iload_n hC dX9_notes_74 rfl ?_
    refine zv_iald hC dX9_notes_75 (a := 246) (n := 752) rfl (by decide) (by decide) (j := i) rfl (by omega) ((congrFun (zcpy_ne S0 (by decide)) i).trans (congrArg (S0.1 246) (Nat.zero_add i).symm)) ?_
    refine zs_iast hC dX9_notes_76 (a := 252) (n := 4512) rfl (by decide) (by decide) (j := 752 * n + i) rfl (by omega) ?_
    refine zn_iinc hC dX9_notes_77 rfl (by decide) (zk_inc _ 1) ?_
    refine zr_goto hC dX9_notes_80 (tgt := 49) (by decide) ?_
    rw [show zput (zcpy S0 246 0 252 (752 * n) i) 252 (752 * n + i) (S0.1 246 (0 + i)) = zcpy S0 246 0 252 (752 * n) (i + 1) from zcpy_s S0]
    exact zR_sub [(0, .ref 245), (1, .int (nI (i + 1)))] ⟨rfl, rfl, trivial⟩ (ih (i + 1) (by omega))
theorem notes_ok {S S1 : zS} {D : zD} {p : zP} (hM : MW (S.1 246) D) (hP : MP S 252 10 p) {n : Nat} (hn : n = if p.2 < 6 then p.2 else 5) (h1 : S1.1 245 10 = nI n) (e0 : S1.1 246 = S.1 246) (e1 : if p.2 < 6 then S1.1 252 = S.1 252 else ∀ k, k < 3760 → S1.1 252 k = S.1 252 (752 + k)) : MP (zput (zcpy S1 246 0 252 (752 * n) 752) 245 10 (nI (n + 1))) 252 10 (pkeep D p) := by
  obtain ⟨a, b, c⟩ := hP
  have row : MW (fun k => (zput (zcpy S1 246 0 252 (752 * n) 752) 245 10 (nI (n + 1))).1 252 (752 * n + k)) D := by
    refine hM.ext (fun k hk => ?_)
    show (zput _ 245 10 _).1 252 (752 * n + k) = _
    rw [zput_ne _ _ (by decide), zcpy_in S1 (by omega) (by omega), e0]
    exact congrArg (S.1 246) (by omega)
  have old : ∀ j, j < n → ∀ E, MW (fun k => S1.1 252 (752 * j + k)) E → MW (fun k => (zput (zcpy S1 246 0 252 (752 * n) 752) 245 10 (nI (n + 1))).1 252 (752 * j + k)) E := fun j hj E hE => by
    refine hE.ext (fun k hk => ?_)
    show (zput _ 245 10 _).1 252 (752 * j + k) = _
    rw [zput_ne _ _ (by decide), zcpy_out S1 (by omega)]
  have top : (zput (zcpy S1 246 0 252 (752 * n) 752) 245 10 (nI (n + 1))).1 245 10 = nI (n + 1) := zput_at _ _ _ _
  generalize zput (zcpy S1 246 0 252 (752 * n) 752) 245 10 (nI (n + 1)) = S2 at *
  unfold pkeep
  by_cases h : p.2 < 6
  · rw [if_pos h] at hn e1 ⊢
    subst hn
    refine ⟨top, by show p.2 + 1 ≤ 6; omega, fun j hj => ?_⟩
    replace hj : j < p.2 + 1 := hj
    show MW _ (if j = p.2 then D else p.1 j)
    by_cases q : j = p.2
    · rw [if_pos q, q]; exact row
    · rw [if_neg q]
      exact old j (by omega) _ (by rw [e1]; exact c j (by omega))
  · rw [if_neg h] at hn e1 ⊢
    subst hn
    refine ⟨top, Nat.le_refl 6, fun j hj => ?_⟩
    replace hj : j < 6 := hj
    show MW _ (if j = 5 then D else p.1 (j + 1))
    by_cases q : j = 5
    · rw [if_pos q, q]; exact row
    · rw [if_neg q]
      refine old j (by omega) _ ((c (j + 1) (by omega)).ext (fun k hk => ?_))
      show S1.1 252 (752 * j + k) = S.1 252 (752 * (j + 1) + k)
      rw [e1 _ (by omega)]
      exact congrArg (S.1 252) (by omega)
def spX9_notes : zSp := fun av S Q => ∃ (D : zD) (p : zP), av = [.ref 245] ∧ MW (S.1 246) D ∧ MP S 252 10 p ∧ ∀ S', MP S' 252 10 (pkeep D p) → (∀ k, k ≠ 10 → S'.1 245 k = S.1 245 k) → (∀ a, a ≠ 245 → a ≠ 252 → S'.1 a = S.1 a) → S'.2 = S.2 → Q none S'
set_option maxHeartbeats 4000000 in
set_option maxRecDepth 100000 in
theorem tX9_notes : zM yX9_notes cX9_notes 2 none 0 spX9_notes := by
  refine zM.of (by decide) (by decide) (fun av S Q h => by obtain ⟨D, p, rfl, hM, hP, hQ⟩ := h; exact Nat.le_of_ble_eq_true rfl) (fun C τ ι av S Q Qr h hr hC hE => ?_)
  obtain ⟨D, p, rfl, hM, hP, hQ⟩ := h
  show zR C τ ι _ 0 0 0 [(0, .ref 245)] [] _
  by_cases h6 : p.2 = 6
  · have hv : S.1 245 10 = nI 6 := by rw [hP.1, h6]
    have hnl : ¬ p.2 < 6 := by omega
    refine zr_aload_n hC dX9_notes_0 rfl ?_
    refine zv_geti hC dX9_notes_1 fl_X9_169 (a := 245) rfl (by decide) (hv) ?_
    refine zk_bipush hC dX9_notes_4 (v := nI 6) (by decide +kernel) ?_
    refine zr_icmp_ne hC dX9_notes_6 (tgt := 47) (by decide) (fun c => absurd c (by decide +kernel)) (fun c_6 => ?_)
    refine zk_sipush hC dX9_notes_9 (v := nI 752) (by decide +kernel) ?_
    refine zr_istore_n hC dX9_notes_12 (by decide) ?_
    refine zR_sub [(0, .ref 245), (1, .int (nI (752 + 0)))] ⟨rfl, rfl, trivial⟩ ?_
    have q0 := l9_notes1 (S0 := S) hC (ι := ι) (fun lv h0 => ?_) 3760 0 (by omega)
    · rwa [zcpy_0] at q0
    · refine zR_sub [(0, .ref 245)] ⟨h0, trivial⟩ ?_
      refine zr_aload_n hC dX9_notes_42 rfl ?_
      refine zk_iconst hC dX9_notes_43 (v := nI 5) (by decide +kernel) ?_
      refine zs_puti hC dX9_notes_44 fl_X9_169 fp_X9_10 (a := 245) rfl (by decide) ?_
      refine zk_iconst hC dX9_notes_47 (v := nI 0) (by decide +kernel) ?_
      refine zr_istore_n hC dX9_notes_48 (by decide) ?_
      have hn1 : (zput (zcpy S 252 752 252 0 3760) 245 10 (nI 5)).1 245 10 = nI 5 := zput_at _ _ _ _
      generalize hS1 : zput (zcpy S 252 752 252 0 3760) 245 10 (nI 5) = S1 at *
      refine zR_sub [(0, .ref 245), (1, .int (nI 0))] ⟨rfl, rfl, trivial⟩ ?_
      have q1 := l9_notes2 (S0 := S1) hC (ι := ι) hn1 (by decide) (fun lv h0 => ?_) 752 0 (by omega)
      · rwa [zcpy_0] at q1
      · refine zR_sub [(0, .ref 245)] ⟨h0, trivial⟩ ?_
        refine zr_aload_n hC dX9_notes_83 rfl ?_
        refine zr_dup hC dX9_notes_84 rfl ?_
        refine zv_geti hC dX9_notes_85 fl_X9_169 (a := 245) rfl (by decide) ((congrFun (zcpy_ne S1 (by decide)) 10).trans hn1) ?_
        refine zk_iconst hC dX9_notes_88 (v := nI 1) (by decide +kernel) ?_
        refine zn_iadd hC dX9_notes_89 (nI_add _ _) ?_
        refine zs_puti hC dX9_notes_90 fl_X9_169 fp_X9_10 (a := 245) rfl (by decide) ?_
        exact zr_vreturn hC hE dX9_notes_93 (hr _ _ (hQ _ (notes_ok hM hP (if_neg hnl).symm hn1 (by rw [← hS1, zput_ne _ _ (by decide), zcpy_ne _ (by decide)]) (by rw [if_neg hnl]; intro k hk; rw [← hS1, zput_ne _ _ (by decide), zcpy_in _ (by omega) (by omega), Nat.sub_zero])) (fun k hk => by rw [zput_k _ _ hk, zcpy_ne _ (by decide), ← hS1, zput_k _ _ hk, zcpy_ne _ (by decide)]) (fun a q1 q2 => by rw [zput_ne _ _ q1, zcpy_ne _ q2, ← hS1, zput_ne _ _ q1, zcpy_ne _ q2]) (by rw [← hS1]; rfl)))
  · have hv : S.1 245 10 = nI p.2 := hP.1
    have hnl : p.2 < 6 := by have := hP.2.1; omega
    refine zr_aload_n hC dX9_notes_0 rfl ?_
    refine zv_geti hC dX9_notes_1 fl_X9_169 (a := 245) rfl (by decide) (hv) ?_
    refine zk_bipush hC dX9_notes_4 (v := nI 6) (by decide +kernel) ?_
    refine zr_icmp_ne hC dX9_notes_6 (tgt := 47) (by decide) (fun c_6 => ?_) (fun c => absurd c (fun q => by rw [nI_eq (by omega) (by decide)] at q; omega))
    refine zk_iconst hC dX9_notes_47 (v := nI 0) (by decide +kernel) ?_
    refine zr_istore_n hC dX9_notes_48 (by decide) ?_
    refine zR_sub [(0, .ref 245), (1, .int (nI 0))] ⟨rfl, rfl, trivial⟩ ?_
    have q1 := l9_notes2 (S0 := S) hC (ι := ι) hv (by omega) (fun lv h0 => ?_) 752 0 (by omega)
    · rwa [zcpy_0] at q1
    · have hn1 := hv
      refine zR_sub [(0, .ref 245)] ⟨h0, trivial⟩ ?_
      refine zr_aload_n hC dX9_notes_83 rfl ?_
      refine zr_dup hC dX9_notes_84 rfl ?_
      refine zv_geti hC dX9_notes_85 fl_X9_169 (a := 245) rfl (by decide) ((congrFun (zcpy_ne S (by decide)) 10).trans hn1) ?_
      refine zk_iconst hC dX9_notes_88 (v := nI 1) (by decide +kernel) ?_
      refine zn_iadd hC dX9_notes_89 (nI_add _ _) ?_
      refine zs_puti hC dX9_notes_90 fl_X9_169 fp_X9_10 (a := 245) rfl (by decide) ?_
      exact zr_vreturn hC hE dX9_notes_93 (hr _ _ (hQ _ (notes_ok hM hP (if_pos hnl).symm hn1 rfl (by rw [if_pos hnl])) (fun k hk => by rw [zput_k _ _ hk, zcpy_ne _ (by decide)]) (fun a q1 q2 => by rw [zput_ne _ _ q1, zcpy_ne _ q2]) rfl))
theorem keepM {S : zS} {G : zG} (h : MG S G) {Q : Option Value → zS → Prop} (hQ : ∀ S', MG S' (gkp G) → zfm S S' → S'.1 251 = S.1 251 → (∀ k, k ≠ 10 → S'.1 245 k = S.1 245 k) → Q none S') : spX9_notes [.ref 245] S Q := by
  obtain ⟨a, b, c, d, e⟩ := h
  refine ⟨G.1, G.2.1, rfl, a, b, fun S' h1 h2 h3 h4 => hQ S' ⟨by rw [h3 246 (by decide) (by decide)]; exact a, h1, ⟨fun q => (h2 13 (by decide)).trans (c.1 q), fun q => ⟨by rw [h3 253 (by decide) (by decide)]; exact (c.2 q).1, (c.2 q).2.fr (h2 13 (by decide)) (h3 254 (by decide) (by decide))⟩⟩, ?_, ?_⟩ (fun x hx => ⟨h3 x (by omega) (by omega), by rw [h4]⟩) (h3 251 (by decide) (by decide)) h2⟩
  · unfold MT; rw [h2 6 (by decide), h3 251 (by decide) (by decide)]; exact d
  · unfold MSH; rw [h3 255 (by decide) (by decide), h3 256 (by decide) (by decide), h4]; exact e
def lck (D : zD) (m : Nat) : Nat → Nat → Nat
  | 0, _ => 0
  | n + 1, u => if u = 0 then 0 else (if hd D m (key D u) = true then 0 else 1) + lck D m n (u / 2)
theorem lck_0 {D : zD} {m : Nat} : ∀ n u, lck D m n u = 0 ↔ hall D m n u = true
  | 0, u => by simp [lck, hall]
  | n + 1, u => by
    have ih := lck_0 (D := D) (m := m) n (u / 2)
    unfold lck hall
    by_cases hu : u = 0
    · simp [hu]
    · rw [if_neg hu, if_neg hu, Bool.and_eq_true, ← ih]
      by_cases hh : hd D m (key D u) = true
      · simp [hh]
      · rw [if_neg hh]
        constructor
        · intro q; omega
        · intro q; exact absurd q.1 hh
theorem lck_le {D : zD} {m : Nat} : ∀ n u, lck D m n u ≤ n
  | 0, u => Nat.le_refl 0
  | n + 1, u => by
    have ih := lck_le (D := D) (m := m) n (u / 2)
    unfold lck
    split
    · omega
    · split <;> omega
theorem kofm_path {D : zD} {v : Nat} (h : sm (D 0) v ≠ 0) (hk : key D v < D 6 0) (h7 : D 7 (key D v) = v) : kofm D v = nI (key D v) := by
  rw [kofm_is (fun _ => ⟨_, hk, h7⟩), kof, if_neg h]
set_option maxHeartbeats 4000000 in
set_option maxRecDepth 100000 in
theorem l9_lacks {C : zCx} {τ : Nat → ClassId} {ι : Nat → Nat} (hC : zOK C τ (zrm 3 0 0) yX9_lacks.cls cX9_lacks 4) {S : zS} {D : zD} {m : Nat} (hm : m < 16) (hM : MW (S.1 246) D) : ∀ (n u acc : Nat), u < 2 ^ n → u < 32 → (∀ v, bnf n u v = true → 1 ≤ v ∧ v < 32 ∧ kofm D v = nI (key D v) ∧ key D v < D 6 0) → (∀ lv, zlk 2 lv = some (.int (nI (acc + lck D m n u))) → zR C τ ι 4 0 0 43 lv [] (zcells S)) → zR C τ ι 4 0 0 11 [(0, .ref 245), (1, .int (nI m)), (2, .int (nI acc)), (3, .int (nI u))] [] (zcells S) := by
  intro n
  induction n with
  | zero =>
    intro u acc hu hu2 hp k
    have hu0 : u = 0 := by simpa using hu
    subst hu0
    refine zr_iload_n hC dX9_lacks_11 rfl ?_
    refine zr_if_le hC dX9_lacks_12 (tgt := 43) (by decide) (fun c_12 => ?_) (fun c => absurd c (not_not_intro (nI_le (b := 0) (Nat.le_refl 0) (by decide))))
    exact k _ rfl
  | succ n ih =>
    intro u acc hu hu2 hp k
    refine zr_iload_n hC dX9_lacks_11 rfl ?_
    refine zr_if_le hC dX9_lacks_12 (tgt := 43) (by decide) (fun c_12 => ?_) (fun c_12 => ?_)
    · have hu0 : u = 0 := by rcases Nat.eq_zero_or_pos u with q | q; exact q; exact absurd c_12 (nI_nle q (by omega))
      subst hu0
      rw [show lck D m (n + 1) 0 = 0 from if_pos rfl, Nat.add_zero] at k
      exact k _ rfl
    · have hu1 : u ≠ 0 := fun q => c_12 (by rw [q]; decide)
      obtain ⟨p1, p2, p3, p4⟩ := hp u (by simp [bnf, hu1])
      refine zr_iload_n hC dX9_lacks_15 rfl ?_
      refine zr_aload_n hC dX9_lacks_16 rfl ?_
      refine zr_iload_n hC dX9_lacks_17 rfl ?_
      refine zr_aload_n hC dX9_lacks_18 rfl ?_
      refine zr_iload_n hC dX9_lacks_19 rfl ?_
      refine zs_callV hC (b := 245) [_] [_, _, _] dX9_lacks_20 ml_X9_140 mtX9_keyOf tX9_keyOf (by decide) (by decide) (by decide) rfl rfl (by decide) (by decide +kernel) (Nat.le_of_ble_eq_true rfl) rfl ?_
      refine ⟨u, D, rfl, by omega, hM, ?_⟩
      rw [p3]
      dsimp only [Option.toList, List.cons_append, List.nil_append]
      refine zs_callV hC (b := 245) [_, _] [_] dX9_lacks_23 ml_X9_117 mtX9_holds tX9_holds (by decide) (by decide) (by decide) rfl rfl (by decide) (by decide +kernel) (Nat.le_of_ble_eq_true rfl) rfl ?_
      refine ⟨m, _, D, rfl, hm, p4, hM, fun r e => ?_⟩
      rcases e with ⟨rfl, hx⟩ | ⟨rfl, hx⟩
      · have hs : lck D m (n + 1) u = 0 + lck D m n (u / 2) := (if_neg hu1).trans (by rw [if_pos hx])
        dsimp only [Option.toList, List.cons_append, List.nil_append]
        refine zr_if_eq hC dX9_lacks_26 (tgt := 33) (by decide) (fun c => absurd c (by decide +kernel)) (fun c_26 => ?_)
        refine zk_iconst hC dX9_lacks_29 (v := nI 0) (by decide +kernel) ?_
        refine zr_goto hC dX9_lacks_30 (tgt := 34) (by decide) ?_
        refine zn_iadd hC dX9_lacks_34 (nI_add _ _) ?_
        refine zr_istore_n hC dX9_lacks_35 (by decide) ?_
        refine zr_iload_n hC dX9_lacks_36 rfl ?_
        refine zk_iconst hC dX9_lacks_37 (v := nI 2) (by decide +kernel) ?_
        refine zn_idiv hC dX9_lacks_38 (by decide +kernel) (z_half (by omega)) ?_
        refine zr_istore_n hC dX9_lacks_39 (by decide) ?_
        refine zr_goto hC dX9_lacks_40 (tgt := 11) (by decide) ?_
        exact zR_sub [(0, .ref 245), (1, .int (nI m)), (2, .int (nI (acc + 0))), (3, .int (nI (u / 2)))] ⟨rfl, rfl, rfl, rfl, trivial⟩ (ih (u / 2) (acc + 0) (by rw [Nat.pow_succ] at hu; omega) (by omega) (fun v hv => hp v (by simp [bnf, hv, hu1])) (fun lv h => k lv (by rw [h, hs, Nat.add_assoc])))
      · have hs : lck D m (n + 1) u = 1 + lck D m n (u / 2) := (if_neg hu1).trans (by rw [if_neg (by rw [hx]; decide)])
        dsimp only [Option.toList, List.cons_append, List.nil_append]
        refine zr_if_eq hC dX9_lacks_26 (tgt := 33) (by decide) (fun c_26 => ?_) (fun c => absurd c (by decide +kernel))
        refine zk_iconst hC dX9_lacks_33 (v := nI 1) (by decide +kernel) ?_
        refine zn_iadd hC dX9_lacks_34 (nI_add _ _) ?_
        refine zr_istore_n hC dX9_lacks_35 (by decide) ?_
        refine zr_iload_n hC dX9_lacks_36 rfl ?_
        refine zk_iconst hC dX9_lacks_37 (v := nI 2) (by decide +kernel) ?_
        refine zn_idiv hC dX9_lacks_38 (by decide +kernel) (z_half (by omega)) ?_
        refine zr_istore_n hC dX9_lacks_39 (by decide) ?_
        refine zr_goto hC dX9_lacks_40 (tgt := 11) (by decide) ?_
        exact zR_sub [(0, .ref 245), (1, .int (nI m)), (2, .int (nI (acc + 1))), (3, .int (nI (u / 2)))] ⟨rfl, rfl, rfl, rfl, trivial⟩ (ih (u / 2) (acc + 1) (by rw [Nat.pow_succ] at hu; omega) (by omega) (fun v hv => hp v (by simp [bnf, hv, hu1])) (fun lv h => k lv (by rw [h, hs, Nat.add_assoc])))
def spX9_lacks : zSp := fun av S Q => ∃ (m : Nat) (D : zD), av = [.ref 245, .int (nI m)] ∧ m < 16 ∧ MW (S.1 246) D ∧ INV D ∧ D 0 m ≠ 0 ∧ Q (some (.int (nI (lck D m 4 (D 0 m / 2))))) S
set_option maxHeartbeats 4000000 in
set_option maxRecDepth 100000 in
theorem tX9_lacks : zM yX9_lacks cX9_lacks 4 (some .int) 3 spX9_lacks := by
  refine zM.of (by decide) (by decide) (fun av S Q h => by obtain ⟨m, D, rfl, hm, hM, hI, h0, hQ⟩ := h; exact Nat.le_of_ble_eq_true rfl) (fun C τ ι av S Q Qr h hr hC hE => ?_)
  obtain ⟨m, D, rfl, hm, hM, hI, h0, hQ⟩ := h
  show zR C τ ι _ 0 0 0 [(0, .ref 245), (1, .int (nI m))] [] _
  refine zk_iconst hC dX9_lacks_0 (v := nI 0) (by decide +kernel) ?_
  refine zr_istore_n hC dX9_lacks_1 (by decide) ?_
  refine zr_aload_n hC dX9_lacks_2 rfl ?_
  refine zr_iload_n hC dX9_lacks_3 rfl ?_
  refine zk_iconst hC dX9_lacks_4 (v := nI 0) (by decide +kernel) ?_
  refine zs_callV hC (b := 245) [_, _] [] dX9_lacks_5 ml_X9_64 mtX9_of tX9_of (by decide) (by decide) (by decide) rfl rfl (by decide) (by decide +kernel) (Nat.le_of_ble_eq_true rfl) rfl ?_
  refine ⟨m, 0, rfl, hm, by decide, ?_⟩
  rw [show S.1 246 (4 + 6 * m + 0) = nI (D 0 m) from hM.mem hm (by decide)]
  dsimp only [Option.toList, List.cons_append, List.nil_append]
  refine zk_iconst hC dX9_lacks_8 (v := nI 2) (by decide +kernel) ?_
  refine zn_idiv hC dX9_lacks_9 (by decide +kernel) (z_half (by have := hI.ok.lt hm; omega)) ?_
  refine zr_istore_n hC dX9_lacks_10 (by decide) ?_
  have hlt := hI.ok.lt hm
  refine zR_sub [(0, .ref 245), (1, .int (nI m)), (2, .int (nI 0)), (3, .int (nI (D 0 m / 2)))] ⟨rfl, rfl, rfl, rfl, trivial⟩ (l9_lacks hC hm hM 4 (D 0 m / 2) 0 (by omega) (by omega) (fun v hv => ?_) (fun lv h => ?_))
  · obtain ⟨a, b, c, d⟩ := inv_path hI hm h0 v hv
    exact ⟨a, b, kofm_path c d (hI.live a b c).2, d⟩
  · rw [Nat.zero_add] at h
    refine zr_iload_n hC dX9_lacks_43 h ?_
    exact zr_ireturn hC hE dX9_lacks_44 (hr _ _ hQ)
def spX9_mendRefusal : zSp := fun av S Q => ∃ (m : Nat) (D : zD), av = [.ref 245, .int (nI m)] ∧ m < 16 ∧ MW (S.1 246) D ∧ INV D ∧ Q (some (.int (mrf D m))) S
set_option maxHeartbeats 4000000 in
set_option maxRecDepth 100000 in
theorem tX9_mendRefusal : zM yX9_mendRefusal cX9_mendRefusal 2 (some .int) 4 spX9_mendRefusal := by
  refine zM.of (by decide) (by decide) (fun av S Q h => by obtain ⟨m, D, rfl, hm, hM, hI, hQ⟩ := h; exact Nat.le_of_ble_eq_true rfl) (fun C τ ι av S Q Qr h hr hC hE => ?_)
  obtain ⟨m, D, rfl, hm, hM, hI, hQ⟩ := h
  show zR C τ ι _ 0 0 0 [(0, .ref 245), (1, .int (nI m))] [] _
  refine zr_aload_n hC dX9_mendRefusal_0 rfl ?_
  refine zr_iload_n hC dX9_mendRefusal_1 rfl ?_
  refine zs_callV hC (b := 245) [_] [] dX9_mendRefusal_2 ml_X9_68 mtX9_sits tX9_sits (by decide) (by decide) (by decide) rfl rfl (by decide) (by decide +kernel) (Nat.le_of_ble_eq_true rfl) rfl ?_
  refine ⟨m, D, rfl, hm, hM, fun r e => ?_⟩
  rcases e with ⟨rfl, h0⟩ | ⟨rfl, h0⟩
  · dsimp only [Option.toList, List.cons_append, List.nil_append]
    refine zr_if_eq hC dX9_mendRefusal_5 (tgt := 26) (by decide) (fun c => absurd c (by decide +kernel)) (fun c_5 => ?_)
    refine zr_aload_n hC dX9_mendRefusal_8 rfl ?_
    refine zr_iload_n hC dX9_mendRefusal_9 rfl ?_
    refine zk_iconst hC dX9_mendRefusal_10 (v := nI 1) (by decide +kernel) ?_
    refine zs_callV hC (b := 245) [_, _] [] dX9_mendRefusal_11 ml_X9_64 mtX9_of tX9_of (by decide) (by decide) (by decide) rfl rfl (by decide) (by decide +kernel) (Nat.le_of_ble_eq_true rfl) rfl ?_
    refine ⟨m, 1, rfl, hm, by decide, ?_⟩
    rw [show S.1 246 (4 + 6 * m + 1) = nI (D 2 m) from hM.mem hm (by decide)]
    dsimp only [Option.toList, List.cons_append, List.nil_append]
    refine zk_iconst hC dX9_mendRefusal_14 (v := nI 1) (by decide +kernel) ?_
    refine zr_icmp_eq hC dX9_mendRefusal_15 (tgt := 26) (by decide) (fun c_15 => ?_) (fun c_15 => ?_)
    · have c2 : D 2 m = 1 := (nI_eq (by have := hM.lt2 hm; omega) (by decide)).mp c_15
      rw [show mrf D m = -2 from if_pos (Or.inr (Or.inl c2))] at hQ
      refine zk_bipush hC dX9_mendRefusal_26 (v := (-2)) (by decide +kernel) ?_
      refine zr_goto hC dX9_mendRefusal_28 (tgt := 44) (by decide) ?_
      exact zr_ireturn hC hE dX9_mendRefusal_44 (hr _ _ (hQ))
    · have c2 : D 2 m ≠ 1 := fun q => c_15 (by rw [q])
      refine zr_aload_n hC dX9_mendRefusal_18 rfl ?_
      refine zr_iload_n hC dX9_mendRefusal_19 rfl ?_
      refine zs_callV hC (b := 245) [_] [] dX9_mendRefusal_20 ml_X9_157 mtX9_lacks tX9_lacks (by decide) (by decide) (by decide) rfl rfl (by decide) (by decide +kernel) (Nat.le_of_ble_eq_true rfl) rfl ?_
      refine ⟨m, D, rfl, hm, hM, hI, h0, ?_⟩
      dsimp only [Option.toList, List.cons_append, List.nil_append]
      refine zr_if_ne hC dX9_mendRefusal_23 (tgt := 31) (by decide) (fun c_23 => ?_) (fun c_23 => ?_)
      · have c3 : hall D m 4 (D 0 m / 2) ≠ true := fun q => c_23 (by rw [(lck_0 _ _).mpr q]; rfl)
        rw [show mrf D m = ful D from if_neg (fun q => q.elim h0 (fun q => q.elim c2 c3))] at hQ
        refine zr_aload_n hC dX9_mendRefusal_31 rfl ?_
        refine zs_callV hC (b := 245) [] [] dX9_mendRefusal_32 ml_X9_126 mtX9_isFull tX9_isFull (by decide) (by decide) (by decide) rfl rfl (by decide) (by decide +kernel) (Nat.le_of_ble_eq_true rfl) rfl ?_
        refine ⟨D, rfl, hM, fun r e => ?_⟩
        rcases e with ⟨rfl, hx⟩ | ⟨rfl, hx⟩
        · rw [show ful D = -3 from if_pos hx] at hQ
          dsimp only [Option.toList, List.cons_append, List.nil_append]
          refine zr_if_eq hC dX9_mendRefusal_35 (tgt := 43) (by decide) (fun c => absurd c (by decide +kernel)) (fun c_35 => ?_)
          refine zk_bipush hC dX9_mendRefusal_38 (v := (-3)) (by decide +kernel) ?_
          refine zr_goto hC dX9_mendRefusal_40 (tgt := 44) (by decide) ?_
          exact zr_ireturn hC hE dX9_mendRefusal_44 (hr _ _ (hQ))
        · rw [show ful D = nI 0 from if_neg hx] at hQ
          dsimp only [Option.toList, List.cons_append, List.nil_append]
          refine zr_if_eq hC dX9_mendRefusal_35 (tgt := 43) (by decide) (fun c_35 => ?_) (fun c => absurd c (by decide +kernel))
          refine zk_iconst hC dX9_mendRefusal_43 (v := nI 0) (by decide +kernel) ?_
          exact zr_ireturn hC hE dX9_mendRefusal_44 (hr _ _ (hQ))
      · have c3 : hall D m 4 (D 0 m / 2) = true := (lck_0 _ _).mp ((z_ne0 (Nat.lt_of_le_of_lt (lck_le _ _) (by decide))).mp c_23)
        rw [show mrf D m = -2 from if_pos (Or.inr (Or.inr c3))] at hQ
        refine zk_bipush hC dX9_mendRefusal_26 (v := (-2)) (by decide +kernel) ?_
        refine zr_goto hC dX9_mendRefusal_28 (tgt := 44) (by decide) ?_
        exact zr_ireturn hC hE dX9_mendRefusal_44 (hr _ _ (hQ))
  · rw [show mrf D m = -2 from if_pos (Or.inl h0)] at hQ
    dsimp only [Option.toList, List.cons_append, List.nil_append]
    refine zr_if_eq hC dX9_mendRefusal_5 (tgt := 26) (by decide) (fun c_5 => ?_) (fun c => absurd c (by decide +kernel))
    refine zk_bipush hC dX9_mendRefusal_26 (v := (-2)) (by decide +kernel) ?_
    refine zr_goto hC dX9_mendRefusal_28 (tgt := 44) (by decide) ?_
    exact zr_ireturn hC hE dX9_mendRefusal_44 (hr _ _ (hQ))
set_option maxHeartbeats 4000000 in
set_option maxRecDepth 100000 in
theorem l9_mends {C : zCx} {τ : Nat → ClassId} {ι : Nat → Nat} (hC : zOK C τ (zrm 4 0 0) yX9_mends.cls cX9_mends 4) {S0 : zS} {D : zD} {m w0 : Nat} (hm : m < 16) : ∀ (n u : Nat) (T : zD) (S : zS), u < 2 ^ n → u < 32 → MW (S.1 246) T → T 6 1 + n < 190 → ltE D T → (∀ v, (bnf n u v = true ∨ v = D 0 m) → 1 ≤ v ∧ v < 32 ∧ sm (D 0) v ≠ 0 ∧ key D v < D 6 0 ∧ D 7 (key D v) = v) → zfrm 246 247 S0 S → (∀ S' lv, MW (S'.1 246) (mnl m n u T) → zfrm 246 247 S0 S' → zsub lv [(0, .ref 245), (2, .int (nI w0))] → zR C τ ι 4 0 0 60 lv [] (zcells S')) → zR C τ ι 4 0 0 16 [(0, .ref 245), (1, .int (nI m)), (2, .int (nI w0)), (3, .int (nI u))] [] (zcells S) := by
  intro n
  induction n with
  | zero =>
    intro u T S hu hu2 hM h61 hE hp hF k
    have hu0 : u = 0 := by simpa using hu
    subst hu0
    refine zr_iload_n hC dX9_mends_16 rfl ?_
    refine zr_if_le hC dX9_mends_17 (tgt := 60) (by decide) (fun c_17 => ?_) (fun c => absurd c (not_not_intro (nI_le (b := 0) (Nat.le_refl 0) (by decide))))
    exact k S _ hM hF ⟨rfl, rfl, trivial⟩
  | succ n ih =>
    intro u T S hu hu2 hM h61 hE hp hF k
    refine zr_iload_n hC dX9_mends_16 rfl ?_
    refine zr_if_le hC dX9_mends_17 (tgt := 60) (by decide) (fun c_17 => ?_) (fun c_17 => ?_)
    · have hu0 : u = 0 := by rcases Nat.eq_zero_or_pos u with q | q; exact q; exact absurd c_17 (nI_nle q (by omega))
      subst hu0
      exact k S _ hM hF ⟨rfl, rfl, trivial⟩
    · have hu1 : u ≠ 0 := fun q => c_17 (by rw [q]; decide)
      obtain ⟨p1, p2, p3, p4, p5⟩ := hp u (Or.inl (by simp [bnf, hu1]))
      obtain ⟨q1, q2, q3, q4, q5⟩ := hp (D 0 m) (Or.inr rfl)
      have e0 : T 0 = D 0 := hE.1 0 (by decide) (by decide) (by decide) (by decide)
      have h60 := hM.made
      have hkT : key T u < T 6 0 := by rw [hE.key, hE.2.1 0 (by decide)]; exact p4
      have hlT : key T (T 0 m) < T 6 0 := by rw [hE.key, e0, hE.2.1 0 (by decide)]; exact q4
      have hs : mnl m (n + 1) u T = mnl m n (u / 2) (if hd T m (key T u) = true then T else ladd T (key T u) (key T (T 0 m)) 0) := if_neg hu1
      refine zr_aload_n hC dX9_mends_20 rfl ?_
      refine zr_iload_n hC dX9_mends_21 rfl ?_
      refine zr_aload_n hC dX9_mends_22 rfl ?_
      refine zr_iload_n hC dX9_mends_23 rfl ?_
      refine zs_callV hC (b := 245) [_] [_, _] dX9_mends_24 ml_X9_140 mtX9_keyOf tX9_keyOf (by decide) (by decide) (by decide) rfl rfl (by decide) (by decide +kernel) (Nat.le_of_ble_eq_true rfl) rfl ?_
      refine ⟨u, T, rfl, by omega, hM, ?_⟩
      rw [kofm_path (D := T) (by rw [e0]; exact p3) (by rw [hE.key, hE.2.1 0 (by decide)]; exact p4) (by rw [hE.key, hE.1 7 (by decide) (by decide) (by decide) (by decide)]; exact p5)]
      dsimp only [Option.toList, List.cons_append, List.nil_append]
      refine zs_callV hC (b := 245) [_, _] [] dX9_mends_27 ml_X9_117 mtX9_holds tX9_holds (by decide) (by decide) (by decide) rfl rfl (by decide) (by decide +kernel) (Nat.le_of_ble_eq_true rfl) rfl ?_
      refine ⟨m, _, T, rfl, hm, hkT, hM, fun r e => ?_⟩
      rcases e with ⟨rfl, hx⟩ | ⟨rfl, hxf⟩
      · dsimp only [Option.toList, List.cons_append, List.nil_append]
        refine zr_if_ne hC dX9_mends_30 (tgt := 53) (by decide) (fun c_30 => ?_) (fun c => absurd c (by decide +kernel))
        refine zr_iload_n hC dX9_mends_53 rfl ?_
        refine zk_iconst hC dX9_mends_54 (v := nI 2) (by decide +kernel) ?_
        refine zn_idiv hC dX9_mends_55 (by decide +kernel) (z_half (by omega)) ?_
        refine zr_istore_n hC dX9_mends_56 (by decide) ?_
        refine zr_goto hC dX9_mends_57 (tgt := 16) (by decide) ?_
        first
          | exact zR_sub [(0, .ref 245), (1, .int (nI m)), (2, .int (nI w0)), (3, .int (nI (u / 2)))] ⟨rfl, rfl, rfl, rfl, trivial⟩ (ih (u / 2) T _ (by rw [Nat.pow_succ] at hu; omega) (by omega) hM (by omega) hE (fun v hv => hp v (hv.imp (fun q => by simp [bnf, q, hu1]) id)) hF (fun S2 lv h1 h2 h3 => k S2 lv (by rw [hs, if_pos hx]; exact h1) h2 h3))
          | exact zR_sub [(0, .ref 245), (1, .int (nI m)), (2, .int (nI w0)), (3, .int (nI (u / 2)))] ⟨rfl, rfl, rfl, rfl, trivial⟩ (ih (u / 2) _ _ (by rw [Nat.pow_succ] at hu; omega) (by omega) g1 (by rw [ladd_61]; omega) (hE.add _ _ _) (fun v hv => hp v (hv.imp (fun q => by simp [bnf, q, hu1]) id)) (hF.tr g2) (fun S2 lv h1 h2 h3 => k S2 lv (by rw [hs, if_neg hxn]; exact h1) h2 h3))
      · have hxn : ¬ hd T m (key T u) = true := by rw [hxf]; decide
        dsimp only [Option.toList, List.cons_append, List.nil_append]
        refine zr_if_ne hC dX9_mends_30 (tgt := 53) (by decide) (fun c => absurd c (by decide +kernel)) (fun c_30 => ?_)
        refine zr_aload_n hC dX9_mends_33 rfl ?_
        refine zr_aload_n hC dX9_mends_34 rfl ?_
        refine zr_iload_n hC dX9_mends_35 rfl ?_
        refine zs_callV hC (b := 245) [_] [_] dX9_mends_36 ml_X9_140 mtX9_keyOf tX9_keyOf (by decide) (by decide) (by decide) rfl rfl (by decide) (by decide +kernel) (Nat.le_of_ble_eq_true rfl) rfl ?_
        refine ⟨u, T, rfl, by omega, hM, ?_⟩
        rw [kofm_path (D := T) (by rw [e0]; exact p3) (by rw [hE.key, hE.2.1 0 (by decide)]; exact p4) (by rw [hE.key, hE.1 7 (by decide) (by decide) (by decide) (by decide)]; exact p5)]
        dsimp only [Option.toList, List.cons_append, List.nil_append]
        refine zr_aload_n hC dX9_mends_39 rfl ?_
        refine zr_aload_n hC dX9_mends_40 rfl ?_
        refine zr_iload_n hC dX9_mends_41 rfl ?_
        refine zk_iconst hC dX9_mends_42 (v := nI 0) (by decide +kernel) ?_
        refine zs_callV hC (b := 245) [_, _] [_, _, _] dX9_mends_43 ml_X9_64 mtX9_of tX9_of (by decide) (by decide) (by decide) rfl rfl (by decide) (by decide +kernel) (Nat.le_of_ble_eq_true rfl) rfl ?_
        refine ⟨m, 0, rfl, hm, by decide, ?_⟩
        rw [show S.1 246 (4 + 6 * m + 0) = nI (T 0 m) from hM.mem hm (by decide)]
        dsimp only [Option.toList, List.cons_append, List.nil_append]
        refine zs_callV hC (b := 245) [_] [_, _] dX9_mends_46 ml_X9_140 mtX9_keyOf tX9_keyOf (by decide) (by decide) (by decide) rfl rfl (by decide) (by decide +kernel) (Nat.le_of_ble_eq_true rfl) rfl ?_
        refine ⟨T 0 m, T, rfl, by rw [e0]; omega, hM, ?_⟩
        rw [show kofm T (T 0 m) = nI (key T (T 0 m)) by rw [e0]; exact kofm_path (D := T) (by rw [e0]; exact q3) (by rw [hE.key, hE.2.1 0 (by decide)]; exact q4) (by rw [hE.key, hE.1 7 (by decide) (by decide) (by decide) (by decide)]; exact q5)]
        dsimp only [Option.toList, List.cons_append, List.nil_append]
        refine zk_iconst hC dX9_mends_49 (v := (-1)) (by decide +kernel) ?_
        refine zs_callV hC (b := 245) [_, _, _] [] dX9_mends_50 ml_X9_143 mtX9_writes tX9_writes (by decide) (by decide) (by decide) rfl rfl (by decide) (by decide +kernel) (Nat.le_of_ble_eq_true rfl) rfl ?_
        refine ⟨key T u, key T (T 0 m), 0, _, T, rfl, by omega, by omega, by decide, by decide +kernel, hM, by omega, fun S1 g1 g2 => ?_⟩
        dsimp only [Option.toList, List.nil_append]
        refine zr_iload_n hC dX9_mends_53 rfl ?_
        refine zk_iconst hC dX9_mends_54 (v := nI 2) (by decide +kernel) ?_
        refine zn_idiv hC dX9_mends_55 (by decide +kernel) (z_half (by omega)) ?_
        refine zr_istore_n hC dX9_mends_56 (by decide) ?_
        refine zr_goto hC dX9_mends_57 (tgt := 16) (by decide) ?_
        first
          | exact zR_sub [(0, .ref 245), (1, .int (nI m)), (2, .int (nI w0)), (3, .int (nI (u / 2)))] ⟨rfl, rfl, rfl, rfl, trivial⟩ (ih (u / 2) T _ (by rw [Nat.pow_succ] at hu; omega) (by omega) hM (by omega) hE (fun v hv => hp v (hv.imp (fun q => by simp [bnf, q, hu1]) id)) hF (fun S2 lv h1 h2 h3 => k S2 lv (by rw [hs, if_pos hx]; exact h1) h2 h3))
          | exact zR_sub [(0, .ref 245), (1, .int (nI m)), (2, .int (nI w0)), (3, .int (nI (u / 2)))] ⟨rfl, rfl, rfl, rfl, trivial⟩ (ih (u / 2) _ _ (by rw [Nat.pow_succ] at hu; omega) (by omega) g1 (by rw [ladd_61]; omega) (hE.add _ _ _) (fun v hv => hp v (hv.imp (fun q => by simp [bnf, q, hu1]) id)) (hF.tr g2) (fun S2 lv h1 h2 h3 => k S2 lv (by rw [hs, if_neg hxn]; exact h1) h2 h3))
def spX9_mends : zSp := fun av S Q => ∃ (m : Nat) (D : zD), av = [.ref 245, .int (nI m)] ∧ m < 16 ∧ MW (S.1 246) D ∧ INV D ∧ mrf D m = nI 0 ∧ ∀ S', MW (S'.1 246) (mnd m D) → zfrm 246 247 S S' → Q (some (.int (nI (mnd m D 6 1 - D 6 1)))) S'
set_option maxHeartbeats 4000000 in
set_option maxRecDepth 100000 in
theorem tX9_mends : zM yX9_mends cX9_mends 4 (some .int) 4 spX9_mends := by
  refine zM.of (by decide) (by decide) (fun av S Q h => by obtain ⟨m, D, rfl, hm, hM, hI, hmr, hQ⟩ := h; exact Nat.le_of_ble_eq_true rfl) (fun C τ ι av S Q Qr h hr hC hE => ?_)
  obtain ⟨m, D, rfl, hm, hM, hI, hmr, hQ⟩ := h
  show zR C τ ι _ 0 0 0 [(0, .ref 245), (1, .int (nI m))] [] _
  refine zr_aload_n hC dX9_mends_0 rfl ?_
  refine zs_getr hC dX9_mends_1 fl_X9_7 (a := 245) (r := 246) rfl (by decide) ?_
  refine zk_iconst hC dX9_mends_4 (v := nI 1) (by decide +kernel) ?_
  refine zv_iald hC dX9_mends_5 (a := 246) (n := 752) rfl (by decide) (by decide) (j := 1) rfl (by decide) (hM.1.1.2.1) ?_
  refine zr_istore_n hC dX9_mends_6 (by decide) ?_
  refine zr_aload_n hC dX9_mends_7 rfl ?_
  refine zr_iload_n hC dX9_mends_8 rfl ?_
  refine zk_iconst hC dX9_mends_9 (v := nI 0) (by decide +kernel) ?_
  refine zs_callV hC (b := 245) [_, _] [] dX9_mends_10 ml_X9_64 mtX9_of tX9_of (by decide) (by decide) (by decide) rfl rfl (by decide) (by decide +kernel) (Nat.le_of_ble_eq_true rfl) rfl ?_
  refine ⟨m, 0, rfl, hm, by decide, ?_⟩
  rw [show S.1 246 (4 + 6 * m + 0) = nI (D 0 m) from hM.mem hm (by decide)]
  dsimp only [Option.toList, List.cons_append, List.nil_append]
  refine zk_iconst hC dX9_mends_13 (v := nI 2) (by decide +kernel) ?_
  refine zn_idiv hC dX9_mends_14 (by decide +kernel) (z_half (by have := hI.ok.lt hm; omega)) ?_
  refine zr_istore_n hC dX9_mends_15 (by decide) ?_
  have hlt := hI.ok.lt hm
  obtain ⟨h0, -, -, -, h61⟩ := mrf_0 hmr
  have hl : 16 ≤ D 0 m := by rcases hI.leaf hm with z | z <;> omega
  have hbs := bn_self (u := D 0 m) (by omega)
  have hle : D 6 1 ≤ mnd m D 6 1 := by
    unfold mnd
    rw [rda_f (by decide) (by decide)]
    exact (hI.mnl hm hmr).2.1.2.2.1
  refine zR_sub [(0, .ref 245), (1, .int (nI m)), (2, .int (nI (D 6 1))), (3, .int (nI (D 0 m / 2)))] ⟨rfl, rfl, rfl, rfl, trivial⟩ (l9_mends (S0 := S) (D := D) hC hm 4 (D 0 m / 2) D S (by omega) (by omega) hM (by omega) ltE.rf (fun v hv => ?_) zfrm.rf (fun S1 lv h1 h2 h3 => ?_))
  · rcases hv with hv | rfl
    · obtain ⟨a, b, c, d⟩ := inv_path hI hm h0 v hv
      exact ⟨a, b, c, d, (hI.live a b c).2⟩
    · have hs2 : sm (D 0) (D 0 m) ≠ 0 := sm_ne.mpr ⟨m, hm, hbs⟩
      exact ⟨by omega, hlt, hs2, hI.key hm hbs, (hI.live (by omega) hlt hs2).2⟩
  · refine zR_sub [(0, .ref 245), (2, .int (nI (D 6 1)))] h3 ?_
    refine zr_aload_n hC dX9_mends_60 rfl ?_
    refine zs_callV hC (b := 245) [] [] dX9_mends_61 ml_X9_146 mtX9_readAll tX9_readAll (by decide) (by decide) (by decide) rfl rfl (by decide) (by decide +kernel) (Nat.le_of_ble_eq_true rfl) rfl ?_
    refine ⟨_, rfl, h1, (hI.mnl hm hmr).1.rd, fun S2 g1 g2 => ?_⟩
    dsimp only [Option.toList, List.nil_append]
    refine zr_aload_n hC dX9_mends_64 rfl ?_
    refine zs_getr hC dX9_mends_65 fl_X9_7 (a := 245) (r := 246) rfl (by decide) ?_
    refine zk_iconst hC dX9_mends_68 (v := nI 1) (by decide +kernel) ?_
    refine zv_iald hC dX9_mends_69 (a := 246) (n := 752) rfl (by decide) (by decide) (j := 1) rfl (by decide) (g1.1.1.2.1) ?_
    refine zr_iload_n hC dX9_mends_70 rfl ?_
    refine zn_isub hC dX9_mends_71 (pk_sub hle) ?_
    exact zr_ireturn hC hE dX9_mends_72 (hr _ _ (hQ _ g1 (h2.tr g2)))
