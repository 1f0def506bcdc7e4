/-! THE MODEL: a text read -/
def zfe (S S' : zS) : Prop := (∀ a, (a < 245 ∨ 250 ≤ a) → S'.1 a = S.1 a) ∧ (∀ k, k ≠ 7 → k ≠ 8 → S'.1 245 k = S.1 245 k) ∧ S'.2 = S.2
theorem zfe.rf {S : zS} : zfe S S := ⟨fun _ _ => rfl, fun _ _ _ => rfl, rfl⟩
theorem zfe.tr {S S' S'' : zS} (h : zfe S S') (h' : zfe S' S'') : zfe S S'' := ⟨fun a ha => (h'.1 a ha).trans (h.1 a ha), fun k h1 h2 => (h'.2.1 k h1 h2).trans (h.2.1 k h1 h2), h'.2.2.trans h.2.2⟩
theorem zfe.put {S : zS} {k : Nat} {x : Int32} (h : k = 7 ∨ k = 8) : zfe S (zput S 245 k x) := ⟨fun a ha => zput_ne _ _ (by omega), fun j h1 h2 => zput_k _ _ (by omega), rfl⟩
theorem zfrm.e {S S' : zS} (h : zfrm 246 250 S S') : zfe S S' := ⟨fun a ha => h.1 a (by omega), fun k _ _ => by rw [h.1 245 (by decide)], h.2⟩
theorem zfe.m {S S' : zS} (h : zfe S S') : zfm S S' := fun a ha => ⟨h.1 a (Or.inl ha), by rw [h.2.2]⟩
theorem MT.fe {S S' : zS} {t : (Nat → Nat) × Nat} (h : MT S t) (e : zfe S S') : MT S' t := h.fr (e.2.1 6 (by decide) (by decide)) (e.1 251 (by decide))
theorem MG.fe {S S' : zS} {G : zG} (h : MG S G) {D : zD} (hM : MW (S'.1 246) D) (e : zfe S S') : MG S' (gset G D) := h.fr hM (fun k hk => e.2.1 k (by omega) (by omega)) (fun a q1 q2 => e.1 a (by omega)) (by rw [e.2.2])
def zfz (S S' : zS) : Prop := (∀ a, a ≠ 245 → S'.1 a = S.1 a) ∧ (∀ k, k ≠ 7 → k ≠ 8 → S'.1 245 k = S.1 245 k) ∧ S'.2 = S.2
theorem zfz.rf {S : zS} : zfz S S := ⟨fun _ _ => rfl, fun _ _ _ => rfl, rfl⟩
theorem zfz.tr {S S' S'' : zS} (h : zfz S S') (h' : zfz S' S'') : zfz S S'' := ⟨fun a ha => (h'.1 a ha).trans (h.1 a ha), fun k h1 h2 => (h'.2.1 k h1 h2).trans (h.2.1 k h1 h2), h'.2.2.trans h.2.2⟩
theorem zfz.put {S : zS} {k : Nat} {x : Int32} (h : k = 7 ∨ k = 8) : zfz S (zput S 245 k x) := ⟨fun a ha => zput_ne _ _ ha, fun j h1 h2 => zput_k _ _ (by omega), rfl⟩
theorem zfz.e {S S' : zS} (h : zfz S S') : zfe S S' := ⟨fun a ha => h.1 a (by omega), h.2.1, h.2.2⟩
theorem flt_sk {tp : Nat → Nat} {tn : Nat} {aw : Bool × Bool} : ∀ d, flt tp tn d aw = flt tp tn (sk tp tn d) aw
  | 0 => rfl
  | d + 1 => by
    by_cases q : tp (tn - (d + 1)) = 32
    · rw [show sk tp tn (d + 1) = sk tp tn d from if_pos q, ← flt_sk d, flt, q]
      rfl
    · rw [show sk tp tn (d + 1) = d + 1 from if_neg q]
theorem evd_sk {tp : Nat → Nat} {tn n : Nat} {D : zD} {cm : Bool} : ∀ d, evd tp tn d D n cm = evd tp tn (sk tp tn d) D n cm
  | 0 => rfl
  | d + 1 => by
    by_cases q : tp (tn - (d + 1)) = 32
    · rw [show sk tp tn (d + 1) = sk tp tn d from if_pos q, ← evd_sk d, evd, if_neg (by omega), if_pos q]
    · rw [show sk tp tn (d + 1) = d + 1 from if_neg q]
theorem evn_sk {tp : Nat → Nat} {tn d : Nat} : evn tp tn (sk tp tn d) = evn tp tn d := by
  unfold evn; rw [sk_sk]
theorem hcN_s {tp : Nat → Nat} {tn d : Nat} : hcN tp tn (d + 1) = tp (tn - (d + 1)) := if_neg (Nat.succ_ne_zero d)
theorem ev12_33 {cm : Bool} {D : zD} : ev1 33 cm D = ev2 32 D := rfl
theorem fig_ne {c f : Nat} (h : fig c = some f) : f < 16 ∧ c ≠ 33 ∧ c ≠ 43 ∧ c ≠ 45 ∧ c ≠ 32 := by
  unfold fig at h
  split at h
  · cases h; omega
  · split at h
    · cases h; omega
    · cases h
theorem ev12_c {c f : Nat} {D : zD} (h : fig c = some f) : ev1 c true D = ev2 f D := by
  obtain ⟨h1, h2, -⟩ := fig_ne h
  unfold ev1
  rw [if_neg h2, h, ev2_c D h1]
  rfl
theorem ev12_l {c f : Nat} {D : zD} (h : fig c = some f) : ev1 c false D = ev2 (16 + f) D := by
  obtain ⟨h1, h2, -⟩ := fig_ne h
  unfold ev1
  rw [if_neg h2, h, ev2_l D h1]
  rfl
theorem evd_tk {tp : Nat → Nat} {tn n d e : Nat} {D : zD} {cm : Bool} (h1 : tp (tn - (d + 1)) ≠ 43) (h2 : tp (tn - (d + 1)) ≠ 45) (h3 : tp (tn - (d + 1)) ≠ 32) (h : ev1 (tp (tn - (d + 1))) cm D = ev2 e D) : (ev2 e D = none → evd tp tn (d + 1) D n cm = (D, n)) ∧ ∀ D', ev2 e D = some D' → ∃ cm', evd tp tn (d + 1) D n cm = evd tp tn d D' (n + 1) cm' := by
  have hu : evd tp tn (d + 1) D n cm = match ev2 e D with
    | some D' => evd tp tn d D' (n + 1) cm
    | none => (D, n) := by
    rw [evd, if_neg (by omega), if_neg h3, h]
    cases ev2 e D <;> rfl
  refine ⟨fun q => ?_, fun D' q => ⟨cm, ?_⟩⟩
  · rw [hu, q]
  · rw [hu, q]
theorem evn_flt {tp : Nat → Nat} {tn d : Nat} {a : Bool} (hd : d ≤ tn) (h : a = false ∨ sk tp tn d ≠ 0) :
    (∀ f, evn tp tn d = (none, f) → flt tp tn d (a, false) = some (tn - f) ∧ f ≤ tn ∧ (f ≠ 0 → tp (tn - f) ≠ 32)) ∧
    (∀ c f, evn tp tn d = (some c, f) → flt tp tn d (a, false) = flt tp tn f (true, false) ∧ f < d ∧ c ≤ 32 ∧ ∀ (D : zD) n cm, (ev2 c D = none → evd tp tn d D n cm = (D, n)) ∧ ∀ D', ev2 c D = some D' → ∃ cm', evd tp tn d D n cm = evd tp tn f D' (n + 1) cm') := by
  have hle := sk_le (tp := tp) (tn := tn) d
  have hne := sk_ne (tp := tp) (tn := tn) d
  rw [flt_sk d]
  simp only [evd_sk d]
  unfold evn
  generalize sk tp tn d = e at *
  cases e with
  | zero =>
    rw [hcN_0, if_neg (by decide), if_neg (by decide)]
    refine ⟨fun f q => ?_, fun c f q => by cases q⟩
    obtain rfl : 0 = f := (Prod.mk.inj q).2
    have ha : a = false := h.resolve_right (fun q => q rfl)
    refine ⟨?_, Nat.zero_le _, fun q => absurd rfl q⟩
    rw [ha]; rfl
  | succ g =>
    have h32 := hne (Nat.succ_ne_zero g)
    rw [hcN_s, Nat.add_sub_cancel]
    have hfl : ∀ aw, fst1 (tp (tn - (g + 1))) (a, false) = some aw → flt tp tn (g + 1) (a, false) = flt tp tn g aw := fun aw q => by rw [flt, q]
    have hfn : fst1 (tp (tn - (g + 1))) (a, false) = none → flt tp tn (g + 1) (a, false) = some (tn - (g + 1)) := fun q => by rw [flt, q]
    by_cases h33 : tp (tn - (g + 1)) = 33
    · rw [if_pos h33]
      refine ⟨fun f q => (by cases q), fun c f q => ?_⟩
      obtain ⟨q1, q2⟩ := Prod.mk.inj q
      obtain rfl := Option.some.inj q1
      subst q2
      refine ⟨hfl _ (by rw [h33]; rfl), by omega, Nat.le_refl _, fun D n cm => evd_tk (by omega) (by omega) (by omega) (by rw [h33]; rfl)⟩
    · rw [if_neg h33]
      by_cases hs : tp (tn - (g + 1)) = 43 ∨ tp (tn - (g + 1)) = 45
      · rw [if_pos hs]
        have e1 : flt tp tn (g + 1) (a, false) = flt tp tn g (a, true) := hfl _ (by
          rcases hs with q | q <;> rw [q] <;> rfl)
        have e2 : ∀ (D : zD) n cm, evd tp tn (g + 1) D n cm = evd tp tn g D n (tp (tn - (g + 1)) == 43) := fun D n cm => by rw [evd, if_pos hs]
        have hle2 := sk_le (tp := tp) (tn := tn) g
        have hne2 := sk_ne (tp := tp) (tn := tn) g
        rw [e1, flt_sk g]
        simp only [e2, evd_sk g]
        generalize sk tp tn g = e at *
        cases e with
        | zero =>
          refine ⟨fun f q => ?_, fun c f q => by cases q⟩
          obtain rfl : 0 = f := (Prod.mk.inj q).2
          exact ⟨rfl, Nat.zero_le _, fun q => absurd rfl q⟩
        | succ t =>
          have h32b := hne2 (Nat.succ_ne_zero t)
          rw [hcN_s, Nat.add_sub_cancel]
          cases hf : fig (tp (tn - (t + 1))) with
          | none =>
            refine ⟨fun f q => ?_, fun c f q => by cases q⟩
            obtain rfl : t + 1 = f := (Prod.mk.inj q).2
            refine ⟨?_, by omega, fun _ => h32b⟩
            rw [flt, fst1, if_neg h32b, if_pos rfl, hf]
            rfl
          | some m =>
            obtain ⟨f1, f2, f3, f4, f5⟩ := fig_ne hf
            refine ⟨fun f q => (by cases q), fun c f q => ?_⟩
            obtain ⟨q1, q2⟩ := Prod.mk.inj q
            obtain q1 := Option.some.inj q1
            subst q2
            refine ⟨?_, by omega, ?_, fun D n cm => ?_⟩
            · rw [flt, fst1, if_neg h32b, if_pos rfl, hf]
              rfl
            · rw [← q1]; split <;> omega
            · by_cases h43 : tp (tn - (g + 1)) = 43
              · rw [if_pos h43] at q1
                rw [h43]
                exact evd_tk f3 f4 f5 (by rw [← q1]; exact ev12_c hf)
              · rw [if_neg h43] at q1
                rw [beq_eq_false_iff_ne.mpr h43]
                exact evd_tk f3 f4 f5 (by rw [← q1]; exact ev12_l hf)
      · rw [if_neg hs]
        refine ⟨fun f q => ?_, fun c f q => by cases q⟩
        obtain rfl : g + 1 = f := (Prod.mk.inj q).2
        refine ⟨hfn ?_, by omega, fun _ => h32⟩
        rw [fst1, if_neg h32]
        show (if false = true then _ else if tp (tn - (g + 1)) = 43 ∨ tp (tn - (g + 1)) = 45 then _ else if tp (tn - (g + 1)) = 33 then _ else _) = none
        rw [if_neg (by decide), if_neg hs, if_neg h33]
theorem ev2_inv {e : Nat} {D D' : zD} (h : INV D) (he : ev2 e D = some D') : INV D' := by
  unfold ev2 at he
  split at he
  · split at he
    next hb => rw [← Option.some.inj he]; exact h.btc hb
    next => cases he
  · split at he
    · split at he
      next hb => rw [← Option.some.inj he]; exact h.come hb.1
      next => cases he
    · split at he
      next hb => rw [← Option.some.inj he]; exact h.leave hb.1
      next => cases he
theorem hcN_z {tp : Nat → Nat} {tn d : Nat} (hL : ∀ i, i < tn → 32 ≤ tp i ∧ tp i ≤ 126) (h : d ≤ tn) (h0 : nI (hcN tp tn d) = 0) : d = 0 := by
  rw [z_ne0 (hcN_lt hL h)] at h0
  unfold hcN at h0
  split at h0
  next q => exact q
  next q => have := hL (tn - d) (by omega); omega
set_option maxHeartbeats 400000 in
set_option maxRecDepth 100000 in
theorem l9_goA {C : zCx} {τ : Nat → ClassId} {ι : Nat → Nat} (hC : zOK C τ (zrm 6 0 0) yX9_goesThrough.cls cX9_goesThrough 6) {S0 : zS} {tp : Nat → Nat} {tn : Nat} {r : Option Nat} (hT0 : MT S0 (tp, tn)) (hL : ∀ i, i < tn → 32 ≤ tp i ∧ tp i ≤ 126) (k : ∀ S' lv (w : Bool), zlk 3 lv = some (.int (zb w)) → zfz S0 S' → ∀ d', S'.1 245 7 = nI (tn - d') → d' ≤ tn → (w = true → r = none) → (w = false → r = some (tn - d') ∧ (d' ≠ 0 → tp (tn - d') ≠ 32)) → zR C τ ι 6 0 0 99 lv [] (zcells S')) : ∀ (n d s : Nat) (S : zS), d < n → d ≤ tn → s + d ≤ tn → zfz S0 S → S.1 245 7 = nI (tn - d) → flt tp tn d (decide (s ≠ 0), false) = r → zR C τ ι 6 0 0 17 [(0, .ref 245), (1, .int (nI 0)), (2, .int (nI s)), (3, .int (nI 1)), (4, .int (nI 1))] [] (zcells S) := by
  intro n
  induction n with
  | zero =>
    intro d s S hdn
    exact absurd hdn (Nat.not_lt_zero _)
  | succ n ih =>
    intro d s S hdn hdt hsd0 hF h7 hfl
    have hT := hT0.fe hF.e
    have htn := hT.2.1
    dsimp only at htn
    have key : ∀ e S1, e ≤ d → zfz S0 S1 → S1.1 245 7 = nI (tn - e) → flt tp tn e (decide (s ≠ 0), false) = r → (s = 0 ∨ sk tp tn e ≠ 0) → zR C τ ι 6 0 0 37 [(0, .ref 245), (1, .int (nI 0)), (2, .int (nI s)), (3, .int (nI 1)), (4, .int (nI 1))] [] (zcells S1) := by
      intro e S1 hed hF1 he7 hfl hnz
      have hT1 := hT0.fe hF1.e
      refine zr_aload_n hC dX9_goesThrough_37 rfl ?_
      refine zs_callV hC (b := 245) [] [] dX9_goesThrough_38 ml_X9_224 mtX9_event tX9_event (by decide) (by decide) (by decide) rfl rfl (by decide) (by decide +kernel) (Nat.le_of_ble_eq_true rfl) rfl ?_
      refine ⟨tp, tn, e, rfl, hT1, hL, he7, by omega, ?_⟩
      obtain ⟨p1, p2⟩ := evn_flt (tp := tp) (a := decide (s ≠ 0)) (show e ≤ tn by omega) (hnz.imp (fun q => by rw [q]; rfl) id)
      dsimp only [Option.toList, List.cons_append, List.nil_append]
      rcases hev : evn tp tn e with ⟨_ | c, f⟩
      · obtain ⟨q1, q2, q3⟩ := p1 f hev
        refine zr_istore hC dX9_goesThrough_41 (by decide) ?_
        refine zr_iload hC dX9_goesThrough_43 rfl ?_
        refine zr_if_lt hC dX9_goesThrough_45 (tgt := 52) (by decide) (fun c_45 => ?_) (fun c => absurd c (not_not_intro (show (-1 : Int32) < 0 by decide)))
        refine zk_iconst hC dX9_goesThrough_52 (v := nI 0) (by decide +kernel) ?_
        refine zr_istore_n hC dX9_goesThrough_53 (by decide) ?_
        refine zr_iload_n hC dX9_goesThrough_54 rfl ?_
        refine zr_if_eq hC dX9_goesThrough_55 (tgt := 67) (by decide) (fun c_55 => ?_) (fun c => absurd c (by decide +kernel))
        refine zk_iconst hC dX9_goesThrough_67 (v := nI 1) (by decide +kernel) ?_
        refine zr_goto hC dX9_goesThrough_68 (tgt := 72) (by decide) ?_
        refine zr_istore hC dX9_goesThrough_72 (by decide) ?_
        refine zr_aload_n hC dX9_goesThrough_74 rfl ?_
        refine zr_dup hC dX9_goesThrough_75 rfl ?_
        refine zs_geti hC dX9_goesThrough_76 fl_X9_221 (a := 245) rfl (by decide) ?_
        refine zr_iload hC dX9_goesThrough_79 rfl ?_
        refine zr_if_eq hC dX9_goesThrough_81 (tgt := 88) (by decide) (fun c => absurd c (by decide +kernel)) (fun c_81 => ?_)
        refine zk_iconst hC dX9_goesThrough_84 (v := nI 1) (by decide +kernel) ?_
        refine zr_goto hC dX9_goesThrough_85 (tgt := 89) (by decide) ?_
        refine zr_iadd hC dX9_goesThrough_89 ?_
        refine zs_puti hC dX9_goesThrough_90 fl_X9_221 fp_X9_8 (a := 245) rfl (by decide) ?_
        refine zn_iinc hC dX9_goesThrough_93 rfl (by decide) (zk_inc _ 1) ?_
        refine zr_goto hC dX9_goesThrough_96 (tgt := 17) (by decide) ?_
        refine zr_iload_n hC dX9_goesThrough_17 rfl ?_
        refine zr_if_eq hC dX9_goesThrough_18 (tgt := 99) (by decide) (fun c_18 => ?_) (fun c => absurd c (by decide +kernel))
        exact k _ _ false rfl ((hF1.tr (zfz.put (Or.inl rfl))).tr (zfz.put (Or.inr rfl))) f ((zput_k _ _ (by decide)).trans (zput_at _ _ _ _)) q2 (fun q => by cases q) (fun _ => ⟨hfl.symm.trans q1, q3⟩)
      · obtain ⟨q1, q2, q3, q4⟩ := p2 c f hev
        refine zr_istore hC dX9_goesThrough_41 (by decide) ?_
        refine zr_iload hC dX9_goesThrough_43 rfl ?_
        refine zr_if_lt hC dX9_goesThrough_45 (tgt := 52) (by decide) (fun c => absurd c (nI_pos (by omega))) (fun c_45 => ?_)
        refine zk_iconst hC dX9_goesThrough_48 (v := nI 1) (by decide +kernel) ?_
        refine zr_goto hC dX9_goesThrough_49 (tgt := 53) (by decide) ?_
        refine zr_istore_n hC dX9_goesThrough_53 (by decide) ?_
        refine zr_iload_n hC dX9_goesThrough_54 rfl ?_
        refine zr_if_eq hC dX9_goesThrough_55 (tgt := 67) (by decide) (fun c_55 => ?_) (fun c => absurd c (by decide +kernel))
        refine zk_iconst hC dX9_goesThrough_67 (v := nI 1) (by decide +kernel) ?_
        refine zr_goto hC dX9_goesThrough_68 (tgt := 72) (by decide) ?_
        refine zr_istore hC dX9_goesThrough_72 (by decide) ?_
        refine zr_aload_n hC dX9_goesThrough_74 rfl ?_
        refine zr_dup hC dX9_goesThrough_75 rfl ?_
        refine zs_geti hC dX9_goesThrough_76 fl_X9_221 (a := 245) rfl (by decide) ?_
        refine zr_iload hC dX9_goesThrough_79 rfl ?_
        refine zr_if_eq hC dX9_goesThrough_81 (tgt := 88) (by decide) (fun c => absurd c (by decide +kernel)) (fun c_81 => ?_)
        refine zk_iconst hC dX9_goesThrough_84 (v := nI 1) (by decide +kernel) ?_
        refine zr_goto hC dX9_goesThrough_85 (tgt := 89) (by decide) ?_
        refine zr_iadd hC dX9_goesThrough_89 ?_
        refine zs_puti hC dX9_goesThrough_90 fl_X9_221 fp_X9_8 (a := 245) rfl (by decide) ?_
        refine zn_iinc hC dX9_goesThrough_93 rfl (by decide) (zk_inc _ 1) ?_
        refine zr_goto hC dX9_goesThrough_96 (tgt := 17) (by decide) ?_
        exact zR_sub [(0, .ref 245), (1, .int (nI 0)), (2, .int (nI (s + 1))), (3, .int (nI 1)), (4, .int (nI 1))] ⟨rfl, rfl, rfl, rfl, rfl, trivial⟩ (ih f (s + 1) _ (by omega) (by omega) (by omega) ((hF1.tr (zfz.put (Or.inl rfl))).tr (zfz.put (Or.inr rfl))) ((zput_k _ _ (by decide)).trans (zput_at _ _ _ _)) (by rw [show decide (s + 1 ≠ 0) = true from rfl, ← q1]; exact hfl))
    refine zr_iload_n hC dX9_goesThrough_17 rfl ?_
    refine zr_if_eq hC dX9_goesThrough_18 (tgt := 99) (by decide) (fun c => absurd c (by decide +kernel)) (fun c_18 => ?_)
    refine zr_iload hC dX9_goesThrough_21 rfl ?_
    refine zr_if_eq hC dX9_goesThrough_23 (tgt := 99) (by decide) (fun c => absurd c (by decide +kernel)) (fun c_23 => ?_)
    refine zr_iload_n hC dX9_goesThrough_26 rfl ?_
    refine zr_if_eq hC dX9_goesThrough_27 (tgt := 37) (by decide) (fun c_27 => ?_) (fun c_27 => ?_)
    · have hs0 : s = 0 := (z_ne0 (by omega)).mp c_27
      exact key d S (Nat.le_refl d) hF h7 hfl (Or.inl hs0)
    · have hs0 : s ≠ 0 := fun q => c_27 (by rw [q]; rfl)
      have hsd : decide (s ≠ 0) = true := decide_eq_true hs0
      refine zr_aload_n hC dX9_goesThrough_30 rfl ?_
      refine zs_callV hC (b := 245) [] [] dX9_goesThrough_31 ml_X9_210 mtX9_here tX9_here (by decide) (by decide) (by decide) rfl rfl (by decide) (by decide +kernel) (Nat.le_of_ble_eq_true rfl) rfl ?_
      refine ⟨tp, tn, d, rfl, hT, hL, h7, by omega, ?_⟩
      have hle := sk_le (tp := tp) (tn := tn) d
      dsimp only [Option.toList, List.cons_append, List.nil_append]
      refine zr_if_eq hC dX9_goesThrough_34 (tgt := 99) (by decide) (fun c_34 => ?_) (fun c_34 => ?_)
      · have hz := hcN_z hL (by omega) c_34
        exact k _ _ true rfl (hF.tr (zfz.put (Or.inl rfl))) (sk tp tn d) (zput_at _ _ _ _) (by omega) (fun _ => by rw [← hfl, flt_sk d, hz, hsd]; rfl) (fun q => by cases q)
      · refine key (sk tp tn d) _ hle (hF.tr (zfz.put (Or.inl rfl))) (zput_at _ _ _ _) ((flt_sk d).symm.trans hfl) (Or.inr (fun q => c_34 (by rw [sk_sk] at q; rw [q]; rfl)))
set_option maxHeartbeats 400000 in
set_option maxRecDepth 100000 in
theorem l9_goB {C : zCx} {τ : Nat → ClassId} {ι : Nat → Nat} (hC : zOK C τ (zrm 6 0 0) yX9_goesThrough.cls cX9_goesThrough 6) {S0 : zS} {tp : Nat → Nat} {tn : Nat} {R : zD × Nat} (hT0 : MT S0 (tp, tn)) (hL : ∀ i, i < tn → 32 ≤ tp i ∧ tp i ≤ 126) (k : ∀ S' lv, zlk 3 lv = some (.int (nI 1)) → zfe S0 S' → MW (S'.1 246) R.1 → INV R.1 → S'.1 245 8 = nI R.2 → zR C τ ι 6 0 0 99 lv [] (zcells S')) : ∀ (n d s : Nat) (S : zS) (T : zD) (n0 : Nat) (cm : Bool), d < n → d ≤ tn → s + d ≤ tn → zfe S0 S → S.1 245 7 = nI (tn - d) → flt tp tn d (decide (s ≠ 0), false) = none → MW (S.1 246) T → INV T → S.1 245 8 = nI n0 → evd tp tn d T n0 cm = R → zR C τ ι 6 0 0 17 [(0, .ref 245), (1, .int (nI 1)), (2, .int (nI s)), (3, .int (nI 1)), (4, .int (nI 1))] [] (zcells S) := by
  intro n
  induction n with
  | zero =>
    intro d s S T n0 cm hdn
    exact absurd hdn (Nat.not_lt_zero _)
  | succ n ih =>
    intro d s S T n0 cm hdn hdt hsd0 hF h7 hfl hM hI h8 hR
    have hT := hT0.fe hF
    have htn := hT.2.1
    dsimp only at htn
    have key : ∀ e S1, e ≤ d → zfe S0 S1 → S1.1 245 7 = nI (tn - e) → flt tp tn e (decide (s ≠ 0), false) = none → (s = 0 ∨ sk tp tn e ≠ 0) → MW (S1.1 246) T → S1.1 245 8 = nI n0 → evd tp tn e T n0 cm = R → zR C τ ι 6 0 0 37 [(0, .ref 245), (1, .int (nI 1)), (2, .int (nI s)), (3, .int (nI 1)), (4, .int (nI 1))] [] (zcells S1) := by
      intro e S1 hed hF1 he7 hfl hnz hM1 h8 hR
      have hT1 := hT0.fe hF1
      refine zr_aload_n hC dX9_goesThrough_37 rfl ?_
      refine zs_callV hC (b := 245) [] [] dX9_goesThrough_38 ml_X9_224 mtX9_event tX9_event (by decide) (by decide) (by decide) rfl rfl (by decide) (by decide +kernel) (Nat.le_of_ble_eq_true rfl) rfl ?_
      refine ⟨tp, tn, e, rfl, hT1, hL, he7, by omega, ?_⟩
      obtain ⟨p1, p2⟩ := evn_flt (tp := tp) (a := decide (s ≠ 0)) (show e ≤ tn by omega) (hnz.imp (fun q => by rw [q]; rfl) id)
      dsimp only [Option.toList, List.cons_append, List.nil_append]
      rcases hev : evn tp tn e with ⟨_ | c, f⟩
      · have q1 := (p1 f hev).1
        rw [hfl] at q1
        cases q1
      · obtain ⟨q1, q2, q3, q4⟩ := p2 c f hev
        refine zr_istore hC dX9_goesThrough_41 (by decide) ?_
        refine zr_iload hC dX9_goesThrough_43 rfl ?_
        refine zr_if_lt hC dX9_goesThrough_45 (tgt := 52) (by decide) (fun c => absurd c (nI_pos (by omega))) (fun c_45 => ?_)
        refine zk_iconst hC dX9_goesThrough_48 (v := nI 1) (by decide +kernel) ?_
        refine zr_goto hC dX9_goesThrough_49 (tgt := 53) (by decide) ?_
        refine zr_istore_n hC dX9_goesThrough_53 (by decide) ?_
        refine zr_iload_n hC dX9_goesThrough_54 rfl ?_
        refine zr_if_eq hC dX9_goesThrough_55 (tgt := 67) (by decide) (fun c => absurd c (by decide +kernel)) (fun c_55 => ?_)
        refine zr_aload_n hC dX9_goesThrough_58 rfl ?_
        refine zr_iload hC dX9_goesThrough_59 rfl ?_
        refine zs_callV hC (b := 245) [_] [] dX9_goesThrough_61 ml_X9_227 mtX9_does tX9_does (by decide) (by decide) (by decide) rfl rfl (by decide) (by decide +kernel) (Nat.le_of_ble_eq_true rfl) rfl ?_
        refine ⟨c, T, rfl, q3, by rw [zput_ne _ _ (by decide)]; exact hM1, hI, fun he => ?_, fun T2 he S2 hM2 hf2 => ?_⟩
        · have hR2 : R = (T, n0) := by rw [← hR]; exact ((q4 T n0 cm).1 he)
          dsimp only [Option.toList, List.cons_append, List.nil_append]
          refine zr_if_eq hC dX9_goesThrough_64 (tgt := 71) (by decide) (fun c_64 => ?_) (fun c => absurd c (by decide +kernel))
          refine zk_iconst hC dX9_goesThrough_71 (v := nI 0) (by decide +kernel) ?_
          refine zr_istore hC dX9_goesThrough_72 (by decide) ?_
          refine zr_aload_n hC dX9_goesThrough_74 rfl ?_
          refine zr_dup hC dX9_goesThrough_75 rfl ?_
          refine zv_geti hC dX9_goesThrough_76 fl_X9_221 (a := 245) rfl (by decide) ((zput_k _ _ (by decide)).trans h8) ?_
          refine zr_iload hC dX9_goesThrough_79 rfl ?_
          refine zr_if_eq hC dX9_goesThrough_81 (tgt := 88) (by decide) (fun c_81 => ?_) (fun c => absurd c (by decide +kernel))
          refine zk_iconst hC dX9_goesThrough_88 (v := nI 0) (by decide +kernel) ?_
          refine zn_iadd hC dX9_goesThrough_89 (nI_add _ _) ?_
          refine zs_puti hC dX9_goesThrough_90 fl_X9_221 fp_X9_8 (a := 245) rfl (by decide) ?_
          refine zn_iinc hC dX9_goesThrough_93 rfl (by decide) (zk_inc _ 1) ?_
          refine zr_goto hC dX9_goesThrough_96 (tgt := 17) (by decide) ?_
          refine zr_iload_n hC dX9_goesThrough_17 rfl ?_
          refine zr_if_eq hC dX9_goesThrough_18 (tgt := 99) (by decide) (fun c => absurd c (by decide +kernel)) (fun c_18 => ?_)
          refine zr_iload hC dX9_goesThrough_21 rfl ?_
          refine zr_if_eq hC dX9_goesThrough_23 (tgt := 99) (by decide) (fun c_23 => ?_) (fun c => absurd c (by decide +kernel))
          exact k _ _ rfl ((hF1.tr (zfe.put (Or.inl rfl))).tr (zfe.put (Or.inr rfl))) (by rw [zput_ne _ _ (by decide), zput_ne _ _ (by decide), hR2]; exact hM1) (by rw [hR2]; exact hI) (by rw [hR2]; exact zput_at _ _ _ _)
        · obtain ⟨cm2, hcm⟩ := (q4 T n0 cm).2 T2 he
          have h8b : S2.1 245 8 = nI n0 := by rw [hf2.1 245 (by decide), zput_k _ _ (by decide)]; exact h8
          dsimp only [Option.toList, List.cons_append, List.nil_append]
          refine zr_if_eq hC dX9_goesThrough_64 (tgt := 71) (by decide) (fun c => absurd c (by decide +kernel)) (fun c_64 => ?_)
          refine zk_iconst hC dX9_goesThrough_67 (v := nI 1) (by decide +kernel) ?_
          refine zr_goto hC dX9_goesThrough_68 (tgt := 72) (by decide) ?_
          refine zr_istore hC dX9_goesThrough_72 (by decide) ?_
          refine zr_aload_n hC dX9_goesThrough_74 rfl ?_
          refine zr_dup hC dX9_goesThrough_75 rfl ?_
          refine zv_geti hC dX9_goesThrough_76 fl_X9_221 (a := 245) rfl (by decide) (h8b) ?_
          refine zr_iload hC dX9_goesThrough_79 rfl ?_
          refine zr_if_eq hC dX9_goesThrough_81 (tgt := 88) (by decide) (fun c => absurd c (by decide +kernel)) (fun c_81 => ?_)
          refine zk_iconst hC dX9_goesThrough_84 (v := nI 1) (by decide +kernel) ?_
          refine zr_goto hC dX9_goesThrough_85 (tgt := 89) (by decide) ?_
          refine zn_iadd hC dX9_goesThrough_89 (nI_add _ _) ?_
          refine zs_puti hC dX9_goesThrough_90 fl_X9_221 fp_X9_8 (a := 245) rfl (by decide) ?_
          refine zn_iinc hC dX9_goesThrough_93 rfl (by decide) (zk_inc _ 1) ?_
          refine zr_goto hC dX9_goesThrough_96 (tgt := 17) (by decide) ?_
          exact zR_sub [(0, .ref 245), (1, .int (nI 1)), (2, .int (nI (s + 1))), (3, .int (nI 1)), (4, .int (nI 1))] ⟨rfl, rfl, rfl, rfl, rfl, trivial⟩ (ih f (s + 1) _ T2 (n0 + 1) cm2 (by omega) (by omega) (by omega) (((hF1.tr (zfe.put (Or.inl rfl))).tr hf2.e).tr (zfe.put (Or.inr rfl))) ((zput_k _ _ (by decide)).trans ((congrFun (hf2.1 245 (by decide)) 7).trans (zput_at _ _ _ _))) (by rw [show decide (s + 1 ≠ 0) = true from rfl, ← q1]; exact hfl) (by rw [zput_ne _ _ (by decide)]; exact hM2) (ev2_inv hI he) (zput_at _ _ _ _) (hcm.symm.trans hR))
    refine zr_iload_n hC dX9_goesThrough_17 rfl ?_
    refine zr_if_eq hC dX9_goesThrough_18 (tgt := 99) (by decide) (fun c => absurd c (by decide +kernel)) (fun c_18 => ?_)
    refine zr_iload hC dX9_goesThrough_21 rfl ?_
    refine zr_if_eq hC dX9_goesThrough_23 (tgt := 99) (by decide) (fun c => absurd c (by decide +kernel)) (fun c_23 => ?_)
    refine zr_iload_n hC dX9_goesThrough_26 rfl ?_
    refine zr_if_eq hC dX9_goesThrough_27 (tgt := 37) (by decide) (fun c_27 => ?_) (fun c_27 => ?_)
    · have hs0 : s = 0 := (z_ne0 (by omega)).mp c_27
      exact key d S (Nat.le_refl d) hF h7 hfl (Or.inl hs0) hM h8 hR
    · have hs0 : s ≠ 0 := fun q => c_27 (by rw [q]; rfl)
      have hsd : decide (s ≠ 0) = true := decide_eq_true hs0
      refine zr_aload_n hC dX9_goesThrough_30 rfl ?_
      refine zs_callV hC (b := 245) [] [] dX9_goesThrough_31 ml_X9_210 mtX9_here tX9_here (by decide) (by decide) (by decide) rfl rfl (by decide) (by decide +kernel) (Nat.le_of_ble_eq_true rfl) rfl ?_
      refine ⟨tp, tn, d, rfl, hT, hL, h7, by omega, ?_⟩
      have hle := sk_le (tp := tp) (tn := tn) d
      dsimp only [Option.toList, List.cons_append, List.nil_append]
      refine zr_if_eq hC dX9_goesThrough_34 (tgt := 99) (by decide) (fun c_34 => ?_) (fun c_34 => ?_)
      · have hz := hcN_z hL (by omega) c_34
        have hR2 : R = (T, n0) := by rw [← hR, evd_sk d, hz]; rfl
        exact k _ _ rfl (hF.tr (zfe.put (Or.inl rfl))) (by rw [zput_ne _ _ (by decide), hR2]; exact hM) (by rw [hR2]; exact hI) (by rw [hR2, zput_k _ _ (by decide)]; exact h8)
      · refine key (sk tp tn d) _ hle (hF.tr (zfe.put (Or.inl rfl))) (zput_at _ _ _ _) ((flt_sk d).symm.trans hfl) (Or.inr (fun q => c_34 (by rw [sk_sk] at q; rw [q]; rfl))) (by rw [zput_ne _ _ (by decide)]; exact hM) ((zput_k _ _ (by decide)).trans h8) ((evd_sk d).symm.trans hR)
def spX9_goesThrough : zSp := fun av S Q => ∃ (b : Bool) (tp : Nat → Nat) (tn : Nat) (D : zD), av = [.ref 245, .int (zb b)] ∧ MT S (tp, tn) ∧ (∀ i, i < tn → 32 ≤ tp i ∧ tp i ≤ 126) ∧ MW (S.1 246) D ∧ INV D ∧ (b = false → ∀ S' (w : Bool), zfz S S' → ∀ d', S'.1 245 7 = nI (tn - d') → d' ≤ tn → (w = true → flt tp tn tn (false, false) = none) → (w = false → flt tp tn tn (false, false) = some (tn - d') ∧ (d' ≠ 0 → tp (tn - d') ≠ 32)) → Q (some (.int (zb w))) S') ∧ (b = true → flt tp tn tn (false, false) = none ∧ ∀ S', zfe S S' → MW (S'.1 246) (evd tp tn tn D 0 false).1 → INV (evd tp tn tn D 0 false).1 → S'.1 245 8 = nI (evd tp tn tn D 0 false).2 → Q (some (.int (nI 1))) S')
set_option maxHeartbeats 400000 in
set_option maxRecDepth 100000 in
theorem tX9_goesThrough : zM yX9_goesThrough cX9_goesThrough 6 (some .boolean) 6 spX9_goesThrough := by
  refine zM.of (by decide) (by decide) (fun av S Q h => by obtain ⟨b, tp, tn, D, rfl, hT, hL, hM, hI, hA, hB⟩ := h; exact Nat.le_of_ble_eq_true rfl) (fun C τ ι av S Q Qr h hr hC hE => ?_)
  obtain ⟨b, tp, tn, D, rfl, hT, hL, hM, hI, hA, hB⟩ := h
  show zR C τ ι _ 0 0 0 [(0, .ref 245), (1, .int (zb b))] [] _
  cases b
  · refine zr_aload_n hC dX9_goesThrough_0 rfl ?_
    refine zk_iconst hC dX9_goesThrough_1 (v := nI 0) (by decide +kernel) ?_
    refine zs_puti hC dX9_goesThrough_2 fl_X9_207 fp_X9_7 (a := 245) rfl (by decide) ?_
    refine zr_aload_n hC dX9_goesThrough_5 rfl ?_
    refine zk_iconst hC dX9_goesThrough_6 (v := nI 0) (by decide +kernel) ?_
    refine zs_puti hC dX9_goesThrough_7 fl_X9_221 fp_X9_8 (a := 245) rfl (by decide) ?_
    refine zk_iconst hC dX9_goesThrough_10 (v := nI 0) (by decide +kernel) ?_
    refine zr_istore_n hC dX9_goesThrough_11 (by decide) ?_
    refine zk_iconst hC dX9_goesThrough_12 (v := nI 1) (by decide +kernel) ?_
    refine zr_istore_n hC dX9_goesThrough_13 (by decide) ?_
    refine zk_iconst hC dX9_goesThrough_14 (v := nI 1) (by decide +kernel) ?_
    refine zr_istore hC dX9_goesThrough_15 (by decide) ?_
    refine zR_sub [(0, .ref 245), (1, .int (nI 0)), (2, .int (nI 0)), (3, .int (nI 1)), (4, .int (nI 1))] ⟨rfl, rfl, rfl, rfl, rfl, trivial⟩ ?_
    refine l9_goA (S0 := S) hC hT hL (fun S1 lv w g3 hf1 d1 g7 gd gt gf => ?_) (tn + 1) tn 0 (zput (zput S 245 7 (nI 0)) 245 8 (nI 0)) (by omega) (Nat.le_refl _) (by omega) ((zfz.put (Or.inl rfl)).tr (zfz.put (Or.inr rfl))) (by rw [zput_k _ _ (by decide), zput_at, Nat.sub_self]) rfl
    refine zr_iload_n hC dX9_goesThrough_99 g3 ?_
    exact zr_zreturn hC hE dX9_goesThrough_100 (by cases w; exact Or.inl rfl; exact Or.inr rfl) (hr _ _ (hA rfl S1 w hf1 d1 g7 gd gt gf))
  · refine zr_aload_n hC dX9_goesThrough_0 rfl ?_
    refine zk_iconst hC dX9_goesThrough_1 (v := nI 0) (by decide +kernel) ?_
    refine zs_puti hC dX9_goesThrough_2 fl_X9_207 fp_X9_7 (a := 245) rfl (by decide) ?_
    refine zr_aload_n hC dX9_goesThrough_5 rfl ?_
    refine zk_iconst hC dX9_goesThrough_6 (v := nI 0) (by decide +kernel) ?_
    refine zs_puti hC dX9_goesThrough_7 fl_X9_221 fp_X9_8 (a := 245) rfl (by decide) ?_
    refine zk_iconst hC dX9_goesThrough_10 (v := nI 0) (by decide +kernel) ?_
    refine zr_istore_n hC dX9_goesThrough_11 (by decide) ?_
    refine zk_iconst hC dX9_goesThrough_12 (v := nI 1) (by decide +kernel) ?_
    refine zr_istore_n hC dX9_goesThrough_13 (by decide) ?_
    refine zk_iconst hC dX9_goesThrough_14 (v := nI 1) (by decide +kernel) ?_
    refine zr_istore hC dX9_goesThrough_15 (by decide) ?_
    obtain ⟨hfl, hB⟩ := hB rfl
    refine zR_sub [(0, .ref 245), (1, .int (nI 1)), (2, .int (nI 0)), (3, .int (nI 1)), (4, .int (nI 1))] ⟨rfl, rfl, rfl, rfl, rfl, trivial⟩ ?_
    refine l9_goB (S0 := S) (R := evd tp tn tn D 0 false) hC hT hL (fun S1 lv g3 hf1 hm1 hi1 g8 => ?_) (tn + 1) tn 0 (zput (zput S 245 7 (nI 0)) 245 8 (nI 0)) D 0 false (by omega) (Nat.le_refl _) (by omega) ((zfe.put (Or.inl rfl)).tr (zfe.put (Or.inr rfl))) (by rw [zput_k _ _ (by decide), zput_at, Nat.sub_self]) hfl (by rw [zput_ne _ _ (by decide), zput_ne _ _ (by decide)]; exact hM) hI (zput_at _ _ _ _) rfl
    refine zr_iload_n hC dX9_goesThrough_99 g3 ?_
    exact zr_zreturn hC hE dX9_goesThrough_100 (Or.inr rfl) (hr _ _ (hB S1 hf1 hm1 hi1 g8))
