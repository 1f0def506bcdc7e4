/-! ONE SLEEPS, ANOTHER COMES: what it lacks, what it is told when awake -/
theorem zan_all {D : zD} (w : WS D) : zan (sm (D 0) 1) (D 9 (key D 1)) = 0 := by
  refine Nat.eq_of_testBit_eq (fun i => ?_)
  rw [Nat.zero_testBit]
  rcases Nat.lt_or_ge i 16 with hi | hi
  · rw [zan_bit (by omega), sm_bit hi]
    cases q : bn (D 0 i) 1 with
    | false => rfl
    | true =>
      have h0 : D 0 i ≠ 0 := fun e => by rw [e, show bn 0 1 = false from bnf_0 5 1] at q; cases q
      rw [show (D 9 (key D 1)).testBit i = true from w.grp hi h0]
      rfl
  · exact z_small (n := 16) (zan_lt (sm_lt _ _)) hi
theorem zan_one {M : zD} {m : Nat} (hI : INV M) (hm : m < 16) (h0 : M 0 m ≠ 0) (hn : hd M m (key M 1) = false) (hp : ∀ j, j < 16 → j ≠ m → M 0 j ≠ 0 → hd M j (key M 1) = true) : zan (sm (M 0) 1) (M 9 (key M 1)) = 2 ^ m := by
  refine Nat.eq_of_testBit_eq (fun i => ?_)
  rw [Nat.testBit_two_pow]
  rcases Nat.lt_or_ge i 16 with hi | hi
  · rw [zan_bit (by omega), sm_bit hi]
    by_cases e : m = i
    · subst e
      rw [bn_root _ (hI.ok.lt hm) h0, show (M 9 (key M 1)).testBit m = false from hn]
      simp
    · rw [decide_eq_false e]
      cases q : bn (M 0 i) 1 with
      | false => rfl
      | true =>
        have h1 : M 0 i ≠ 0 := fun e => by rw [e, show bn 0 1 = false from bnf_0 5 1] at q; cases q
        rw [show (M 9 (key M 1)).testBit i = true from hp i hi (fun z => e z.symm) h1]
        rfl
  · rw [z_small (n := 16) (zan_lt (sm_lt _ _)) hi, decide_eq_false (by omega)]
theorem dm_one {f : Nat → Nat} {c m : Nat} (hm : m < 16) (h1 : f m = c) (h2 : ∀ j, j < 16 → j ≠ m → f j ≠ c) : dm (fun j => f j == c) = 2 ^ m := by
  refine Nat.eq_of_testBit_eq (fun i => ?_)
  rw [Nat.testBit_two_pow]
  rcases Nat.lt_or_ge i 16 with hi | hi
  · rw [dm_b hi]
    by_cases e : m = i
    · subst e; simp [h1]
    · rw [decide_eq_false e]
      exact beq_eq_false_iff_ne.mpr (h2 i hi (fun z => e z.symm))
  · rw [z_small (n := 16) (dm_lt _) hi, decide_eq_false (by omega)]
theorem dm_no {f : Nat → Nat} {c : Nat} (h2 : ∀ j, j < 16 → f j ≠ c) : dm (fun j => f j == c) = 0 := dm_zero.mpr (fun j hj => beq_eq_false_iff_ne.mpr (h2 j hj))
theorem pcn_pow : ∀ m, m < 16 → pcn 16 (2 ^ m) = 1 := by decide +kernel
theorem hby_leq {D D' : zD} {m : Nat} (h : ∀ k, hd D m k = true → hd D' m k = true) : ∀ N, hby D m N ≤ hby D' m N
  | 0 => Nat.le_refl _
  | N + 1 => by
    have ih := hby_leq h N
    unfold hby
    cases q : hd D m N with
    | false => rw [if_neg (by decide)]; omega
    | true => rw [h N q, if_pos rfl]; omega
theorem hby_lt {D D' : zD} {m a : Nat} (h : ∀ k, hd D m k = true → hd D' m k = true) (ha : hd D m a = false) (ha' : hd D' m a = true) : ∀ N, a < N → hby D m N < hby D' m N
  | 0, hN => by omega
  | N + 1, hN => by
    have hle := hby_leq h N
    unfold hby
    by_cases e : a = N
    · subst e
      rw [ha, ha', if_pos rfl, if_neg (by decide)]; omega
    · have ih := hby_lt h ha ha' N (by omega)
      cases q : hd D m N with
      | false => rw [if_neg (by decide)]; omega
      | true => rw [h N q, if_pos rfl]; omega
theorem S12.cong {D D' : zD} (e0 : D' 0 = D 0) (e6 : D' 6 = D 6) (e7 : D' 7 = D 7) (e9 : D' 9 = D 9) (e10 : D' 10 = D 10) (e11 : D' 11 = D 11) (a : S1 D) (b : S2 D) (d : H2 D) : S1 D' ∧ S2 D' ∧ H2 D' := by
  have hk : ∀ v, key D' v = key D v := fun v => key_cong e7 (congrFun e6 0) v
  have hc := cur_cong e0 e7 (congrFun e6 0)
  refine ⟨fun k q m hm hh => ?_, fun i hi q => ?_, fun m hm q => ?_⟩
  · rw [e0, e7]
    refine a k ((hc k).mp q) m hm ?_
    show (D 9 k).testBit m = true
    rw [← e9]; exact hh
  · rw [e6] at hi
    rw [e10] at q ⊢
    rw [e11, e7]
    obtain ⟨x, y⟩ := b i hi ((hc _).mp q)
    exact ⟨(hc _).mpr x, y⟩
  · rw [e0] at q ⊢
    rw [hk]
    show (D' 9 _).testBit m = true
    rw [e9]; exact d m hm q
abbrev laA (D : zD) (m : Nat) : zD := dset D 2 m 1
abbrev laC (D : zD) (m o : Nat) : zD := dset (dset D 2 m 1) 1 o 1
/-- what is so when another has come while m sleeps -/
def laP (D E : zD) (m : Nat) : Prop := INV E ∧ SEC E ∧ E 0 m ≠ 0 ∧ E 2 m = 1 ∧ (∀ j, j < 16 → j ≠ m → E 2 j = 0) ∧ (∀ j, j < 16 → E 1 j = 0) ∧ E 3 m = D 6 1 ∧ (D 6 1 + 4 ≤ E 6 1 ∧ E 6 1 ≤ D 6 1 + 8 ∧ E 6 0 ≤ D 6 0 + 5) ∧ hd E m (key E 1) = false ∧ ∀ T : zD, T 7 = E 7 → T 6 = E 6 → T 10 = E 10 → T 11 = E 11 → (∀ k, hd T m k = hd E m k) → ∀ v, bn (E 0 m) v = true → hd (rds m (D 6 1) T (T 6 1 - D 6 1)).1 m (key T v) = true
set_option maxHeartbeats 1000000 in
theorem la_ok {D : zD} (w : WS D) {m o : Nat} (hm : m < 16) (h0 : D 0 m ≠ 0) (ho : o < 16) (h0o : D 0 o = 0) (h60 : D 6 0 < 200) (h61 : D 6 1 < 160) : brf (laC D m o) = nI 0 ∧ one (laC D m o) o ∧ INV (laC D m o) ∧ laP D (btc (laC D m o)) m := by
  obtain ⟨w1, w2, w3, w4⟩ := w
  have hmo : m ≠ o := fun e => h0 (e ▸ h0o)
  have IA : INV (laA D m) := w1.sleep h0
  have IC : INV (laC D m o) := IA.come (by show dset D 2 m 1 0 o = 0; rw [dset_ff _ _ _ (by decide)]; exact h0o)
  have cf : ∀ f, f ≠ 1 → f ≠ 2 → laC D m o f = D f := fun f a b => (dset_ff _ _ _ a).trans (dset_ff _ _ _ b)
  have c1 : ∀ j, j ≠ o → laC D m o 1 j = D 1 j := fun j hj => by
    show dset (dset D 2 m 1) 1 o 1 1 j = _
    rw [dset_k _ _ _ hj, dset_ff _ _ _ (by decide)]
  have c1o : laC D m o 1 o = 1 := dset_at _ _ _ _
  have c2 : ∀ j, j ≠ m → laC D m o 2 j = D 2 j := fun j hj => by
    show dset (dset D 2 m 1) 1 o 1 2 j = _
    rw [dset_ff _ _ _ (by decide), dset_k _ _ _ hj]
  have c2m : laC D m o 2 m = 1 := by
    show dset (dset D 2 m 1) 1 o 1 2 m = _
    rw [dset_ff _ _ _ (by decide), dset_at]
  have hone : one (laC D m o) o := ⟨c1o, fun j hj e => by rw [c1 j e]; exact w3 j hj⟩
  have hb : brf (laC D m o) = nI 0 := one_brf ho c1o (by rw [cf 6 (by decide) (by decide)]; exact h60) (by rw [cf 6 (by decide) (by decide)]; exact h61)
  have hS : SEC (laC D m o) := by
    obtain ⟨a, b, c⟩ := S12.cong (D' := laC D m o) (cf 0 (by decide) (by decide)) (cf 6 (by decide) (by decide)) (cf 7 (by decide) (by decide)) (cf 9 (by decide) (by decide)) (cf 10 (by decide) (by decide)) (cf 11 (by decide) (by decide)) w2.1 w2.2.1 w2.2.2.2
    refine ⟨a, b, fun j hj q => ?_, c⟩
    have h2 := w2.2.2.1 j hj ⟨by rw [← cf 0 (by decide) (by decide)]; exact q.1, w4 j hj⟩
    rw [cf 3 (by decide) (by decide), cf 6 (by decide) (by decide), cf 0 (by decide) (by decide)]
    refine ⟨h2.1, fun v hv hbv => ?_⟩
    rw [key_cong (cf 7 (by decide) (by decide)) (congrFun (cf 6 (by decide) (by decide)) 0)]
    show (laC D m o 9 _).testBit j = true
    rw [cf 9 (by decide) (by decide)]; exact h2.2 v hv hbv
  refine ⟨hb, hone, IC, ?_⟩
  have e61 : laC D m o 6 = D 6 := cf 6 (by decide) (by decide)
  have hleaf : D 0 m = 0 ∨ (16 ≤ D 0 m ∧ D 0 m < 32) := w1.leaf hm
  have hpath : ∀ v, v < 32 → bn (laC D m o 0 m) v = true → hd (laC D m o) m (key (laC D m o) v) = true := fun v hv hbv => by
    rw [key_cong (cf 7 (by decide) (by decide)) (congrFun (cf 6 (by decide) (by decide)) 0)]
    show (laC D m o 9 _).testBit m = true
    rw [cf 9 (by decide) (by decide)]
    rw [cf 0 (by decide) (by decide)] at hbv
    exact (w2.2.2.1 m hm ⟨h0, w4 m hm⟩).2 v hv hbv
  have c1m : laC D m o 1 m = 0 := by rw [c1 m hmo]; exact w3 m hm
  have c3m : laC D m o 3 m = D 6 1 := by rw [cf 3 (by decide) (by decide)]; exact (w2.2.2.1 m hm ⟨h0, w4 m hm⟩).1
  have c0m : laC D m o 0 m = D 0 m := by rw [cf 0 (by decide) (by decide)]
  generalize laC D m o = C at *
  have hB := bt_BT IC
  have hIB := IC.btc1 hb
  have hIE := IC.btc hb
  have ef : ∀ f, f ≠ 3 → f ≠ 9 → btc C f = btB C f := fun f a b => btc_f a b
  have hlf : lfD C m = D 0 m := by rcases mvD_at IC hm with z | z | z <;> first | omega | exact z.2.trans c0m
  have hl0 : lfD C m ≠ 0 := by rw [hlf]; exact h0
  have b2m : btB C 2 m = 1 := by rw [hB.1.2.2.1 m, if_pos c1m]; exact c2m
  have hq : ¬ (m < 16 ∧ awk (btB C) m) := fun z => by have := z.2.2; rw [b2m] at this; cases this
  have hall := (rda_all (D := btB C) 16 m).2 hq
  refine ⟨hIE, btc_SEC IC hb hS, ?_, ?_, fun j hj e => ?_, fun j hj => ?_, ?_, ⟨?_, ?_, ?_⟩, ?_, fun T t7 t6 t10 t11 hh v hbv => ?_⟩
  · rw [ef 0 (by decide) (by decide), hB.1.1]; exact hl0
  · rw [ef 2 (by decide) (by decide)]; exact b2m
  · rw [ef 2 (by decide) (by decide), hB.1.2.2.1 j]
    split
    · rw [c2 j e]; exact w4 j hj
    · rfl
  · rw [ef 1 (by decide) (by decide)]; exact hB.1.2.1 j
  · show rda (btB C) 16 3 m = _
    rw [hall.2, hB.1.2.2.2.1, if_pos c1m]; exact c3m
  · rw [ef 6 (by decide) (by decide), ← e61]; exact one_ge4 IC hB hIB ho c1o
  · rw [ef 6 (by decide) (by decide), ← e61]; exact one_eight IC hB ho hone
  · rw [ef 6 (by decide) (by decide), ← e61]; exact one_five IC hB ho hone
  · rw [key_cong (ef 7 (by decide) (by decide)) (congrFun (ef 6 (by decide) (by decide)) 0)]
    show hd (rda (btB C) 16) m _ = false
    rw [hall.1]
    have hlo := one_lf IC ho c1o
    have hb1 := bn_root _ hlo.2 (by omega)
    obtain ⟨k1, k2, k3⟩ := (hB.2.2.2.2.2.2.2 1 (by decide) (by decide)).2 (bt_came IC ho c1o hb1) (sm_of ho hb1)
    show (btB C 9 _).testBit m = false
    rw [(hB.2.2.2.1 _ k1 k2).2.2.2.2.2.1, k3]
    exact Nat.zero_testBit _
  · have := bt_path (T := T) IC hB hm hl0 (Or.inr ⟨c1m, hpath⟩) (t7.trans (ef 7 (by decide) (by decide))) (by rw [t6, ef 6 (by decide) (by decide)]) (by rw [t6, ef 6 (by decide) (by decide)]) (t10.trans (ef 10 (by decide) (by decide))) (t11.trans (ef 11 (by decide) (by decide))) (fun k => by rw [hh]; exact hall.1 k) (v := v) (by rw [← hB.1.1, ← ef 0 (by decide) (by decide)]; exact hbv)
    rw [e61] at this
    exact this
/-- it wakes, and reads -/
theorem la_wake {D E : zD} {m : Nat} (hm : m < 16) (h : laP D E m) : WS (rdm m (dset E 2 m 0)) ∧ (1 ≤ (rds m (E 3 m) (dset E 2 m 0) (E 6 1 - E 3 m)).2 ∧ (rds m (E 3 m) (dset E 2 m 0) (E 6 1 - E 3 m)).2 ≤ E 6 1 - E 3 m) ∧ hby (rdm m (dset E 2 m 0)) m (E 6 0) = hby E m (E 6 0) + (rds m (E 3 m) (dset E 2 m 0) (E 6 1 - E 3 m)).2 ∧ rdm m (dset E 2 m 0) 3 m = E 6 1 ∧ rdm m (dset E 2 m 0) 0 = E 0 ∧ rdm m (dset E 2 m 0) 6 = E 6 := by
  obtain ⟨hI, hS, h0, h2, h2', h1, h3, hb, hn, hp⟩ := h
  have hIT : INV (dset E 2 m 0) := hI.wake
  have tf : ∀ f, f ≠ 2 → dset E 2 m 0 f = E f := fun f a => dset_ff _ _ _ a
  have t2 : ∀ j, j < 16 → dset E 2 m 0 2 j = 0 := fun j hj => by
    by_cases e : j = m
    · subst e; exact dset_at _ _ _ _
    · rw [dset_k _ _ _ e]; exact h2' j hj e
  obtain ⟨a1, a2, a4⟩ := S12.cong (D' := dset E 2 m 0) (tf 0 (by decide)) (tf 6 (by decide)) (tf 7 (by decide)) (tf 9 (by decide)) (tf 10 (by decide)) (tf 11 (by decide)) hS.1 hS.2.1 hS.2.2.2
  have hth : ∀ j k, hd (dset E 2 m 0) j k = hd E j k := fun j k => by
    show (dset E 2 m 0 9 k).testBit j = _
    rw [tf 9 (by decide)]
  have hpt := hp (dset E 2 m 0) (tf 7 (by decide)) (tf 6 (by decide)) (tf 10 (by decide)) (tf 11 (by decide)) (hth m)
  have hkt : ∀ v, key (dset E 2 m 0) v = key E v := fun v => key_cong (tf 7 (by decide)) (congrFun (tf 6 (by decide)) 0) v
  have e3 : dset E 2 m 0 3 m = D 6 1 := by rw [tf 3 (by decide)]; exact h3
  have e6 : dset E 2 m 0 6 = E 6 := tf 6 (by decide)
  have e0 : dset E 2 m 0 0 = E 0 := tf 0 (by decide)
  have e1 : dset E 2 m 0 1 = E 1 := tf 1 (by decide)
  have hr3 := hI.read hm h0
  rw [h3]
  have hF9 : ∀ j k, hd (rdm m (dset E 2 m 0)) j k = hd (rds m (D 6 1) (dset E 2 m 0) (E 6 1 - D 6 1)).1 j k := fun j k => by rw [rdm_9, e3, e6]
  have ff : ∀ f, f ≠ 3 → f ≠ 9 → rdm m (dset E 2 m 0) f = dset E 2 m 0 f := fun f a b => by
    unfold rdm
    rw [dset_ff _ _ _ a, rds_f b]
  have f3 : rdm m (dset E 2 m 0) 3 m = E 6 1 := by
    unfold rdm
    rw [dset_at, e6]
  have f3' : ∀ j, j ≠ m → rdm m (dset E 2 m 0) 3 j = E 3 j := fun j hj => by
    unfold rdm
    rw [dset_k _ _ _ hj, rds_f (by decide), tf 3 (by decide)]
  have hIF : INV (rdm m (dset E 2 m 0)) := hIT.rdm hm
  have hcnt := rds_cnt (m := m) (i0 := D 6 1) (D := dset E 2 m 0) (N := E 6 0) (E 6 1 - D 6 1) (fun i i1 i2 => by
    have := (hIT.lets (i := i) (by rw [e6]; omega)).1
    rw [e6] at this; exact this)
  have hup : ∀ k, hd (dset E 2 m 0) m k = true → hd (rds m (D 6 1) (dset E 2 m 0) (E 6 1 - D 6 1)).1 m k = true := fun k q => rds_up _ q
  rw [e6] at hpt
  have hk1 := (hI.live (v := 1) (by decide) (by decide) (sm_of hm (bn_root _ (hI.ok.lt hm) h0))).1
  have hlt := hby_lt hup (a := key E 1) (by rw [hth]; exact hn) (by have := hpt 1 (bn_root _ (hI.ok.lt hm) h0); rw [hkt] at this; exact this) (E 6 0) hk1
  have hbE : hby (dset E 2 m 0) m (E 6 0) = hby E m (E 6 0) := hby_cong _ (fun k _ => hth m k)
  refine ⟨⟨hIF, ⟨fun k q j hj hh => ?_, fun i hi q => ?_, fun j hj q => ?_, fun j hj q => ?_⟩, fun j hj => ?_, fun j hj => ?_⟩, ⟨by omega, rds_c _⟩, ?_, f3, by rw [ff 0 (by decide) (by decide), e0], by rw [ff 6 (by decide) (by decide), e6]⟩
  · have q' : cur (dset E 2 m 0) k := (cur_cong (ff 0 (by decide) (by decide)) (ff 7 (by decide) (by decide)) (congrFun (ff 6 (by decide) (by decide)) 0) k).mp q
    rw [ff 0 (by decide) (by decide), ff 7 (by decide) (by decide)]
    rw [hF9] at hh
    by_cases e : m = j
    · subst e
      refine rds_P (P := fun k => cur (dset E 2 m 0) k → bn (dset E 2 m 0 0 m) (dset E 2 m 0 7 k) = true) (fun k h c => a1 k c m hm h) _ (fun i i1 i2 ih hc => ?_) k hh q'
      have hi : i < dset E 2 m 0 6 1 := by rw [e6]; omega
      obtain ⟨c1, c2, c3⟩ := a2 i hi hc
      exact bn_tr _ (hIT.ok.lt hm) _ (hIT.keys c1.1).2.1 (ih c1) _ (by omega) c3
    · rw [rds_oth e] at hh
      exact a1 k q' j hj hh
  · rw [ff 6 (by decide) (by decide)] at hi
    rw [ff 10 (by decide) (by decide)] at q ⊢
    rw [ff 11 (by decide) (by decide), ff 7 (by decide) (by decide)]
    have hcc := cur_cong (ff 0 (by decide) (by decide)) (ff 7 (by decide) (by decide)) (congrFun (ff 6 (by decide) (by decide)) 0)
    obtain ⟨x, y⟩ := a2 i hi ((hcc _).mp q)
    exact ⟨(hcc _).mpr x, y⟩
  · have hkf : ∀ v, key (rdm m (dset E 2 m 0)) v = key E v := fun v => (key_cong (ff 7 (by decide) (by decide)) (congrFun (ff 6 (by decide) (by decide)) 0) v).trans (hkt v)
    rw [ff 6 (by decide) (by decide), e6, ff 0 (by decide) (by decide), e0]
    by_cases e : j = m
    · subst e
      refine ⟨f3, fun v hv hbv => ?_⟩
      rw [hF9, hkf]
      have := hpt v hbv
      rw [hkt] at this; exact this
    · have q0 : E 0 j ≠ 0 := by have := q.1; rw [ff 0 (by decide) (by decide), e0] at this; exact this
      have := hS.2.2.1 j hj ⟨q0, h2' j hj e⟩
      refine ⟨by rw [f3' j e]; exact this.1, fun v hv hbv => ?_⟩
      rw [hF9, hkf, rds_oth (fun z => e z.symm), hth]
      exact this.2 v hv hbv
  · have hkf : ∀ v, key (rdm m (dset E 2 m 0)) v = key E v := fun v => (key_cong (ff 7 (by decide) (by decide)) (congrFun (ff 6 (by decide) (by decide)) 0) v).trans (hkt v)
    rw [ff 0 (by decide) (by decide), e0] at q ⊢
    rw [hF9, hkf]
    exact rds_up _ (by rw [hth]; exact hS.2.2.2 j hj q)
  · rw [ff 1 (by decide) (by decide), e1]; exact h1 j hj
  · rw [ff 2 (by decide) (by decide)]; exact t2 j hj
  · rw [hby_cong (D := (rds m (D 6 1) (dset E 2 m 0) (E 6 1 - D 6 1)).1) _ (fun k _ => hF9 m k), hcnt, hbE]
/-- its letters are lost, it wakes: it lacks what it lacked -/
theorem la_lack {D E M : zD} {m : Nat} (hm : m < 16) (h : laP D E m) (hIM : INV M) (mf : ∀ f, f ≠ 2 → f ≠ 3 → M f = E f) (m2 : ∀ j, j < 16 → M 2 j = 0) (m3 : M 3 m = E 6 1) (m3' : ∀ j, j ≠ m → M 3 j = E 3 j) : lackm M m := by
  obtain ⟨hI, hS, h0, h2, h2', h1, h3, hb, hn, hp⟩ := h
  obtain ⟨a1, a2, a4⟩ := S12.cong (D' := M) (mf 0 (by decide) (by decide)) (mf 6 (by decide) (by decide)) (mf 7 (by decide) (by decide)) (mf 9 (by decide) (by decide)) (mf 10 (by decide) (by decide)) (mf 11 (by decide) (by decide)) hS.1 hS.2.1 hS.2.2.2
  have hk : ∀ v, key M v = key E v := fun v => key_cong (mf 7 (by decide) (by decide)) (congrFun (mf 6 (by decide) (by decide)) 0) v
  refine ⟨hIM, a1, a2, a4, fun j hj => ?_, m2, fun j hj q => ?_, fun j hj e v hv hbv => ?_, ?_, ?_⟩
  · rw [mf 1 (by decide) (by decide)]; exact h1 j hj
  · rw [mf 6 (by decide) (by decide)]
    by_cases e : j = m
    · subst e; exact m3
    · rw [m3' j e]
      rw [mf 0 (by decide) (by decide)] at q
      exact (hS.2.2.1 j hj ⟨q, h2' j hj e⟩).1
  · rw [mf 0 (by decide) (by decide)] at hbv
    have h0j : E 0 j ≠ 0 := fun z => by rw [z, show bn 0 v = false from bnf_0 5 v] at hbv; cases hbv
    rw [hk]
    show (M 9 _).testBit j = true
    rw [mf 9 (by decide) (by decide)]
    exact (hS.2.2.1 j hj ⟨h0j, h2' j hj e⟩).2 v hv hbv
  · rw [mf 0 (by decide) (by decide)]; exact h0
  · rw [hk]
    show (M 9 _).testBit m = false
    rw [mf 9 (by decide) (by decide)]; exact hn
