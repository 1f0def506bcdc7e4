/-! KEYS MENDED: who lacks them is told each under its leaf's key, and reads it -/
theorem mnl_Q {m : Nat} {M : zD} : ∀ (n u : Nat) (T : zD), ltE M T → ltE M (mnl m n u T) ∧ (T 6 1 ≤ mnl m n u T 6 1 ∧ mnl m n u T 6 1 ≤ T 6 1 + n) ∧ (∀ i, i < T 6 1 → mnl m n u T 10 i = T 10 i ∧ mnl m n u T 11 i = T 11 i ∧ mnl m n u T 12 i = T 12 i) ∧ (∀ i, T 6 1 ≤ i → i < mnl m n u T 6 1 → mnl m n u T 12 i = 0 ∧ mnl m n u T 11 i = key M (M 0 m) ∧ ∃ v, bnf n u v = true ∧ mnl m n u T 10 i = key M v) ∧ (∀ v, bnf n u v = true → hd M m (key M v) = false → ∃ i, T 6 1 ≤ i ∧ i < mnl m n u T 6 1 ∧ mnl m n u T 10 i = key M v)
  | 0, u, T, h => ⟨h, ⟨Nat.le_refl _, Nat.le_refl _⟩, fun _ _ => ⟨rfl, rfl, rfl⟩, fun i a b => absurd b (Nat.not_lt.mpr a), fun v h => by cases h⟩
  | n + 1, u, T, h => by
    have hb : ∀ v, bnf (n + 1) u v = (!(u == 0) && (v == u || bnf n (u / 2) v)) := fun v => rfl
    unfold mnl
    by_cases u0 : u = 0
    · rw [if_pos u0]
      refine ⟨h, ⟨Nat.le_refl _, Nat.le_add_right _ _⟩, fun _ _ => ⟨rfl, rfl, rfl⟩, fun i a b => absurd b (Nat.not_lt.mpr a), fun v hv => ?_⟩
      rw [u0, bnf_0] at hv; cases hv
    · rw [if_neg u0]
      have eu : (u == 0) = false := beq_eq_false_iff_ne.mpr u0
      have hk := h.key
      have h9 : T 9 = M 9 := h.1 9 (by decide) (by decide) (by decide) (by decide)
      have h0 : T 0 = M 0 := h.1 0 (by decide) (by decide) (by decide) (by decide)
      have hh : hd T m (key T u) = hd M m (key M u) := by
        show (T 9 _).testBit m = _
        rw [h9, hk]
      rw [hh]
      by_cases q : hd M m (key M u) = true
      · rw [if_pos q]
        obtain ⟨a, ⟨b1, b2⟩, c, d, e⟩ := mnl_Q n (u / 2) T h
        refine ⟨a, ⟨b1, by omega⟩, c, fun i i1 i2 => ?_, fun v hv hn => ?_⟩
        · obtain ⟨d1, d2, v, d3, d4⟩ := d i i1 i2
          exact ⟨d1, d2, v, by rw [hb, d3, eu]; simp, d4⟩
        · rw [hb, eu] at hv
          simp only [Bool.not_false, Bool.true_and, Bool.or_eq_true, beq_iff_eq] at hv
          rcases hv with rfl | hv
          · rw [q] at hn; cases hn
          · exact e v hv hn
      · rw [if_neg q]
        have hE1 : ltE M (ladd T (key T u) (key T (T 0 m)) 0) := h.add _ _ _
        have h61 : ladd T (key T u) (key T (T 0 m)) 0 6 1 = T 6 1 + 1 := ladd_61
        have hn := ladd_n (D := T) (a := key T u) (b := key T (T 0 m)) (c := 0)
        have ho := fun i (hi : i < T 6 1) => ladd_o (D := T) (a := key T u) (b := key T (T 0 m)) (c := 0) (i := i) (by omega)
        rw [hk, hk, h0] at hE1 h61 hn
        rw [hk, hk, h0] at ho
        rw [hk, hk, h0]
        generalize ladd T (key M u) (key M (M 0 m)) 0 = T1 at *
        obtain ⟨a, ⟨b1, b2⟩, c, d, e⟩ := mnl_Q n (u / 2) T1 hE1
        refine ⟨a, ⟨by omega, by omega⟩, fun i hi => ?_, fun i i1 i2 => ?_, fun v hv hn' => ?_⟩
        · obtain ⟨c1, c2, c3⟩ := c i (by omega)
          obtain ⟨o1, o2, o3⟩ := ho i hi
          exact ⟨c1.trans o1, c2.trans o2, c3.trans o3⟩
        · by_cases ei : i = T 6 1
          · obtain ⟨c1, c2, c3⟩ := c i (by omega)
            rw [c1, c2, c3, ei]
            exact ⟨hn.2.2, hn.2.1, u, by rw [hb, eu]; simp, hn.1⟩
          · obtain ⟨d1, d2, v, d3, d4⟩ := d i (by omega) i2
            exact ⟨d1, d2, v, by rw [hb, d3, eu]; simp, d4⟩
        · rw [hb, eu] at hv
          simp only [Bool.not_false, Bool.true_and, Bool.or_eq_true, beq_iff_eq] at hv
          rcases hv with rfl | hv
          · exact ⟨T 6 1, Nat.le_refl _, by omega, (c _ (by omega)).1.trans hn.1⟩
          · obtain ⟨i, i1, i2, i3⟩ := e v hv hn'
            exact ⟨i, by omega, i2, i3⟩
theorem hall_at {D : zD} {m v : Nat} : ∀ n u, hall D m n u = true → bnf n u v = true → hd D m (key D v) = true
  | 0, u, _, h => by cases h
  | n + 1, u, ha, h => by
    have hb : bnf (n + 1) u v = (!(u == 0) && (v == u || bnf n (u / 2) v)) := rfl
    rw [hb] at h
    unfold hall at ha
    simp only [Bool.and_eq_true, Bool.not_eq_true', beq_eq_false_iff_ne, Bool.or_eq_true, beq_iff_eq] at h
    rw [if_neg h.1, Bool.and_eq_true] at ha
    rcases h.2 with rfl | h
    · exact ha.1
    · exact hall_at n (u / 2) ha.2 h
theorem hall_of {D : zD} {m : Nat} : ∀ n u, (∀ v, bnf n u v = true → hd D m (key D v) = true) → hall D m n u = true
  | 0, u, _ => rfl
  | n + 1, u, h => by
    have hb : ∀ v, bnf (n + 1) u v = (!(u == 0) && (v == u || bnf n (u / 2) v)) := fun v => rfl
    unfold hall
    by_cases u0 : u = 0
    · rw [if_pos u0]
    · rw [if_neg u0]
      have eu : (u == 0) = false := beq_eq_false_iff_ne.mpr u0
      rw [h u (by rw [hb, eu]; simp), hall_of n (u / 2) (fun v hv => h v (by rw [hb, eu, hv]; simp))]
      rfl
theorem bn_4 : ∀ l, l < 32 → ∀ v, v < 32 → (16 ≤ l ∧ bn l v = true) → (v = l ∨ bnf 4 (l / 2) v = true) := by decide +kernel
theorem bn_41 : ∀ l, l < 32 → 16 ≤ l → bnf 4 (l / 2) 1 = true := by decide +kernel
theorem mrf_not {D : zD} {m : Nat} (h : ∀ v, bnf 4 (D 0 m / 2) v = true → hd D m (key D v) = true) : mrf D m = -2 := by
  unfold mrf
  rw [if_pos (Or.inr (Or.inr (hall_of 4 _ h)))]
/-- m alone lacks keys; it is awake, and has read all there is -/
def lackm (M : zD) (m : Nat) : Prop := INV M ∧ S1 M ∧ S2 M ∧ H2 M ∧ (∀ j, j < 16 → M 1 j = 0) ∧ (∀ j, j < 16 → M 2 j = 0) ∧ (∀ j, j < 16 → M 0 j ≠ 0 → M 3 j = M 6 1) ∧ (∀ j, j < 16 → j ≠ m → ∀ v, v < 32 → bn (M 0 j) v = true → hd M j (key M v) = true) ∧ M 0 m ≠ 0 ∧ hd M m (key M 1) = false
set_option maxHeartbeats 1000000 in
theorem mend_ok {M : zD} {m : Nat} (hm : m < 16) (h : lackm M m) (h60 : M 6 0 < 200) (h61 : M 6 1 < 160) : mrf M m = nI 0 ∧ (M 6 1 < mnd m M 6 1 ∧ mnd m M 6 1 ≤ M 6 1 + 4) ∧ mnd m M 12 (M 6 1) = 0 ∧ WS (mnd m M) := by
  obtain ⟨hI, h1, h2, h4, t1, t2, t3, hp, h0, hn⟩ := h
  have hl : 16 ≤ M 0 m ∧ M 0 m < 32 := by
    rcases hI.leaf hm with q | q
    · exact absurd q h0
    · exact q
  have hr : mrf M m = nI 0 := by
    unfold mrf ful
    rw [if_neg (fun q => ?_), if_neg (by omega)]
    rcases q with q | q | q
    · exact h0 q
    · rw [t2 m hm] at q; cases q
    · rw [hall_at 4 _ q (bn_41 _ hl.2 hl.1)] at hn; cases hn
  have hIR := (hI.mnl hm hr).1
  obtain ⟨hE, ⟨b1, b2⟩, c, d, e⟩ := mnl_Q (m := m) (M := M) 4 (M 0 m / 2) M ltE.rf
  have hR : mnd m M = rda (mnl m 4 (M 0 m / 2) M) 16 := rfl
  rw [hR]
  generalize mnl m 4 (M 0 m / 2) M = R at *
  have hk := hE.key
  have r0 : R 0 = M 0 := hE.1 0 (by decide) (by decide) (by decide) (by decide)
  have r1 : R 1 = M 1 := hE.1 1 (by decide) (by decide) (by decide) (by decide)
  have r2 : R 2 = M 2 := hE.1 2 (by decide) (by decide) (by decide) (by decide)
  have r3 : R 3 = M 3 := hE.1 3 (by decide) (by decide) (by decide) (by decide)
  have r7 : R 7 = M 7 := hE.1 7 (by decide) (by decide) (by decide) (by decide)
  have r9 : R 9 = M 9 := hE.1 9 (by decide) (by decide) (by decide) (by decide)
  have r60 : R 6 0 = M 6 0 := hE.2.1 0 (by decide)
  have hc := cur_cong r0 r7 r60
  have hrd : ∀ f, f ≠ 3 → f ≠ 9 → rda R 16 f = R f := fun f a b => rda_f a b 16
  have q61 : rda R 16 6 1 = R 6 1 := congrFun (hrd 6 (by decide) (by decide)) 1
  have hleaf := h4 m hm h0
  have hlc := cur.key hI (v := M 0 m) (by omega) hl.2 (sm_of hm (bn_at _ hl.2 hl.1).1)
  have hS1 : S1 R := fun k q j hj hh => by
    rw [r0, r7]
    refine h1 k ((hc k).mp q) j hj ?_
    show (M 9 k).testBit j = true
    rw [← r9]; exact hh
  have hS2 : S2 R := fun i hi q => by
    rcases Nat.lt_or_ge i (M 6 1) with z | z
    · obtain ⟨c1, c2, -⟩ := c i z
      rw [c1] at q ⊢
      rw [c2, r7]
      obtain ⟨x, y⟩ := h2 i z ((hc _).mp q)
      exact ⟨(hc _).mpr x, y⟩
    · obtain ⟨d1, d2, v, d3, d4⟩ := d i z hi
      have hv : 1 ≤ v ∧ v ≤ M 0 m / 2 := by have := bnf_le d3; omega
      have hb := bn_up _ hl.2 hl.1 v (by omega) d3
      have hvc := cur.key hI (v := v) hv.1 (by omega) (sm_of hm hb)
      rw [d2, d4, r7, hlc.2, hvc.2]
      exact ⟨(hc _).mpr hlc.1, by omega, hb⟩
  have hlet : R 6 1 ≠ M 6 1 := fun q => by
    obtain ⟨i, i1, i2, -⟩ := e 1 (bn_41 _ hl.2 hl.1) hn
    omega
  have ham : awk R m := ⟨by rw [r0]; exact h0, by rw [r2]; exact t2 m hm⟩
  have hm2 : ∀ v, bnf 4 (M 0 m / 2) v = true → hd (rda R 16) m (key M v) = true := fun v hv => by
    by_cases q : hd M m (key M v) = true
    · refine rda_up ?_
      show (R 9 _).testBit m = true
      rw [r9]; exact q
    · have q' : hd M m (key M v) = false := by
        cases z : hd M m (key M v) with
        | false => rfl
        | true => exact absurd z q
      obtain ⟨i, i1, i2, i3⟩ := e v hv q'
      obtain ⟨-, d2, -⟩ := d i i1 i2
      rw [((rda_all 16 m).1 hm ham).1]
      unfold rdk
      rw [r3, t3 m hm h0]
      have e1 : M 6 1 + (i - M 6 1) = i := by omega
      have := rds_get (m := m) (i0 := M 6 1) (D := R) (n := R 6 1 - M 6 1) (t := i - M 6 1) (by omega) (by
        rw [e1, d2]
        refine rds_up _ ?_
        show (R 9 _).testBit m = true
        rw [r9]; exact hleaf)
      rw [e1, i3] at this
      exact this
  refine ⟨hr, ⟨by rw [q61]; omega, by rw [q61]; omega⟩, ?_, hIR.rdn 16 (Nat.le_refl _), ⟨rda_S1 hIR hS1 hS2, rda_S2 hS2, fun j hj q => ?_, rda_H2 (fun j hj q => ?_)⟩, fun j hj => ?_, fun j hj => ?_⟩
  · rw [hrd 12 (by decide) (by decide)]
    exact (d (M 6 1) (Nat.le_refl _) (by omega)).1
  · have q' : awk R j := by
      unfold awk at q ⊢
      rw [hrd 0 (by decide) (by decide), hrd 2 (by decide) (by decide)] at q
      exact q
    refine ⟨by rw [q61]; exact ((rda_all 16 j).1 hj q').2, fun v hv hb => ?_⟩
    rw [hrd 0 (by decide) (by decide), r0] at hb
    rw [key_cong (hrd 7 (by decide) (by decide)) (congrFun (hrd 6 (by decide) (by decide)) 0), hk]
    by_cases ej : j = m
    · subst ej
      rcases bn_4 _ hl.2 v hv ⟨hl.1, hb⟩ with rfl | z
      · refine rda_up ?_
        show (R 9 _).testBit j = true
        rw [r9]; exact hleaf
      · exact hm2 v z
    · refine rda_up ?_
      show (R 9 _).testBit j = true
      rw [r9]; exact hp j hj ej v hv hb
  · rw [r0] at q ⊢
    show (R 9 _).testBit j = true
    rw [r9, hk]; exact h4 j hj q
  · rw [hrd 1 (by decide) (by decide), r1]; exact t1 j hj
  · rw [hrd 2 (by decide) (by decide), r2]; exact t2 j hj
/-- in such a state nobody lacks anything -/
theorem WS.all {D : zD} (w : WS D) {m : Nat} (hm : m < 16) (h0 : D 0 m ≠ 0) : ∀ v, bnf 4 (D 0 m / 2) v = true → hd D m (key D v) = true := fun v hv => by
  obtain ⟨w1, w2, w3, w4⟩ := w
  have hl := w1.leaf hm
  have hle := bnf_le hv
  exact (w2.2.2.1 m hm ⟨h0, w4 m hm⟩).2 v (by omega) (bn_up _ (by omega) (by omega) v (by omega) hv)
theorem WS.grp {D : zD} (w : WS D) {m : Nat} (hm : m < 16) (h0 : D 0 m ≠ 0) : hd D m (key D 1) = true := by
  have hl := w.1.leaf hm
  exact w.all hm h0 1 (bn_41 _ (by omega) (by omega))
