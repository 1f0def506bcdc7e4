/-! WHAT THE MOVES OF A BATCH KEEP -/
def lfok (lf : Nat → Nat) : Prop := ∀ m, m < 16 → lf m = 0 ∨ (16 ≤ lf m ∧ lf m < 32)
def lfin (lf : Nat → Nat) : Prop := ∀ m j, m < 16 → j < 16 → lf m = lf j → lf m ≠ 0 → m = j
theorem sm_bit {lf : Nat → Nat} {v m : Nat} (hm : m < 16) : (sm lf v).testBit m = bn (lf m) v := by
  rw [dmn_bit]; simp [hm]
theorem sm_ne {lf : Nat → Nat} {v : Nat} : sm lf v ≠ 0 ↔ ∃ m, m < 16 ∧ bn (lf m) v = true := by
  constructor
  · intro h
    refine Classical.byContradiction fun hn => h (dm_zero.mpr fun m hm => ?_)
    cases hb : bn (lf m) v with
    | false => rfl
    | true => exact absurd ⟨m, hm, hb⟩ hn
  · rintro ⟨m, hm, hb⟩ h
    have := dm_zero.mp h m hm
    rw [hb] at this
    cases this
theorem bn_self {u : Nat} (h : u ≠ 0) : bn u u = true := by simp [bnf, h]
theorem bn_leaf : ∀ u, u < 32 → ∀ v, v < 32 → 16 ≤ v → (bn u v = true ↔ u = v) := by decide +kernel
theorem bn_kid : ∀ l, l < 32 → ∀ v, v < 16 → 1 ≤ v → (l = 0 ∨ 16 ≤ l) → bn l v = (bn l (2 * v) || bn l (2 * v + 1)) ∧ (bn l (2 * v) && bn l (2 * v + 1)) = false := by decide +kernel
theorem bn_half : ∀ l, l < 32 → ∀ v, v < 32 → bn l v = ((l == v && !(v == 0)) || bn (l / 2) v) := by decide +kernel
theorem pcn_or {x y z : Nat} : ∀ n, (∀ i, i < n → x.testBit i = (y.testBit i || z.testBit i) ∧ (y.testBit i && z.testBit i) = false) → pcn n x = pcn n y + pcn n z
  | 0, _ => rfl
  | n + 1, h => by
    have h1 := h n (Nat.lt_succ_self n)
    have ih := pcn_or (x := x) (y := y) (z := z) n (fun i hi => h i (Nat.lt_succ_of_lt hi))
    unfold pcn
    rw [ih, h1.1]
    have h2 := h1.2
    cases hy : y.testBit n <;> cases hz : z.testBit n <;> simp [hy, hz] at h2 ⊢ <;> omega
theorem pcn_miss {x i : Nat} : ∀ n, i < n → x.testBit i = false → pcn n x < n
  | 0, h, _ => by omega
  | n + 1, h, hb => by
    have hl := pcn_le x n
    unfold pcn
    by_cases hi : i = n
    · subst hi
      rw [hb, if_neg (by decide)]
      omega
    · have := pcn_miss (x := x) n (by omega) hb
      split <;> omega
theorem pcn_zero {x : Nat} : ∀ n, pcn n x = 0 → ∀ i, i < n → x.testBit i = false
  | 0, _, i, h => by omega
  | n + 1, hz, i, h => by
    unfold pcn at hz
    by_cases hi : i = n
    · subst hi
      cases hb : x.testBit i with
      | false => rfl
      | true => rw [hb, if_pos rfl] at hz; omega
    · exact pcn_zero n (by omega) i (by omega)
theorem pcn_cong {x y : Nat} : ∀ n, (∀ i, i < n → x.testBit i = y.testBit i) → pcn n x = pcn n y
  | 0, _ => rfl
  | n + 1, h => by
    unfold pcn
    rw [h n (Nat.lt_succ_self n), pcn_cong n (fun i hi => h i (Nat.lt_succ_of_lt hi))]
theorem pcn_sub {x y : Nat} : ∀ n, (∀ i, i < n → x.testBit i = true → y.testBit i = true) → pcn n x ≤ pcn n y
  | 0, _ => Nat.le_refl _
  | n + 1, h => by
    have ih := pcn_sub (x := x) (y := y) n (fun i hi => h i (Nat.lt_succ_of_lt hi))
    have h1 := h n (Nat.lt_succ_self n)
    unfold pcn
    cases hx : x.testBit n with
    | false => rw [if_neg (by decide)]; omega
    | true => rw [h1 hx]; omega
theorem pcn_subL {x y j : Nat} : ∀ n, (∀ i, i < n → x.testBit i = true → y.testBit i = true) → j < n → x.testBit j = false → y.testBit j = true → pcn n x < pcn n y
  | 0, _, h, _, _ => by omega
  | n + 1, h, hj, h0, h1 => by
    have hs := pcn_sub (x := x) (y := y) n (fun i hi => h i (Nat.lt_succ_of_lt hi))
    have hn := h n (Nat.lt_succ_self n)
    unfold pcn
    by_cases e : j = n
    · subst e
      rw [h0, h1, if_neg (by decide), if_pos rfl]
      omega
    · have ih := pcn_subL (x := x) (y := y) n (fun i hi => h i (Nat.lt_succ_of_lt hi)) (by omega) h0 h1
      cases hx : x.testBit n with
      | false => rw [if_neg (by decide)]; omega
      | true => rw [hn hx]; omega
theorem lfok.lt {lf : Nat → Nat} (h : lfok lf) {m : Nat} (hm : m < 16) : lf m < 32 := by rcases h m hm with h | h <;> omega
theorem pcn_kids {lf : Nat → Nat} (h : lfok lf) {v : Nat} (h1 : 1 ≤ v) (h2 : v < 16) : pcn 16 (sm lf v) = pcn 16 (sm lf (2 * v)) + pcn 16 (sm lf (2 * v + 1)) := by
  refine pcn_or 16 fun i hi => ?_
  rw [sm_bit hi, sm_bit hi, sm_bit hi]
  exact bn_kid _ (h.lt hi) v h2 h1 ((h i hi).imp id (fun q => q.1))
theorem emd_free {lf : Nat → Nat} (h : lfok lf) : ∀ n u, 16 ≤ u * 2 ^ n → u * 2 ^ n + 2 ^ n ≤ 32 → pcn 16 (sm lf u) < 2 ^ n → pcn 16 (sm lf (emd lf n u)) = 0
  | 0, u, _, _, h3 => by
    simp only [Nat.pow_zero] at h3
    show pcn 16 (sm lf u) = 0
    omega
  | n + 1, u, h1, h2, h3 => by
    rw [Nat.pow_succ] at h1 h2 h3
    have hp : 1 ≤ 2 ^ n := Nat.one_le_two_pow
    have e1 : (2 * u) * 2 ^ n = u * (2 ^ n * 2) := by rw [Nat.mul_comm 2 u, Nat.mul_assoc, Nat.mul_comm 2]
    have e2 : (2 * u + 1) * 2 ^ n = u * (2 ^ n * 2) + 2 ^ n := by rw [Nat.add_mul, e1, Nat.one_mul]
    have hu1 : 1 ≤ u := by
      rcases Nat.eq_zero_or_pos u with hz | hz
      · subst hz; omega
      · exact hz
    have hu2 : u < 16 := by
      have h4 : 2 * u ≤ (2 * u) * 2 ^ n := Nat.le_mul_of_pos_right _ hp
      omega
    have hk := pcn_kids h hu1 hu2
    unfold emd
    split
    · exact emd_free h n (2 * u + 1) (by rw [e2]; omega) (by rw [e2]; omega) (by omega)
    · exact emd_free h n (2 * u) (by rw [e1]; omega) (by rw [e1]; omega) (by omega)
theorem emp_free {lf : Nat → Nat} (h : lfok lf) {m0 : Nat} (hm0 : m0 < 16) (h0 : lf m0 = 0) : ∀ m, m < 16 → lf m ≠ emp lf := by
  have h1 : pcn 16 (sm lf 1) < 16 := pcn_miss (i := m0) 16 hm0 (by rw [sm_bit hm0, h0]; rfl)
  have h2 := emd_free h 4 1 (by decide) (by decide) h1
  intro m hm e
  have h3 := pcn_zero 16 h2 m hm
  have h4 := emp_in lf
  rw [sm_bit hm, e, bn_self (by omega)] at h3
  cases h3
/-- the leaf for one that comes is free -/
theorem nlf_free {lf : Nat → Nat} {fr : Nat → Bool} (h : lfok lf) (hfr : ∀ j, fr j = true → ∀ m, m < 16 → lf m ≠ j) {m0 : Nat} (hm0 : m0 < 16) (h0 : lf m0 = 0) : ∀ m, m < 16 → lf m ≠ nlf lf fr := by
  unfold nlf
  split
  · exact emp_free h hm0 h0
  next hz =>
    have h1 : ¬ ∀ m, m < 32 → fr m = false := fun q => hz (dmn_zero.mpr q)
    have h2 : fa_first fr 32 < 32 := by
      apply Nat.lt_of_not_le
      intro h3
      exact h1 fun m hm => fa_first_no fr 32 m (Nat.lt_of_lt_of_le hm h3)
    exact hfr _ (fa_first_yes fr 32 h2)
/-- behind the leavings of the first n members -/
theorem mvL_at (P : Nat → Bool) (lf : Nat → Nat) : ∀ n m, (mvL P lf n).1 m = if m < n ∧ P m = true then 0 else lf m := by
  intro n m
  by_cases h : m < n
  · rw [mvL_0 P lf n h]
    simp [h]
  · rw [mvL_out P lf n (by omega), if_neg (fun q => h q.1)]
theorem mvL_f (P : Nat → Bool) (lf : Nat → Nat) : ∀ n j, (mvL P lf n).2.1 j = true ↔ ∃ m, m < n ∧ P m = true ∧ lf m = j
  | 0, j => by simp [mvL]
  | n + 1, j => by
    have ih := mvL_f P lf n j
    unfold mvL stL
    split
    next hp =>
      simp only [Bool.or_eq_true, beq_iff_eq, ih, mvL_out P lf n (Nat.le_refl n)]
      constructor
      · rintro (⟨m, h1, h2, h3⟩ | h)
        · exact ⟨m, by omega, h2, h3⟩
        · exact ⟨n, by omega, hp, h.symm⟩
      · rintro ⟨m, h1, h2, h3⟩
        by_cases e : m = n
        · subst e; exact Or.inr h3.symm
        · exact Or.inl ⟨m, by omega, h2, h3⟩
    next hp =>
      rw [ih]
      constructor
      · rintro ⟨m, h1, h2, h3⟩
        exact ⟨m, by omega, h2, h3⟩
      · rintro ⟨m, h1, h2, h3⟩
        have e : m ≠ n := fun e => hp (e ▸ h2)
        exact ⟨m, by omega, h2, h3⟩
theorem mvL_c (P : Nat → Bool) (lf : Nat → Nat) : ∀ n v, (mvL P lf n).2.2.testBit v = true ↔ ∃ m, m < n ∧ P m = true ∧ bn (lf m / 2) v = true
  | 0, v => by simp [mvL]
  | n + 1, v => by
    have ih := mvL_c P lf n v
    unfold mvL stL
    split
    next hp =>
      simp only [Nat.testBit_or, Bool.or_eq_true, ih, mvL_out P lf n (Nat.le_refl n), pth_bit]
      constructor
      · rintro (⟨m, h1, h2, h3⟩ | h)
        · exact ⟨m, by omega, h2, h3⟩
        · exact ⟨n, by omega, hp, h⟩
      · rintro ⟨m, h1, h2, h3⟩
        by_cases e : m = n
        · subst e; exact Or.inr h3
        · exact Or.inl ⟨m, by omega, h2, h3⟩
    next hp =>
      rw [ih]
      constructor
      · rintro ⟨m, h1, h2, h3⟩
        exact ⟨m, by omega, h2, h3⟩
      · rintro ⟨m, h1, h2, h3⟩
        have e : m ≠ n := fun e => hp (e ▸ h2)
        exact ⟨m, by omega, h2, h3⟩
/-- what holds while they come -/
def mvI (K : Nat → Bool) (x0 : zM3) (n : Nat) (x : zM3) : Prop :=
  lfok x.1 ∧ lfin x.1 ∧ (∀ j, x.2.1 j = true → 16 ≤ j ∧ (∀ m, m < 16 → x.1 m ≠ j)) ∧
  (∀ m, m < 16 → if m < n ∧ K m = true then 16 ≤ x.1 m else x.1 m = x0.1 m) ∧
  (∀ v, x.2.2.testBit v = true ↔ x0.2.2.testBit v = true ∨ ∃ m, m < n ∧ K m = true ∧ bn (x.1 m) v = true)
theorem mvC_I {K : Nat → Bool} {x0 : zM3} (h0 : mvI K x0 0 x0) (hK : ∀ m, m < 16 → K m = true → x0.1 m = 0) : ∀ n, n ≤ 16 → mvI K x0 n (mvC K x0 n)
  | 0, _ => h0
  | n + 1, hn => by
    obtain ⟨i1, i2, i3, i4, i5⟩ := mvC_I h0 hK n (by omega)
    unfold mvC stC
    split
    next hp =>
      generalize mvC K x0 n = x at *
      have hx0 : x.1 n = 0 := by
        have := i4 n (by omega)
        rw [if_neg (by omega)] at this
        rw [this]; exact hK n (by omega) hp
      have hin := nlf_in (lf := x.1) (fr := x.2.1) (fun j _ hj => (i3 j hj).1)
      have hfree := nlf_free i1 (fun j hj => (i3 j hj).2) (show n < 16 by omega) hx0
      generalize nlf x.1 x.2.1 = l at *
      refine ⟨fun m hm => ?_, fun m j hm hj e hz => ?_, fun j hj => ?_, fun m hm => ?_, fun v => ?_⟩
      · show fup x.1 n l m = 0 ∨ (16 ≤ fup x.1 n l m ∧ fup x.1 n l m < 32)
        by_cases e : m = n
        · subst e; rw [fup_at]; exact Or.inr hin
        · rw [fup_ne _ _ e]; exact i1 m hm
      · replace e : fup x.1 n l m = fup x.1 n l j := e
        replace hz : fup x.1 n l m ≠ 0 := hz
        by_cases e1 : m = n
        · by_cases e2 : j = n
          · omega
          · subst e1
            rw [fup_at, fup_ne _ _ e2] at e
            exact absurd e.symm (hfree j hj)
        · by_cases e2 : j = n
          · subst e2
            rw [fup_at, fup_ne _ _ e1] at e
            exact absurd e (hfree m hm)
          · rw [fup_ne _ _ e1] at e hz
            rw [fup_ne _ _ e2] at e
            exact i2 m j hm hj e hz
      · simp only [Bool.and_eq_true, Bool.not_eq_true', beq_eq_false_iff_ne] at hj
        refine ⟨(i3 j hj.1).1, fun m hm => ?_⟩
        show fup x.1 n l m ≠ j
        by_cases e1 : m = n
        · subst e1; rw [fup_at]; exact fun q => hj.2 q.symm
        · rw [fup_ne _ _ e1]; exact (i3 j hj.1).2 m hm
      · have h4 := i4 m hm
        show if _ then 16 ≤ fup x.1 n l m else fup x.1 n l m = _
        by_cases e1 : m = n
        · subst e1
          rw [if_pos ⟨by omega, hp⟩, fup_at]; exact hin.1
        · rw [fup_ne _ _ e1]
          by_cases c : m < n ∧ K m = true
          · rw [if_pos c] at h4
            rw [if_pos ⟨by omega, c.2⟩]; exact h4
          · rw [if_neg c] at h4
            rw [if_neg (fun q => c ⟨by omega, q.2⟩)]; exact h4
      · simp only [Nat.testBit_or, Bool.or_eq_true, i5 v, pth_bit]
        constructor
        · rintro ((h | ⟨m, h1, h2, h3⟩) | h)
          · exact Or.inl h
          · refine Or.inr ⟨m, by omega, h2, ?_⟩
            rw [fup_ne _ _ (by omega)]; exact h3
          · refine Or.inr ⟨n, by omega, hp, ?_⟩
            rw [fup_at]; exact h
        · rintro (h | ⟨m, h1, h2, h3⟩)
          · exact Or.inl (Or.inl h)
          · by_cases e1 : m = n
            · subst e1
              rw [fup_at] at h3
              exact Or.inr h3
            · rw [fup_ne _ _ e1] at h3
              exact Or.inl (Or.inr ⟨m, by omega, h2, h3⟩)
    next hp =>
      refine ⟨i1, i2, i3, fun m hm => ?_, fun v => ?_⟩
      · have h4 := i4 m hm
        by_cases c : m < n ∧ K m = true
        · rw [if_pos c] at h4
          rw [if_pos ⟨by omega, c.2⟩]; exact h4
        · rw [if_neg c] at h4
          rw [if_neg (fun q => c ⟨?_, q.2⟩)]
          · exact h4
          · have : m ≠ n := fun e => hp (e ▸ q.2)
            omega
      · rw [i5 v]
        constructor
        · rintro (h | ⟨m, h1, h2, h3⟩)
          · exact Or.inl h
          · exact Or.inr ⟨m, by omega, h2, h3⟩
        · rintro (h | ⟨m, h1, h2, h3⟩)
          · exact Or.inl h
          · have e : m ≠ n := fun e => hp (e ▸ h2)
            exact Or.inr ⟨m, by omega, h2, h3⟩
/-- behind all leavings -/
theorem mvL_I {L K : Nat → Bool} {lf : Nat → Nat} (hk : lfok lf) (hi : lfin lf) (hL : ∀ m, m < 16 → L m = true → 16 ≤ lf m) : mvI K (mvL L lf 16) 0 (mvL L lf 16) := by
  refine ⟨fun m hm => ?_, fun m j hm hj e hz => ?_, fun j hj => ?_, fun m hm => ?_, fun v => ?_⟩
  · rw [mvL_at]
    split
    · exact Or.inl rfl
    · exact hk m hm
  · rw [mvL_at] at e hz
    rw [mvL_at] at e
    split at e
    next c => rw [if_pos c] at hz; exact absurd rfl hz
    next c =>
      rw [if_neg c] at hz
      split at e
      · exact absurd e hz
      · exact hi m j hm hj e hz
  · obtain ⟨m, h1, h2, h3⟩ := (mvL_f L lf 16 j).mp hj
    have h4 := hL m h1 h2
    refine ⟨by omega, fun q hq e => ?_⟩
    rw [mvL_at] at e
    split at e
    · omega
    next c =>
      have e2 : q = m := hi q m hq h1 (by omega) (by omega)
      subst e2
      exact c ⟨h1, h2⟩
  · rw [if_neg (by omega)]
  · constructor
    · exact Or.inl
    · rintro (h | ⟨m, h1, -⟩)
      · exact h
      · omega
/-- what a batch's moves come to -/
def mvF (lf : Nat → Nat) (L K : Nat → Bool) (x : zM3) : Prop :=
  lfok x.1 ∧ lfin x.1 ∧ (∀ m, m < 16 → (K m = true → 16 ≤ x.1 m) ∧ (K m = false → L m = true → x.1 m = 0) ∧ (K m = false → L m = false → x.1 m = lf m)) ∧
  (∀ v, x.2.2.testBit v = true ↔ (∃ m, m < 16 ∧ L m = true ∧ bn (lf m / 2) v = true) ∨ ∃ m, m < 16 ∧ K m = true ∧ bn (x.1 m) v = true)
theorem mv_F {L K : Nat → Bool} {lf : Nat → Nat} (hk : lfok lf) (hi : lfin lf) (hL : ∀ m, m < 16 → L m = true → 16 ≤ lf m) (hK : ∀ m, m < 16 → K m = true → lf m = 0) : mvF lf L K (mv lf L K) := by
  have hK' : ∀ m, m < 16 → K m = true → (mvL L lf 16).1 m = 0 := fun m hm h => by
    rw [mvL_at]
    split
    · rfl
    · exact hK m hm h
  obtain ⟨i1, i2, -, i4, i5⟩ := mvC_I (mvL_I (K := K) hk hi hL) hK' 16 (Nat.le_refl _)
  refine ⟨i1, i2, fun m hm => ?_, fun v => ?_⟩
  · have h4 := i4 m hm
    rw [mvL_at] at h4
    refine ⟨fun h => ?_, fun h h' => ?_, fun h h' => ?_⟩
    · rw [if_pos ⟨hm, h⟩] at h4; exact h4
    · rw [if_neg (by simp [h]), if_pos ⟨hm, h'⟩] at h4; exact h4
    · rw [if_neg (by simp [h]), if_neg (by simp [h'])] at h4; exact h4
  · show (mvC K (mvL L lf 16) 16).2.2.testBit v = true ↔ _
    rw [i5 v, mvL_c]
    rfl
/-- a node that is not changed and is live was live -/
theorem mvF.live {lf : Nat → Nat} {L K : Nat → Bool} {x : zM3} (h : mvF lf L K x) {v : Nat} (hv : sm x.1 v ≠ 0) (hc : x.2.2.testBit v = false) : sm lf v ≠ 0 := by
  obtain ⟨h1, h2, h3, h4⟩ := h
  obtain ⟨m, hm, hb⟩ := sm_ne.mp hv
  refine sm_ne.mpr ⟨m, hm, ?_⟩
  obtain ⟨a, b, c⟩ := h3 m hm
  cases hK : K m with
  | true =>
    have := (h4 v).mpr (Or.inr ⟨m, hm, hK, hb⟩)
    rw [hc] at this; cases this
  | false =>
    cases hL : L m with
    | true =>
      rw [b hK hL] at hb
      rw [show bn 0 v = false from bnf_0 5 v] at hb; cases hb
    | false => rw [← c hK hL]; exact hb
/-- at a leaf that is changed sits one that came, and nobody else -/
theorem mvF.leaf {lf : Nat → Nat} {L K : Nat → Bool} {x : zM3} (h : mvF lf L K x) (hl : ∀ m, m < 16 → lf m < 32) {v : Nat} (h16 : 16 ≤ v) (h32 : v < 32) (hc : x.2.2.testBit v = true) : (∃ m, m < 16 ∧ K m = true ∧ x.1 m = v) ∧ ∀ j, j < 16 → x.1 j = v → K j = true := by
  obtain ⟨h1, h2, h3, h4⟩ := h
  rcases (h4 v).mp hc with ⟨m, hm, hL, hb⟩ | ⟨m, hm, hK, hb⟩
  · have := bnf_le hb
    have := hl m hm
    omega
  · have e := (bn_leaf _ (h1.lt hm) v h32 h16).mp hb
    refine ⟨⟨m, hm, hK, e⟩, fun j hj ej => ?_⟩
    have := h2 j m hj hm (by omega) (by omega)
    rw [this]; exact hK
theorem mvF.node {lf : Nat → Nat} {L K : Nat → Bool} {x : zM3} (h : mvF lf L K x) {m v : Nat} (hm : m < 16) (hK : K m = true) (hb : bn (x.1 m) v = true) : x.2.2.testBit v = true := (h.2.2.2 v).mpr (Or.inr ⟨m, hm, hK, hb⟩)
