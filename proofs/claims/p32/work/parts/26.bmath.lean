/-! WHAT A BATCH DOES TO THE DOCUMENT'S STATE -/
theorem kadd_f {D : zD} {v h f : Nat} (h6 : f ≠ 6) (h7 : f ≠ 7) (h8 : f ≠ 8) (h9 : f ≠ 9) : kadd D v h f = D f := by
  unfold kadd
  rw [dset_ff _ _ _ h6, dset_ff _ _ _ h9, dset_ff _ _ _ h8, dset_ff _ _ _ h7]
theorem kadd_60 {D : zD} {v h : Nat} : kadd D v h 6 0 = D 6 0 + 1 := by unfold kadd; rw [dset_at]
theorem kadd_6 {D : zD} {v h k : Nat} (hk : k ≠ 0) : kadd D v h 6 k = D 6 k := by
  unfold kadd
  rw [dset_k _ _ _ hk, dset_f _ _ _ _ (by decide), dset_f _ _ _ _ (by decide), dset_f _ _ _ _ (by decide)]
theorem kadd_7n {D : zD} {v h : Nat} : kadd D v h 7 (D 6 0) = v := by
  unfold kadd
  rw [dset_f _ _ _ _ (by decide), dset_f _ _ _ _ (by decide), dset_f _ _ _ _ (by decide), dset_at]
theorem kadd_7 {D : zD} {v h k : Nat} (hk : k ≠ D 6 0) : kadd D v h 7 k = D 7 k := by
  unfold kadd
  rw [dset_f _ _ _ _ (by decide), dset_f _ _ _ _ (by decide), dset_f _ _ _ _ (by decide), dset_k _ _ _ hk]
theorem kadd_8n {D : zD} {v h : Nat} : kadd D v h 8 (D 6 0) = D 6 2 := by
  unfold kadd
  rw [dset_f _ _ _ _ (by decide), dset_f _ _ _ _ (by decide), dset_at]
theorem kadd_8 {D : zD} {v h k : Nat} (hk : k ≠ D 6 0) : kadd D v h 8 k = D 8 k := by
  unfold kadd
  rw [dset_f _ _ _ _ (by decide), dset_f _ _ _ _ (by decide), dset_k _ _ _ hk, dset_f _ _ _ _ (by decide)]
theorem kadd_9n {D : zD} {v h : Nat} : kadd D v h 9 (D 6 0) = h := by
  unfold kadd
  rw [dset_f _ _ _ _ (by decide), dset_at]
theorem kadd_9 {D : zD} {v h k : Nat} (hk : k ≠ D 6 0) : kadd D v h 9 k = D 9 k := by
  unfold kadd
  rw [dset_f _ _ _ _ (by decide), dset_k _ _ _ hk, dset_f _ _ _ _ (by decide), dset_f _ _ _ _ (by decide)]
theorem lastk_low {D D' : zD} {v : Nat} : ∀ n, (∀ k, k < n → D' 7 k = D 7 k) → lastk D' v n = lastk D v n
  | 0, _ => rfl
  | n + 1, h => by
    unfold lastk
    rw [h n (Nat.lt_succ_self n), lastk_low n (fun k hk => h k (Nat.lt_succ_of_lt hk))]
theorem kadd_key {D : zD} {v h : Nat} : key (kadd D v h) v = D 6 0 := by
  show lastk (kadd D v h) v (kadd D v h 6 0) = _
  rw [kadd_60]
  unfold lastk
  rw [if_pos kadd_7n]
theorem kadd_key' {D : zD} {v h w : Nat} (hw : w ≠ v) : key (kadd D v h) w = key D w := by
  show lastk (kadd D v h) w (kadd D v h 6 0) = lastk D w (D 6 0)
  rw [kadd_60]
  have e : lastk (kadd D v h) w (D 6 0 + 1) = lastk (kadd D v h) w (D 6 0) := by
    show (if kadd D v h 7 (D 6 0) = w then _ else _) = _
    rw [if_neg (by rw [kadd_7n]; exact fun q => hw q.symm)]
  rw [e]
  exact lastk_low _ (fun k hk => kadd_7 (by omega))
theorem rnh_f {h lf : Nat → Nat} {ch : Nat} {D : zD} {f : Nat} (h6 : f ≠ 6) (h7 : f ≠ 7) (h8 : f ≠ 8) (h9 : f ≠ 9) : ∀ t, rnh h lf ch D t f = D f
  | 0 => rfl
  | t + 1 => by
    unfold rnh
    split
    · rw [kadd_f h6 h7 h8 h9, rnh_f h6 h7 h8 h9 t]
    · exact rnh_f h6 h7 h8 h9 t
theorem rnh_6 {h lf : Nat → Nat} {ch : Nat} {D : zD} {k : Nat} (hk : k ≠ 0) : ∀ t, rnh h lf ch D t 6 k = D 6 k
  | 0 => rfl
  | t + 1 => by
    unfold rnh
    split
    · rw [kadd_6 hk, rnh_6 hk t]
    · exact rnh_6 hk t
/-- the keys behind t nodes -/
def rnI (h lf : Nat → Nat) (ch : Nat) (D R : zD) (t : Nat) : Prop :=
  (D 6 0 ≤ R 6 0 ∧ R 6 0 ≤ D 6 0 + t) ∧
  (∀ k, k < D 6 0 → R 7 k = D 7 k ∧ R 8 k = D 8 k ∧ R 9 k = D 9 k) ∧
  (∀ k, D 6 0 ≤ k → k < R 6 0 → 32 ≤ R 7 k + t ∧ R 7 k < 32 ∧ ch.testBit (R 7 k) = true ∧ sm lf (R 7 k) ≠ 0 ∧ R 8 k = D 6 2 ∧ R 9 k = h (R 7 k)) ∧
  (∀ j k, D 6 0 ≤ j → j < R 6 0 → D 6 0 ≤ k → k < R 6 0 → R 7 j = R 7 k → j = k) ∧
  (∀ v, 32 ≤ v + t → v < 32 → sm lf v ≠ 0 → ch.testBit v = true → ∃ k, D 6 0 ≤ k ∧ k < R 6 0 ∧ R 7 k = v)
theorem rnh_I {h lf : Nat → Nat} {ch : Nat} {D : zD} : ∀ t, t ≤ 31 → rnI h lf ch D (rnh h lf ch D t) t
  | 0, _ => ⟨⟨Nat.le_refl _, Nat.le_refl _⟩, fun k hk => ⟨rfl, rfl, rfl⟩, fun k h1 h2 => absurd h2 (Nat.not_lt.mpr h1), fun j k h1 h2 => absurd h2 (Nat.not_lt.mpr h1), fun v h1 h2 => by omega⟩
  | t + 1, ht => by
    obtain ⟨⟨a1, a2⟩, b, c, d, e⟩ := rnh_I (h := h) (lf := lf) (ch := ch) (D := D) t (by omega)
    have h62 := rnh_6 (h := h) (lf := lf) (ch := ch) (D := D) (k := 2) (by decide) t
    unfold rnh
    split
    next hc =>
      generalize rnh h lf ch D t = R at *
      have hn : ∀ k, k < R 6 0 → kadd R (31 - t) (h (31 - t)) 7 k = R 7 k ∧ kadd R (31 - t) (h (31 - t)) 8 k = R 8 k ∧ kadd R (31 - t) (h (31 - t)) 9 k = R 9 k := fun k hk => ⟨kadd_7 (by omega), kadd_8 (by omega), kadd_9 (by omega)⟩
      refine ⟨?_, fun k hk => ?_, fun k h1 h2 => ?_, fun j k h1 h2 h3 h4 he => ?_, fun v h1 h2 h3 h4 => ?_⟩
      · rw [kadd_60]; omega
      · obtain ⟨x, y, z⟩ := hn k (by omega)
        rw [x, y, z]; exact b k hk
      · rw [kadd_60] at h2
        by_cases hk : k = R 6 0
        · subst hk
          rw [kadd_7n, kadd_8n, kadd_9n]
          exact ⟨by omega, by omega, hc.2, hc.1, h62, rfl⟩
        · obtain ⟨x, y, z⟩ := hn k (by omega)
          rw [x, y, z]
          obtain ⟨q1, q2⟩ := c k h1 (by omega)
          exact ⟨by omega, q2⟩
      · rw [kadd_60] at h2 h4
        by_cases hj : j = R 6 0
        · by_cases hk : k = R 6 0
          · omega
          · subst hj
            rw [kadd_7n, (hn k (by omega)).1] at he
            have := (c k h3 (by omega)).1
            omega
        · by_cases hk : k = R 6 0
          · subst hk
            rw [kadd_7n, (hn j (by omega)).1] at he
            have := (c j h1 (by omega)).1
            omega
          · rw [(hn j (by omega)).1, (hn k (by omega)).1] at he
            exact d j k h1 (by omega) h3 (by omega) he
      · rw [kadd_60]
        by_cases hv : v = 31 - t
        · exact ⟨R 6 0, a1, by omega, by rw [kadd_7n, hv]⟩
        · obtain ⟨k, k1, k2, k3⟩ := e v (by omega) h2 h3 h4
          exact ⟨k, k1, by omega, by rw [(hn k k2).1, k3]⟩
    next hc =>
      refine ⟨⟨a1, by omega⟩, b, fun k h1 h2 => ?_, d, fun v h1 h2 h3 h4 => ?_⟩
      · obtain ⟨q1, q2⟩ := c k h1 h2
        exact ⟨by omega, q2⟩
      · have hv : v ≠ 31 - t := fun q => hc ⟨by rw [← q]; exact h3, by rw [← q]; exact h4⟩
        exact e v (by omega) h2 h3 h4
/-- a node not reached yet has its old key -/
theorem rnh_key {h lf : Nat → Nat} {ch : Nat} {D : zD} {v : Nat} : ∀ t, v + t ≤ 31 → key (rnh h lf ch D t) v = key D v
  | 0, _ => rfl
  | t + 1, ht => by
    unfold rnh
    split
    · rw [kadd_key' (by omega), rnh_key t (by omega)]
    · exact rnh_key t (by omega)
theorem lastk_is {D : zD} {v k : Nat} : ∀ n, k < n → D 7 k = v → (∀ j, k < j → j < n → D 7 j ≠ v) → lastk D v n = k
  | 0, h, _, _ => by omega
  | n + 1, h, h7, hu => by
    unfold lastk
    by_cases e : k = n
    · subst e; rw [if_pos h7]
    · rw [if_neg (hu n (by omega) (Nat.lt_succ_self n))]
      exact lastk_is n (by omega) h7 (fun j h1 h2 => hu j h1 (by omega))
/-- the new key of a changed node -/
theorem rnI.key {h lf : Nat → Nat} {ch : Nat} {D R : zD} {t : Nat} (hI : rnI h lf ch D R t) {k : Nat} (h1 : D 6 0 ≤ k) (h2 : k < R 6 0) : key R (R 7 k) = k := by
  obtain ⟨-, -, -, d, -⟩ := hI
  exact lastk_is _ h2 rfl (fun j h3 h4 e => by have := d j k (by omega) h4 h1 h2 e; omega)
/-- letters -/
theorem ladd_f {D : zD} {a b c f : Nat} (h6 : f ≠ 6) (h7 : f ≠ 10) (h8 : f ≠ 11) (h9 : f ≠ 12) : ladd D a b c f = D f := by
  unfold ladd
  rw [dset_ff _ _ _ h6, dset_ff _ _ _ h9, dset_ff _ _ _ h8, dset_ff _ _ _ h7]
theorem ladd_61 {D : zD} {a b c : Nat} : ladd D a b c 6 1 = D 6 1 + 1 := by unfold ladd; rw [dset_at]
theorem ladd_6 {D : zD} {a b c k : Nat} (hk : k ≠ 1) : ladd D a b c 6 k = D 6 k := by
  unfold ladd
  rw [dset_k _ _ _ hk, dset_f _ _ _ _ (by decide), dset_f _ _ _ _ (by decide), dset_f _ _ _ _ (by decide)]
theorem ladd_n {D : zD} {a b c : Nat} : ladd D a b c 10 (D 6 1) = a ∧ ladd D a b c 11 (D 6 1) = b ∧ ladd D a b c 12 (D 6 1) = c := by
  unfold ladd
  refine ⟨?_, ?_, ?_⟩
  · rw [dset_f _ _ _ _ (by decide), dset_f _ _ _ _ (by decide), dset_f _ _ _ _ (by decide), dset_at]
  · rw [dset_f _ _ _ _ (by decide), dset_f _ _ _ _ (by decide), dset_at]
  · rw [dset_f _ _ _ _ (by decide), dset_at]
theorem ladd_o {D : zD} {a b c i : Nat} (hi : i ≠ D 6 1) : ladd D a b c 10 i = D 10 i ∧ ladd D a b c 11 i = D 11 i ∧ ladd D a b c 12 i = D 12 i := by
  unfold ladd
  refine ⟨?_, ?_, ?_⟩
  · rw [dset_f _ _ _ _ (by decide), dset_f _ _ _ _ (by decide), dset_f _ _ _ _ (by decide), dset_k _ _ _ hi]
  · rw [dset_f _ _ _ _ (by decide), dset_f _ _ _ _ (by decide), dset_k _ _ _ hi, dset_f _ _ _ _ (by decide)]
  · rw [dset_f _ _ _ _ (by decide), dset_k _ _ _ hi, dset_f _ _ _ _ (by decide), dset_f _ _ _ _ (by decide)]
/-- only letters are new -/
def ltE (D T : zD) : Prop := (∀ f, f ≠ 6 → f ≠ 10 → f ≠ 11 → f ≠ 12 → T f = D f) ∧ (∀ k, k ≠ 1 → T 6 k = D 6 k) ∧ D 6 1 ≤ T 6 1 ∧ ∀ i, i < D 6 1 → T 10 i = D 10 i ∧ T 11 i = D 11 i ∧ T 12 i = D 12 i
theorem ltE.rf {D : zD} : ltE D D := ⟨fun _ _ _ _ _ => rfl, fun _ _ => rfl, Nat.le_refl _, fun _ _ => ⟨rfl, rfl, rfl⟩⟩
theorem ltE.add {D T : zD} (h : ltE D T) (a b c : Nat) : ltE D (ladd T a b c) := by
  obtain ⟨h1, h2, h3, h4⟩ := h
  refine ⟨fun f q1 q2 q3 q4 => (ladd_f q1 q2 q3 q4).trans (h1 f q1 q2 q3 q4), fun k hk => (ladd_6 hk).trans (h2 k hk), by rw [ladd_61]; omega, fun i hi => ?_⟩
  obtain ⟨x, y, z⟩ := ladd_o (D := T) (a := a) (b := b) (c := c) (show i ≠ T 6 1 by omega)
  rw [x, y, z]; exact h4 i hi
theorem ltE.key {D T : zD} (h : ltE D T) (v : Nat) : key T v = key D v := key_cong (h.1 7 (by decide) (by decide) (by decide) (by decide)) (h.2.1 0 (by decide)) v
theorem ltE.tl {D T : zD} (h : ltE D T) (lf : Nat → Nat) (v w : Nat) : ltE D (tl1 lf T v w) := by
  unfold tl1
  split
  · exact h
  · exact h.add _ _ _
theorem tl_E {lf : Nat → Nat} {ch : Nat} {D : zD} : ∀ t, ltE D (tl lf ch D t)
  | 0 => ltE.rf
  | t + 1 => by
    unfold tl
    split
    · exact ((tl_E t).tl lf _ _).tl lf _ _
    · exact tl_E t
theorem tl1_n {lf : Nat → Nat} {T : zD} {v w : Nat} : tl1 lf T v w 6 1 ≤ T 6 1 + 1 := by
  unfold tl1
  split
  · omega
  · rw [ladd_61]; exact Nat.le_refl _
theorem tl_n {lf : Nat → Nat} {ch : Nat} {D : zD} : ∀ t, tl lf ch D t 6 1 ≤ D 6 1 + 2 * t
  | 0 => Nat.le_refl _
  | t + 1 => by
    have ih := tl_n (lf := lf) (ch := ch) (D := D) t
    unfold tl
    split
    · have h1 := tl1_n (lf := lf) (T := tl lf ch D t) (v := 15 - t) (w := 2 * (15 - t))
      have h2 := tl1_n (lf := lf) (T := tl1 lf (tl lf ch D t) (15 - t) (2 * (15 - t))) (v := 15 - t) (w := 2 * (15 - t) + 1)
      omega
    · omega
/-- the new letters; P: the nodes for which there is none yet -/
def tlI (lf : Nat → Nat) (ch : Nat) (D T : zD) (P : Nat → Prop) : Prop :=
  ltE D T ∧ (∀ i, D 6 1 ≤ i → i < T 6 1 → ¬ P (D 7 (T 11 i)) ∧ 2 ≤ D 7 (T 11 i) ∧ D 7 (T 11 i) < 32 ∧ sm lf (D 7 (T 11 i)) ≠ 0 ∧ ch.testBit (D 7 (T 11 i) / 2) = true ∧ T 11 i = key D (D 7 (T 11 i)) ∧ T 10 i = key D (D 7 (T 11 i) / 2) ∧ T 12 i = D 6 2 + 1) ∧
  (∀ i j, D 6 1 ≤ i → i < T 6 1 → D 6 1 ≤ j → j < T 6 1 → D 7 (T 11 i) = D 7 (T 11 j) → i = j)
theorem tlI.weak {lf : Nat → Nat} {ch : Nat} {D T : zD} {P P' : Nat → Prop} (h : tlI lf ch D T P) (hp : ∀ x, P' x → P x) : tlI lf ch D T P' :=
  ⟨h.1, fun i h1 h2 => ⟨fun q => (h.2.1 i h1 h2).1 (hp _ q), (h.2.1 i h1 h2).2⟩, h.2.2⟩
theorem tlI.step {lf : Nat → Nat} {ch : Nat} {D T : zD} {P : Nat → Prop} (h : tlI lf ch D T P) (hk : ∀ w, 1 ≤ w → w < 32 → sm lf w ≠ 0 → D 7 (key D w) = w) {v w : Nat} (hp : P w) (h2 : 2 ≤ w) (h3 : w < 32) (hv : v = w / 2) (hc : ch.testBit v = true) : tlI lf ch D (tl1 lf T v w) (fun x => P x ∧ x ≠ w) := by
  subst hv
  unfold tl1
  split
  · exact h.weak (fun x q => q.1)
  next hs =>
    obtain ⟨a, b, c⟩ := h
    have e1 := a.key (w / 2)
    have e2 := a.key w
    have e3 := a.2.1 2 (by decide)
    have e4 := hk w (by omega) h3 hs
    rw [e1, e2, e3]
    refine ⟨a.add _ _ _, fun i h1 h4 => ?_, fun i j h1 h4 h5 h6 he => ?_⟩
    · rw [ladd_61] at h4
      by_cases hi : i = T 6 1
      · subst hi
        obtain ⟨x, y, z⟩ := ladd_n (D := T) (a := key D (w / 2)) (b := key D w) (c := D 6 2 + 1)
        rw [x, y, z, e4]
        exact ⟨fun q => q.2 rfl, h2, h3, hs, hc, rfl, rfl, rfl⟩
      · obtain ⟨x, y, z⟩ := ladd_o (D := T) (a := key D (w / 2)) (b := key D w) (c := D 6 2 + 1) hi
        rw [x, y, z]
        obtain ⟨q1, q2⟩ := b i h1 (by omega)
        exact ⟨fun q => q1 q.1, q2⟩
    · rw [ladd_61] at h4 h6
      have hn := (ladd_n (D := T) (a := key D (w / 2)) (b := key D w) (c := D 6 2 + 1)).2.1
      by_cases hi : i = T 6 1
      · by_cases hj : j = T 6 1
        · omega
        · subst hi
          rw [hn, e4, (ladd_o hj).2.1] at he
          exact absurd (he ▸ hp) (b j h5 (by omega)).1
      · by_cases hj : j = T 6 1
        · subst hj
          rw [hn, e4, (ladd_o hi).2.1] at he
          exact absurd (he.symm ▸ hp) (b i h1 (by omega)).1
        · rw [(ladd_o hi).2.1, (ladd_o hj).2.1] at he
          exact c i j h1 (by omega) h5 (by omega) he
theorem tl_I {lf : Nat → Nat} {ch : Nat} {D : zD} (hk : ∀ w, 1 ≤ w → w < 32 → sm lf w ≠ 0 → D 7 (key D w) = w) : ∀ t, t ≤ 15 → tlI lf ch D (tl lf ch D t) (fun x => x + 2 * t < 32)
  | 0, _ => ⟨ltE.rf, fun i h1 h2 => absurd h2 (Nat.not_lt.mpr h1), fun i j h1 h2 => absurd h2 (Nat.not_lt.mpr h1)⟩
  | t + 1, ht => by
    have ih := tl_I (ch := ch) hk t (by omega)
    unfold tl
    split
    next hc =>
      have s1 := ih.step hk (v := 15 - t) (w := 2 * (15 - t)) (by omega) (by omega) (by omega) (by omega) hc
      have s2 := s1.step hk (v := 15 - t) (w := 2 * (15 - t) + 1) ⟨by omega, by omega⟩ (by omega) (by omega) (by omega) hc
      exact s2.weak (fun x q => ⟨⟨by omega, by omega⟩, by omega⟩)
    next => exact ih.weak (fun x q => by omega)
