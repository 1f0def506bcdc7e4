/-! READING: what one member holds then rests on what it held and on the letters alone -/
theorem or_pow {x m j : Nat} : (x ||| 2 ^ m).testBit j = (x.testBit j || decide (m = j)) := by rw [Nat.testBit_or, Nat.testBit_two_pow]
theorem rds_st {m i0 : Nat} {D : zD} (n j k : Nat) : hd (rds m i0 D (n + 1)).1 j k = (hd (rds m i0 D n).1 j k || (decide (m = j) && (k == D 10 (i0 + n) && hd (rds m i0 D n).1 m (D 11 (i0 + n))))) := by
  have e11 : (rds m i0 D n).1 11 = D 11 := rds_f (by decide) n
  have e10 : (rds m i0 D n).1 10 = D 10 := rds_f (by decide) n
  cases q1 : hd (rds m i0 D n).1 m (D 11 (i0 + n)) with
  | false =>
    rw [rds_no1 (by rw [e11]; exact q1)]
    simp
  | true =>
    cases q2 : hd (rds m i0 D n).1 m (D 10 (i0 + n)) with
    | true =>
      rw [rds_no2 (by rw [e10]; exact q2)]
      by_cases e : m = j
      · subst e
        by_cases e2 : k = D 10 (i0 + n)
        · rw [e2, q2]; rfl
        · have : (k == D 10 (i0 + n)) = false := beq_eq_false_iff_ne.mpr e2
          rw [this]; simp
      · rw [decide_eq_false e]; simp
    | false =>
      rw [rds_yes (by rw [e11]; exact q1) (by rw [e10]; exact q2)]
      rw [e10]
      show (dset (rds m i0 D n).1 9 (D 10 (i0 + n)) ((rds m i0 D n).1 9 (D 10 (i0 + n)) ||| 2 ^ m) 9 k).testBit j = _
      by_cases e2 : k = D 10 (i0 + n)
      · rw [e2, dset_at, or_pow]
        simp
      · rw [dset_k _ _ _ e2]
        have : (k == D 10 (i0 + n)) = false := beq_eq_false_iff_ne.mpr e2
        rw [this]; simp
theorem rds_oth {m i0 : Nat} {D : zD} {j : Nat} (h : m ≠ j) : ∀ n k, hd (rds m i0 D n).1 j k = hd D j k
  | 0, _ => rfl
  | n + 1, k => by rw [rds_st, rds_oth h n k, decide_eq_false h]; simp
theorem rds_mono {m i0 : Nat} {D : zD} {j k n : Nat} : ∀ d, hd (rds m i0 D n).1 j k = true → hd (rds m i0 D (n + d)).1 j k = true
  | 0, h => h
  | d + 1, h => by
    show hd (rds m i0 D (n + d + 1)).1 j k = true
    rw [rds_st, rds_mono d h]; rfl
theorem rds_up {m i0 : Nat} {D : zD} {j k : Nat} (n : Nat) (h : hd D j k = true) : hd (rds m i0 D n).1 j k = true := by
  have := rds_mono (m := m) (i0 := i0) (D := D) (n := 0) n h
  rwa [Nat.zero_add] at this
theorem rds_get {m i0 : Nat} {D : zD} {n t : Nat} (ht : t < n) (h : hd (rds m i0 D t).1 m (D 11 (i0 + t)) = true) : hd (rds m i0 D n).1 m (D 10 (i0 + t)) = true := by
  obtain ⟨d, rfl⟩ : ∃ d, n = t + 1 + d := ⟨n - (t + 1), by omega⟩
  refine rds_mono d ?_
  rw [rds_st, h]
  simp
/-- what a member holds having read is in each set of keys that is closed under these letters -/
theorem rds_P {m i0 : Nat} {D : zD} {P : Nat → Prop} (h0 : ∀ k, hd D m k = true → P k) : ∀ n, (∀ i, i0 ≤ i → i < i0 + n → P (D 11 i) → P (D 10 i)) → ∀ k, hd (rds m i0 D n).1 m k = true → P k
  | 0, _, k, h => h0 k h
  | n + 1, hc, k, h => by
    have ih := rds_P h0 n (fun i a b => hc i a (by omega))
    rw [rds_st, Bool.or_eq_true] at h
    rcases h with h | h
    · exact ih k h
    · rw [Bool.and_eq_true, Bool.and_eq_true, beq_iff_eq] at h
      rw [h.2.1]
      exact hc (i0 + n) (by omega) (by omega) (ih _ h.2.2)
/-- it rests on its own keys and the letters alone -/
theorem rds_ind {m i0 : Nat} {D D' : zD} (e10 : D' 10 = D 10) (e11 : D' 11 = D 11) (h : ∀ k, hd D' m k = hd D m k) : ∀ n k, hd (rds m i0 D' n).1 m k = hd (rds m i0 D n).1 m k
  | 0, k => h k
  | n + 1, k => by rw [rds_st, rds_st, rds_ind e10 e11 h n, rds_ind e10 e11 h n, e10, e11]
theorem rds_ext {m i0 : Nat} {D : zD} {n : Nat} (h : ∀ i, i0 ≤ i → i < i0 + n → hd D m (D 11 i) = true → hd D m (D 10 i) = true) : ∀ k, hd (rds m i0 D n).1 m k = hd D m k := fun k => by
  cases q : hd (rds m i0 D n).1 m k with
  | true => exact (rds_P (P := fun k => hd D m k = true) (fun _ h => h) n h k q).symm
  | false =>
    cases q' : hd D m k with
    | false => rfl
    | true => rw [rds_up n q'] at q; cases q
/-- how many keys it holds more -/
theorem hby_st {D D' : zD} {m a : Nat} (hne : hd D m a = false) (h : ∀ k, hd D' m k = (hd D m k || k == a)) : ∀ N, a < N → hby D' m N = hby D m N + 1
  | 0, hN => by omega
  | N + 1, hN => by
    unfold hby
    by_cases e : a = N
    · subst e
      have : ∀ M, M ≤ a → hby D' m M = hby D m M := by
        intro M hM
        induction M with
        | zero => rfl
        | succ M ih =>
          unfold hby
          rw [ih (by omega), h M, show (M == a) = false from beq_eq_false_iff_ne.mpr (by omega), Bool.or_false]
      rw [this a (Nat.le_refl _), h a, hne]
      simp
    · rw [hby_st hne h N (by omega), h N, show (N == a) = false from beq_eq_false_iff_ne.mpr (by omega), Bool.or_false]
      omega
theorem hby_cong {D D' : zD} {m : Nat} : ∀ N, (∀ k, k < N → hd D' m k = hd D m k) → hby D' m N = hby D m N
  | 0, _ => rfl
  | N + 1, h => by unfold hby; rw [hby_cong N (fun k hk => h k (by omega)), h N (by omega)]
theorem hby_0 {D : zD} {m : Nat} : ∀ N, hby D m N = 0 ↔ ∀ k, k < N → hd D m k = false
  | 0 => ⟨fun _ k hk => by omega, fun _ => rfl⟩
  | N + 1 => by
    unfold hby
    constructor
    · intro h k hk
      by_cases e : k = N
      · subst e
        cases q : hd D m k with
        | false => rfl
        | true => rw [q, if_pos rfl] at h; omega
      · exact (hby_0 N).mp (by omega) k (by omega)
    · intro h
      rw [(hby_0 N).mpr (fun k hk => h k (by omega)), h N (by omega)]
      rfl
theorem rds_cnt {m i0 : Nat} {D : zD} {N : Nat} : ∀ n, (∀ i, i0 ≤ i → i < i0 + n → D 10 i < N) → hby (rds m i0 D n).1 m N = hby D m N + (rds m i0 D n).2
  | 0, _ => rfl
  | n + 1, hn => by
    have ih := rds_cnt (m := m) (i0 := i0) (D := D) (N := N) n (fun i a b => hn i a (by omega))
    have e11 : (rds m i0 D n).1 11 = D 11 := rds_f (by decide) n
    have e10 : (rds m i0 D n).1 10 = D 10 := rds_f (by decide) n
    cases q1 : hd (rds m i0 D n).1 m (D 11 (i0 + n)) with
    | false => rw [rds_no1 (by rw [e11]; exact q1)]; exact ih
    | true =>
      cases q2 : hd (rds m i0 D n).1 m (D 10 (i0 + n)) with
      | true => rw [rds_no2 (by rw [e10]; exact q2)]; exact ih
      | false =>
        have h1 := hby_st (D := (rds m i0 D n).1) (D' := (rds m i0 D (n + 1)).1) (m := m) (a := D 10 (i0 + n)) q2 (fun k => by
          rw [rds_st, q1]; simp) N (hn _ (by omega) (by omega))
        rw [h1, ih]
        have h2 : (rds m i0 D (n + 1)).2 = (rds m i0 D n).2 + 1 := by
          rw [rds_yes (by rw [e11]; exact q1) (by rw [e10]; exact q2)]
        rw [h2]; omega
/-! all read that sit and aren't late -/
abbrev awk (D : zD) (j : Nat) : Prop := D 0 j ≠ 0 ∧ D 2 j = 0
abbrev rdk (D : zD) (j : Nat) (k : Nat) : Bool := hd (rds j (D 3 j) D (D 6 1 - D 3 j)).1 j k
theorem rdm_9 {m : Nat} {D : zD} {j k : Nat} : hd (rdm m D) j k = hd (rds m (D 3 m) D (D 6 1 - D 3 m)).1 j k := by
  show (rdm m D 9 k).testBit j = _
  unfold rdm
  rw [dset_ff _ _ _ (by decide)]
theorem rdm_oth {m : Nat} {D : zD} {j : Nat} (h : m ≠ j) (k : Nat) : hd (rdm m D) j k = hd D j k := by rw [rdm_9]; exact rds_oth h _ k
theorem rda_all {D : zD} : ∀ n j, (j < n → awk D j → (∀ k, hd (rda D n) j k = rdk D j k) ∧ rda D n 3 j = D 6 1) ∧ (¬ (j < n ∧ awk D j) → (∀ k, hd (rda D n) j k = hd D j k) ∧ rda D n 3 j = D 3 j)
  | 0, j => ⟨fun h => by omega, fun _ => ⟨fun _ => rfl, rfl⟩⟩
  | n + 1, j => by
    have ih := rda_all (D := D) n
    have f0 : rda D n 0 = D 0 := rda_f (by decide) (by decide) n
    have f2 : rda D n 2 = D 2 := rda_f (by decide) (by decide) n
    have f6 : rda D n 6 = D 6 := rda_f (by decide) (by decide) n
    have f10 : rda D n 10 = D 10 := rda_f (by decide) (by decide) n
    have f11 : rda D n 11 = D 11 := rda_f (by decide) (by decide) n
    unfold rda
    rw [f0, f2]
    by_cases q : awk D n
    · rw [if_pos q]
      have hn := (ih n).2 (fun z => by omega)
      by_cases e : n = j
      · subst e
        refine ⟨fun _ _ => ⟨fun k => ?_, ?_⟩, fun z => absurd ⟨Nat.lt_succ_self n, q⟩ z⟩
        · rw [rdm_9, hn.2, f6]
          exact rds_ind f10 f11 hn.1 _ k
        · unfold rdm
          rw [dset_at, f6]
      · have e3 : rdm n (rda D n) 3 j = rda D n 3 j := by
          unfold rdm
          rw [dset_k _ _ _ (fun z => e z.symm), rds_f (by decide)]
        rw [e3]
        refine ⟨fun h1 h2 => ?_, fun z => ?_⟩
        · have := (ih j).1 (by omega) h2
          exact ⟨fun k => by rw [rdm_oth e]; exact this.1 k, this.2⟩
        · have := (ih j).2 (fun y => z ⟨by omega, y.2⟩)
          exact ⟨fun k => by rw [rdm_oth e]; exact this.1 k, this.2⟩
    · rw [if_neg q]
      refine ⟨fun h1 h2 => ?_, fun z => ?_⟩
      · have : j ≠ n := fun e => q (e ▸ h2)
        exact (ih j).1 (by omega) h2
      · exact (ih j).2 (fun y => z ⟨by omega, y.2⟩)
/-- one that holds its leaf's key, and reads letters from below upwards, holds all keys above -/
theorem rd_up {T : zD} {m i0 n : Nat} {q p : Nat → Nat} (h0 : hd T m (key T (p 0)) = true) (hs : ∀ j, j < 4 → hd T m (key T (p (j + 1))) = true ∨ (i0 ≤ q j ∧ q j < i0 + n ∧ T 10 (q j) = key T (p (j + 1)) ∧ T 11 (q j) = key T (p j))) (ho : ∀ j, j < 3 → hd T m (key T (p (j + 2))) = true ∨ hd T m (key T (p (j + 1))) = true ∨ q j < q (j + 1)) : ∀ j, j ≤ 4 → hd T m (key T (p j)) = true ∨ ∃ i, j = i + 1 ∧ i0 ≤ q i ∧ q i < i0 + n ∧ hd (rds m i0 T (q i - i0 + 1)).1 m (key T (p j)) = true
  | 0, _ => Or.inl h0
  | j + 1, hj => by
    have ih := rd_up h0 hs ho j (by omega)
    rcases hs j (by omega) with h | ⟨h1, h2, h3, h4⟩
    · exact Or.inl h
    · refine Or.inr ⟨j, rfl, h1, h2, ?_⟩
      have e : i0 + (q j - i0) = q j := by omega
      have g : hd (rds m i0 T (q j - i0)).1 m (T 11 (i0 + (q j - i0))) = true → hd (rds m i0 T (q j - i0 + 1)).1 m (T 10 (i0 + (q j - i0))) = true := rds_get (Nat.lt_succ_self _)
      rw [e, h3, h4] at g
      by_cases hh : hd T m (key T (p (j + 1))) = true
      · exact rds_up _ hh
      · apply g
        rcases ih with ih | ⟨i, rfl, i1, i2, i3⟩
        · exact rds_up _ ih
        · rcases ho i (by omega) with z | z | z
          · exact absurd z hh
          · exact rds_up _ z
          · have := rds_mono (m := m) (i0 := i0) (D := T) (j := m) (k := key T (p (i + 1))) (n := q i - i0 + 1) (q (i + 1) - i0 - (q i - i0 + 1)) i3
            rw [show q i - i0 + 1 + (q (i + 1) - i0 - (q i - i0 + 1)) = q (i + 1) - i0 by omega] at this
            exact this
theorem rd_up2 {T : zD} {m i0 n : Nat} {q p : Nat → Nat} (h0 : hd T m (key T (p 0)) = true) (hs : ∀ j, j < 4 → hd T m (key T (p (j + 1))) = true ∨ (i0 ≤ q j ∧ q j < i0 + n ∧ T 10 (q j) = key T (p (j + 1)) ∧ T 11 (q j) = key T (p j))) (ho : ∀ j, j < 3 → hd T m (key T (p (j + 2))) = true ∨ hd T m (key T (p (j + 1))) = true ∨ q j < q (j + 1)) {j : Nat} (hj : j ≤ 4) : hd (rds m i0 T n).1 m (key T (p j)) = true := by
  rcases rd_up h0 hs ho j hj with h | ⟨i, -, i1, i2, i3⟩
  · exact rds_up _ h
  · have := rds_mono (m := m) (i0 := i0) (D := T) (j := m) (k := key T (p j)) (n := q i - i0 + 1) (n - (q i - i0 + 1)) i3
    rw [show q i - i0 + 1 + (n - (q i - i0 + 1)) = n by omega] at this
    exact this
