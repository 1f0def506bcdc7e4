/-! THE INVARIANT IS KEPT -/
theorem INV.ok {D : zD} (h : INV D) : lfok (D 0) := h.1
theorem INV.inj {D : zD} (h : INV D) : lfin (D 0) := h.2.1
theorem INV.all {D : zD} (h : INV D) : D 6 2 + pcn 16 (sm (D 0) 1) ≤ 17 * D 6 0 := h.2.2.2.2.2.2.1.2.2.1
theorem INV.came {D : zD} (h : INV D) {m : Nat} (hm : m < 16) : D 4 m ≤ D 6 2 ∧ D 5 m ≤ D 6 2 ∧ (D 4 m ≠ 0 → D 0 m = 0 → D 5 m ≠ 0) := h.2.2.2.2.2.1 m hm
theorem INV.sitc {D : zD} (h : INV D) {m : Nat} (hm : m < 16) (h0 : D 0 m ≠ 0) : D 4 m ≠ 0 := (h.2.2.2.2.1 m hm h0).2
theorem INV.uniq {D : zD} (h : INV D) {i j : Nat} (hi : i < D 6 1) (hj : j < D 6 1) (ei : D 12 i = D 6 2) (ej : D 12 j = D 6 2) (e : D 7 (D 11 i) = D 7 (D 11 j)) : i = j := h.2.2.2.2.2.2.2.2.2.2.1 i j hi hj ei ej e
theorem INV.none {D : zD} (h : INV D) (h0 : D 6 2 = 0) : D 6 1 = 0 := h.2.2.2.2.2.2.2.2.2.2.2 h0
theorem INV.has {D : zD} (h : INV D) {v : Nat} (h1 : 1 ≤ v) (h2 : v < 32) (h3 : sm (D 0) v ≠ 0) : ∃ k, k < D 6 0 ∧ D 7 k = v := h.2.2.2.2.2.2.2.2.2.1 v h1 h2 h3
theorem bn_one : ∀ l, l < 32 → 16 ≤ l → bn l 1 = true := by decide +kernel
theorem mvD_F {D : zD} (h : INV D) : mvF (D 0) (fun m => D 1 m == 2) (fun m => D 1 m == 1) (mvD D) := by
  refine mv_F h.ok h.inj (fun m hm q => ?_) (fun m hm q => ?_)
  · have q : D 1 m = 2 := beq_iff_eq.mp q
    rcases h.told hm with h1 | h1 | h1
    · omega
    · omega
    · rcases h.leaf hm with h2 | h2 <;> omega
  · have q : D 1 m = 1 := beq_iff_eq.mp q
    rcases h.told hm with h1 | h1 | h1 <;> omega
/-- where a member sits behind the moves -/
theorem mvD_at {D : zD} (h : INV D) {m : Nat} (hm : m < 16) : (D 1 m = 1 ∧ 16 ≤ (mvD D).1 m ∧ (mvD D).1 m < 32) ∨ (D 1 m = 2 ∧ (mvD D).1 m = 0) ∨ (D 1 m = 0 ∧ (mvD D).1 m = D 0 m) := by
  obtain ⟨f1, -, f3, -⟩ := mvD_F h
  obtain ⟨a, b, c⟩ := f3 m hm
  rcases h.told hm with q | q | q
  · exact Or.inr (Or.inr ⟨q, c (by simp [q]) (by simp [q])⟩)
  · refine Or.inl ⟨q.1, a (by simp [q.1]), f1.lt hm⟩
  · exact Or.inr (Or.inl ⟨q.1, b (by simp [q.1]) (by simp [q.1])⟩)
theorem brf_0 {D : zD} (h : brf D = nI 0) : (cms D ≠ 0 ∨ lvs D ≠ 0) ∧ D 6 0 < 200 ∧ D 6 1 < 160 := by
  unfold brf ful at h
  by_cases h1 : cms D = 0 ∧ lvs D = 0
  · rw [if_pos h1] at h; exact absurd h (by decide)
  · rw [if_neg h1] at h
    by_cases h2 : 200 ≤ D 6 0 ∨ 160 ≤ D 6 1
    · rw [if_pos h2] at h; exact absurd h (by decide)
    · exact ⟨by omega, by omega, by omega⟩
theorem dm_ex {P : Nat → Bool} (h : dm P ≠ 0) : ∃ m, m < 16 ∧ P m = true := by
  refine Classical.byContradiction fun hn => h (dm_zero.mpr fun m hm => ?_)
  cases hb : P m with
  | false => rfl
  | true => exact absurd ⟨m, hm, hb⟩ hn
/-- keys of a state behind the moves -/
theorem bk_I {h' : Nat → Nat} {D : zD} (h : INV D) : rnI h' (mvD D).1 (mvD D).2.2 D (rnh h' (mvD D).1 (mvD D).2.2 (mbr D) 31) 31 := rnh_I (h := h') (lf := (mvD D).1) (ch := (mvD D).2.2) (D := mbr D) 31 (Nat.le_refl _)
/-- live nodes have their keys behind the moves -/
theorem bk_live {h' : Nat → Nat} {D : zD} (h : INV D) {v : Nat} (h1 : 1 ≤ v) (h2 : v < 32) (h3 : sm (mvD D).1 v ≠ 0) : ∃ k, k < rnh h' (mvD D).1 (mvD D).2.2 (mbr D) 31 6 0 ∧ rnh h' (mvD D).1 (mvD D).2.2 (mbr D) 31 7 k = v := by
  obtain ⟨⟨a, -⟩, b, -, -, e⟩ := bk_I (h' := h') h
  cases hc : (mvD D).2.2.testBit v with
  | true =>
    obtain ⟨k, -, k2, k3⟩ := e v (by omega) h2 h3 hc
    exact ⟨k, k2, k3⟩
  | false =>
    obtain ⟨k, k1, k2⟩ := h.has h1 h2 ((mvD_F h).live h3 hc)
    exact ⟨k, by omega, by rw [(b k k1).1]; exact k2⟩
theorem bk_key {h' : Nat → Nat} {D : zD} (h : INV D) {v : Nat} (h1 : 1 ≤ v) (h2 : v < 32) (h3 : sm (mvD D).1 v ≠ 0) : key (rnh h' (mvD D).1 (mvD D).2.2 (mbr D) 31) v < rnh h' (mvD D).1 (mvD D).2.2 (mbr D) 31 6 0 ∧ rnh h' (mvD D).1 (mvD D).2.2 (mbr D) 31 7 (key (rnh h' (mvD D).1 (mvD D).2.2 (mbr D) 31) v) = v := lastk_in (bk_live h h1 h2 h3)
theorem hlf_lt (lf : Nat → Nat) (v : Nat) : hlf lf v < 65536 := by
  unfold hlf
  split
  · exact sm_lt _ _
  · decide
set_option maxHeartbeats 1000000 in
theorem INV.btc1 {D : zD} (h : INV D) (hb : brf D = nI 0) : INV (dset (btc1 D) 6 2 (D 6 2 + 1)) := by
  obtain ⟨hne, h60, h61⟩ := brf_0 hb
  have hF := mvD_F h
  have hat := fun m hm => mvD_at (m := m) h hm
  have hRI : rnI (hlf (mvD D).1) (mvD D).1 (mvD D).2.2 D (rn (mvD D).1 (mvD D).2.2 (mbr D) 31) 31 := bk_I h
  have hlive : ∀ v, 1 ≤ v → v < 32 → sm (mvD D).1 v ≠ 0 → key (rn (mvD D).1 (mvD D).2.2 (mbr D) 31) v < (rn (mvD D).1 (mvD D).2.2 (mbr D) 31) 6 0 ∧ (rn (mvD D).1 (mvD D).2.2 (mbr D) 31) 7 (key (rn (mvD D).1 (mvD D).2.2 (mbr D) 31) v) = v := fun v h1 h2 h3 => bk_key h h1 h2 h3
  have hliv2 : ∀ v, 1 ≤ v → v < 32 → sm (mvD D).1 v ≠ 0 → ∃ k, k < (rn (mvD D).1 (mvD D).2.2 (mbr D) 31) 6 0 ∧ (rn (mvD D).1 (mvD D).2.2 (mbr D) 31) 7 k = v := fun v h1 h2 h3 => bk_live h h1 h2 h3
  have hTI := tl_I (lf := (mvD D).1) (ch := (mvD D).2.2) (D := rn (mvD D).1 (mvD D).2.2 (mbr D) 31) (fun w h1 h2 h3 => (hlive w h1 h2 h3).2) 15 (Nat.le_refl _)
  have hTn := tl_n (lf := (mvD D).1) (ch := (mvD D).2.2) (D := rn (mvD D).1 (mvD D).2.2 (mbr D) 31) 15
  have r0 : ∀ f, f ≠ 6 → f ≠ 7 → f ≠ 8 → f ≠ 9 → rn (mvD D).1 (mvD D).2.2 (mbr D) 31 f = mbr D f := fun f q1 q2 q3 q4 => rnh_f q1 q2 q3 q4 31
  have r6 : ∀ k, k ≠ 0 → rn (mvD D).1 (mvD D).2.2 (mbr D) 31 6 k = D 6 k := fun k hk => rnh_6 (D := mbr D) hk 31
  show INV (dset (tl (mvD D).1 (mvD D).2.2 (rn (mvD D).1 (mvD D).2.2 (mbr D) 31) 15) 6 2 (D 6 2 + 1))
  generalize tl (mvD D).1 (mvD D).2.2 (rn (mvD D).1 (mvD D).2.2 (mbr D) 31) 15 = T at *
  generalize rn (mvD D).1 (mvD D).2.2 (mbr D) 31 = R at *
  obtain ⟨⟨a1, a2⟩, b, c, d, e⟩ := hRI
  obtain ⟨⟨t1, t2, t3, t4⟩, t5, t6⟩ := hTI
  have f0 : dset T 6 2 (D 6 2 + 1) 0 = (mvD D).1 := by rw [dset_ff _ _ _ (by decide), t1 0 (by decide) (by decide) (by decide) (by decide), r0 0 (by decide) (by decide) (by decide) (by decide)]; rfl
  have fm : ∀ f, f ≠ 6 → f ≠ 7 → f ≠ 8 → f ≠ 9 → f ≠ 10 → f ≠ 11 → f ≠ 12 → dset T 6 2 (D 6 2 + 1) f = mbr D f := fun f q6 q7 q8 q9 q10 q11 q12 => by rw [dset_ff _ _ _ q6, t1 f q6 q10 q11 q12, r0 f q6 q7 q8 q9]
  have fk : ∀ f, f = 7 ∨ f = 8 ∨ f = 9 → dset T 6 2 (D 6 2 + 1) f = R f := fun f q => by rw [dset_ff _ _ _ (by omega), t1 f (by omega) (by omega) (by omega) (by omega)]
  have fl : ∀ f, f = 10 ∨ f = 11 ∨ f = 12 → dset T 6 2 (D 6 2 + 1) f = T f := fun f q => dset_ff _ _ _ (by omega)
  have g0 : dset T 6 2 (D 6 2 + 1) 6 0 = R 6 0 := by rw [dset_k _ _ _ (by decide), t2 0 (by decide)]
  have g1 : dset T 6 2 (D 6 2 + 1) 6 1 = T 6 1 := dset_k _ _ _ (by decide)
  have g2 : dset T 6 2 (D 6 2 + 1) 6 2 = D 6 2 + 1 := dset_at _ _ _ _
  have g3 : dset T 6 2 (D 6 2 + 1) 6 3 = D 6 3 := by rw [dset_k _ _ _ (by decide), t2 3 (by decide), r6 3 (by decide)]
  have e61 : R 6 1 = D 6 1 := r6 1 (by decide)
  have e62 : R 6 2 = D 6 2 := r6 2 (by decide)
  have l10 : ∀ i, i < D 6 1 → T 10 i = D 10 i ∧ T 11 i = D 11 i ∧ T 12 i = D 12 i := fun i hi => by
    obtain ⟨x, y, z⟩ := t4 i (by omega)
    rw [x, y, z, r0 10 (by decide) (by decide) (by decide) (by decide), r0 11 (by decide) (by decide) (by decide) (by decide), r0 12 (by decide) (by decide) (by decide) (by decide)]
    exact ⟨rfl, rfl, rfl⟩
  have k7 : ∀ k, k < D 6 0 → R 7 k = D 7 k := fun k hk => (b k hk).1
  have hall := h.all
  have hbat := h.batches
  refine ⟨?_, ?_, ?_, ?_, ?_, ?_, ?_, ?_, ?_, ?_, ?_, ?_⟩
  · rw [f0]; exact hF.1
  · rw [f0]; exact hF.2.1
  · intro m hm
    rw [fm 1 (by decide) (by decide) (by decide) (by decide) (by decide) (by decide) (by decide)]
    exact Or.inl rfl
  · intro m hm
    rw [fm 2 (by decide) (by decide) (by decide) (by decide) (by decide) (by decide) (by decide), f0]
    show (if D 1 m = 0 then D 2 m else 0) = 0 ∨ ((if D 1 m = 0 then D 2 m else 0) = 1 ∧ _)
    rcases hat m hm with q | q | q
    · rw [if_neg (by omega)]; exact Or.inl rfl
    · rw [if_neg (by omega)]; exact Or.inl rfl
    · rw [if_pos q.1, q.2]; exact h.late hm
  · intro m hm h0
    rw [f0] at h0
    rw [fm 3 (by decide) (by decide) (by decide) (by decide) (by decide) (by decide) (by decide), fm 4 (by decide) (by decide) (by decide) (by decide) (by decide) (by decide) (by decide), g1]
    show (if D 1 m = 0 then D 3 m else D 6 1) ≤ _ ∧ (if D 1 m = 1 then D 6 2 + 1 else D 4 m) ≠ 0
    rcases hat m hm with q | q | q
    · rw [if_neg (by omega), if_pos q.1]; exact ⟨by omega, by omega⟩
    · exact absurd q.2 h0
    · rw [q.2] at h0
      have := h.read hm h0
      rw [if_pos q.1, if_neg (by omega)]; exact ⟨by omega, h.sitc hm h0⟩
  · intro m hm
    rw [f0, fm 4 (by decide) (by decide) (by decide) (by decide) (by decide) (by decide) (by decide), fm 5 (by decide) (by decide) (by decide) (by decide) (by decide) (by decide) (by decide), g2]
    obtain ⟨q1, q2, q3⟩ := h.came hm
    show (if D 1 m = 1 then D 6 2 + 1 else D 4 m) ≤ _ ∧ (if D 1 m = 2 then D 6 2 + 1 else D 5 m) ≤ _ ∧ ((if D 1 m = 1 then D 6 2 + 1 else D 4 m) ≠ 0 → _ → (if D 1 m = 2 then D 6 2 + 1 else D 5 m) ≠ 0)
    rcases hat m hm with q | q | q
    · rw [if_pos q.1, if_neg (by omega)]
      exact ⟨Nat.le_refl _, by omega, fun _ h0 => by omega⟩
    · rw [if_neg (by omega), if_pos q.1]
      exact ⟨by omega, Nat.le_refl _, fun _ _ => by omega⟩
    · rw [if_neg (by omega), if_neg (by omega), q.2]
      exact ⟨by omega, by omega, q3⟩
  · rw [g0, g1, g2, g3, f0]
    have p1 := pcn_le (sm (mvD D).1 1) 16
    refine ⟨by omega, by omega, ?_, h.draw⟩
    by_cases hc : cms D = 0
    · obtain ⟨m, hm, hp⟩ := dm_ex (hne.resolve_left (fun q => q hc))
      have hm2 : D 1 m = 2 := beq_iff_eq.mp hp
      have h16 : 16 ≤ D 0 m ∧ D 0 m < 32 := by
        rcases h.told hm with q | q | q
        · omega
        · omega
        · rcases h.leaf hm with q2 | q2
          · omega
          · exact q2
      have hlt : pcn 16 (sm (mvD D).1 1) < pcn 16 (sm (D 0) 1) := by
        refine pcn_subL (j := m) 16 (fun i hi hx => ?_) hm ?_ ?_
        · rw [sm_bit hi] at hx ⊢
          rcases hat i hi with q | q | q
          · have := dm_zero.mp hc i hi
            simp [q.1] at this
          · rw [q.2] at hx; exact absurd hx (by decide)
          · rwa [q.2] at hx
        · rw [sm_bit hm]
          rcases hat m hm with q | q | q
          · omega
          · rw [q.2]; rfl
          · omega
        · rw [sm_bit hm]; exact bn_one _ h16.2 h16.1
      omega
    · obtain ⟨m, hm, hp⟩ := dm_ex hc
      have hm1 : D 1 m = 1 := beq_iff_eq.mp hp
      have h16 : 16 ≤ (mvD D).1 m ∧ (mvD D).1 m < 32 := by
        rcases hat m hm with q | q | q
        · exact q.2
        · omega
        · omega
      have hb1 := bn_one _ h16.2 h16.1
      obtain ⟨k, k1, k2, -⟩ := e 1 (by decide) (by decide) (sm_ne.mpr ⟨m, hm, hb1⟩) (hF.node hm hp hb1)
      have : D 6 0 ≤ k := k1
      omega
  · intro k hk
    rw [g0] at hk
    rw [fk 7 (by decide), fk 8 (by decide), fk 9 (by decide), g2]
    by_cases hk2 : k < D 6 0
    · obtain ⟨x, y, z⟩ := b k hk2
      obtain ⟨q1, q2, q3, q4⟩ := h.keys hk2
      rw [x, y, z]
      exact ⟨q1, q2, Nat.lt_succ_of_lt q3, q4⟩
    · obtain ⟨q1, q2, q3, q4, q5, q6⟩ := c k (Nat.le_of_not_lt hk2) hk
      rw [q6, q5]
      exact ⟨by omega, q2, Nat.lt_succ_self _, hlf_lt _ _⟩
  · intro i hi
    rw [g1] at hi
    rw [fl 10 (by decide), fl 11 (by decide), fl 12 (by decide), g0, g2]
    by_cases hi2 : i < D 6 1
    · obtain ⟨x, y, z⟩ := l10 i hi2
      obtain ⟨q1, q2, q3⟩ := h.lets hi2
      rw [x, y, z]
      have a1 : D 6 0 ≤ R 6 0 := a1
      exact ⟨by omega, by omega, by omega⟩
    · obtain ⟨-, q1, q2, q3, q4, q5, q6, q7⟩ := t5 i (by omega) hi
      have w1 := (hlive _ (by omega) q2 q3).1
      have hup : sm (mvD D).1 (R 7 (T 11 i) / 2) ≠ 0 := by
        obtain ⟨m, hm, hbm⟩ := sm_ne.mp q3
        refine sm_ne.mpr ⟨m, hm, ?_⟩
        have hk := (bn_kid _ (hF.1.lt hm) (R 7 (T 11 i) / 2) (by omega) (by omega) ((hF.1 m hm).imp id (fun q => q.1))).1
        rw [hk]
        rcases (by omega : R 7 (T 11 i) = 2 * (R 7 (T 11 i) / 2) ∨ R 7 (T 11 i) = 2 * (R 7 (T 11 i) / 2) + 1) with z | z
        · rw [← z, hbm, Bool.true_or]
        · rw [← z, hbm, Bool.or_true]
      have w2 := (hlive _ (by omega) (by omega) hup).1
      rw [q7, e62]
      refine ⟨?_, ?_, Nat.le_refl _⟩
      · rw [q6]; exact w2
      · rw [q5]; exact w1
  · intro v h1 h2 h3
    rw [f0] at h3
    rw [g0, fk 7 (by decide)]
    exact hliv2 v h1 h2 h3
  · intro i j hi hj ei ej he
    rw [g1] at hi hj
    rw [fl 12 (by decide), g2] at ei ej
    rw [fl 11 (by decide), fk 7 (by decide)] at he
    have nw : ∀ i, i < T 6 1 → T 12 i = D 6 2 + 1 → D 6 1 ≤ i := fun i hi ei => by
      refine Nat.le_of_not_lt fun q => ?_
      have q1 := (h.lets q).2.2
      rw [(l10 i q).2.2] at ei
      omega
    have n1 := nw i hi ei
    have n2 := nw j hj ej
    exact t6 i j (by omega) hi (by omega) hj he
  · intro q
    rw [g2] at q
    omega
