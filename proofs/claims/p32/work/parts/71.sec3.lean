/-! WHO HOLDS, WHO OPENS: what holds of keys that nodes have, through a batch -/
def cur (D : zD) (k : Nat) : Prop := k < D 6 0 ∧ sm (D 0) (D 7 k) ≠ 0 ∧ key D (D 7 k) = k
def S1 (D : zD) : Prop := ∀ k, cur D k → ∀ m, m < 16 → hd D m k = true → bn (D 0 m) (D 7 k) = true
def S2 (D : zD) : Prop := ∀ i, i < D 6 1 → cur D (D 10 i) → cur D (D 11 i) ∧ D 7 (D 10 i) < 16 ∧ bn (D 7 (D 11 i)) (D 7 (D 10 i)) = true
def S3 (D : zD) : Prop := ∀ i, i < D 6 1 → D 8 (D 11 i) ≤ D 8 (D 10 i)
def H1 (D : zD) : Prop := ∀ m, m < 16 → awk D m → D 3 m = D 6 1 ∧ ∀ v, v < 32 → bn (D 0 m) v = true → hd D m (key D v) = true
def H2 (D : zD) : Prop := ∀ m, m < 16 → D 0 m ≠ 0 → hd D m (key D (D 0 m)) = true
def SEC (D : zD) : Prop := S1 D ∧ S2 D ∧ H1 D ∧ H2 D
theorem cur.key {D : zD} (h : INV D) {v : Nat} (h1 : 1 ≤ v) (h2 : v < 32) (h3 : sm (D 0) v ≠ 0) : cur D (key D v) ∧ D 7 (key D v) = v := by
  obtain ⟨a, b⟩ := h.live h1 h2 h3
  exact ⟨⟨a, by rw [b]; exact h3, by rw [b]⟩, b⟩
theorem bn_ran {l v : Nat} (hl : l < 32) (h : bn l v = true) : 1 ≤ v ∧ v < 32 := by have := bnf_le h; omega
theorem sm_of {lf : Nat → Nat} {m v : Nat} (hm : m < 16) (h : bn (lf m) v = true) : sm lf v ≠ 0 := sm_ne.mpr ⟨m, hm, h⟩
section BTS
variable {D B : zD}
theorem bt_16 (h : INV D) {m : Nat} (hm : m < 16) (h0 : lfD D m ≠ 0) : 16 ≤ lfD D m ∧ lfD D m < 32 := by
  rcases (mvD_F h).1 m hm with q | q
  · exact absurd q h0
  · exact q
theorem bt_came (h : INV D) {m v : Nat} (hm : m < 16) (h1 : D 1 m = 1) (hb : bn (lfD D m) v = true) : (chD D).testBit v = true := ((mvD_F h).2.2.2 v).mpr (Or.inr ⟨m, hm, by simp [h1], hb⟩)
theorem bt_left (h : INV D) {m v : Nat} (hm : m < 16) (h1 : D 1 m = 2) (h16 : v < 16) (hb : bn (D 0 m) v = true) : (chD D).testBit v = true := ((mvD_F h).2.2.2 v).mpr (Or.inl ⟨m, hm, by simp [h1], by
  have := h.told hm
  rcases h.leaf hm with q | q
  · omega
  · exact bn_up1 _ q.2 q.1 v h16 hb⟩)
theorem bt_leaf (h : INV D) {m : Nat} (hm : m < 16) (h1 : D 1 m = 0) (h0 : D 0 m ≠ 0) : (chD D).testBit (D 0 m) = false := by
  cases q : (chD D).testBit (D 0 m) with
  | false => rfl
  | true =>
    have hl : D 0 m = lfD D m := by
      rcases mvD_at h hm with z | z | z
      · omega
      · omega
      · exact z.2.symm
    have h2 := h.leaf hm
    have := ((mvD_F h).leaf (fun j hj => h.ok.lt hj) (v := D 0 m) (by omega) (by omega) q).2 m hm hl.symm
    simp [h1] at this
theorem bt_same (h : INV D) {v : Nat} (h32 : v < 32) (hv : sm (lfD D) v ≠ 0) (hc : (chD D).testBit v = false) {m : Nat} (hm : m < 16) : bn (lfD D m) v = bn (D 0 m) v :=
  (mvD_F h).same h.ok h.inj (fun m hm q => by
    simp only [beq_iff_eq] at q
    have := h.told hm
    rcases h.leaf hm with z | z <;> omega) (fun m hm q => by
    simp only [beq_iff_eq] at q
    have := h.told hm
    omega) h32 hv hc hm
theorem bt_cur (h : INV D) (hB : BT D B) {k : Nat} (hk : cur B k) : (k < D 6 0 ∧ cur D k ∧ (chD D).testBit (D 7 k) = false) ∨ (D 6 0 ≤ k ∧ (chD D).testBit (B 7 k) = true) := by
  obtain ⟨⟨s0, -⟩, -, bo, bk, -, -, -, bc⟩ := hB
  obtain ⟨k1, k2, k3⟩ := hk
  rw [s0] at k2
  rcases Nat.lt_or_ge k (D 6 0) with q | q
  · obtain ⟨o7, -⟩ := bo k q
    obtain ⟨v1, v2, -⟩ := h.keys q
    rw [o7] at k2 k3
    obtain ⟨c1, c2⟩ := bc (D 7 k) v1 v2
    cases qc : (chD D).testBit (D 7 k) with
    | true => have := (c2 qc k2).1; omega
    | false => exact Or.inl ⟨q, ⟨q, (mvD_F h).live k2 qc, by rw [← c1 qc]; exact k3⟩, rfl⟩
  · exact Or.inr ⟨q, (bk k q k1).2.2.1⟩
theorem bt_cur2 (h : INV D) (hB : BT D B) {k : Nat} (hk : cur D k) (hl : sm (lfD D) (D 7 k) ≠ 0) (hc : (chD D).testBit (D 7 k) = false) : cur B k := by
  obtain ⟨⟨s0, -⟩, bn', bo, bk, -, -, -, bc⟩ := hB
  obtain ⟨k1, k2, k3⟩ := hk
  obtain ⟨v1, v2, -⟩ := h.keys k1
  obtain ⟨o7, -⟩ := bo k k1
  refine ⟨Nat.lt_of_lt_of_le k1 bn'.1, by rw [s0, o7]; exact hl, by rw [o7, (bc (D 7 k) v1 v2).1 hc]; exact k3⟩
theorem bt_S1 (h : INV D) (hB : BT D B) (h1 : S1 D) : S1 B := by
  intro k hk m hm hh
  have hs0 := hB.1.1
  rcases bt_cur h hB hk with ⟨q, qc, qn⟩ | ⟨q, qn⟩
  · obtain ⟨o7, -, o9⟩ := hB.2.2.1 k q
    obtain ⟨v1, v2, -⟩ := h.keys q
    have hl := hk.2.1
    rw [hs0, o7] at hl
    rw [hs0, o7, bt_same h v2 hl qn hm]
    refine h1 k qc m hm ?_
    show (D 9 k).testBit m = true
    rw [← o9]; exact hh
  · obtain ⟨v1, v2, -, v4, -, v6, -⟩ := hB.2.2.2.1 k q hk.1
    have hh' : (B 9 k).testBit m = true := hh
    rw [v6] at hh'
    unfold hlf at hh'
    split at hh'
    · rw [sm_bit hm] at hh'
      rw [hs0]; exact hh'
    · rw [Nat.zero_testBit] at hh'; cases hh'
theorem bt_S2 (h : INV D) (hB : BT D B) (hIB : INV B) (h2 : S2 D) : S2 B := by
  have hs0 := hB.1.1
  intro i hi hk
  rcases Nat.lt_or_ge i (D 6 1) with q | q
  · obtain ⟨p1, p2, -⟩ := hB.2.2.2.2.1 i q
    rw [p1] at hk ⊢
    rw [p2]
    have hlo := (h.lets q).1
    have hlu := (h.lets q).2.1
    rcases bt_cur h hB hk with ⟨c1, c2, c3⟩ | ⟨c1, -⟩
    · obtain ⟨d1, d2, d3⟩ := h2 i q c2
      have o7 := (hB.2.2.1 _ c1).1
      have u7 := (hB.2.2.1 _ hlu).1
      obtain ⟨v1, v2, -⟩ := h.keys c1
      obtain ⟨u1, u2, -⟩ := h.keys hlu
      rw [o7, u7]
      have hnc : (chD D).testBit (D 7 (D 11 i)) = false := by
        cases qc : (chD D).testBit (D 7 (D 11 i)) with
        | false => rfl
        | true =>
          have hup : (chD D).testBit (D 7 (D 10 i)) = true := by
            refine ((mvD_F h).2.2.2 _).mpr ?_
            rcases ((mvD_F h).2.2.2 _).mp qc with ⟨m, hm, q1, q2⟩ | ⟨m, hm, q1, q2⟩
            · exact Or.inl ⟨m, hm, q1, bn_tr _ (by have := h.ok.lt hm; omega) _ u2 q2 _ v2 d3⟩
            · exact Or.inr ⟨m, hm, q1, bn_tr _ ((mvD_F h).1.lt hm) _ u2 q2 _ v2 d3⟩
          rw [c3] at hup; cases hup
      refine ⟨bt_cur2 h hB d1 ?_ hnc, d2, d3⟩
      obtain ⟨m, hm, hb⟩ := sm_ne.mp d1.2.1
      have hb2 := bn_tr _ (h.ok.lt hm) _ u2 hb _ v2 d3
      refine sm_of (m := m) hm ?_
      have h0 : D 0 m ≠ 0 := fun e => by rw [e, show bn 0 _ = false from bnf_0 5 _] at hb; cases hb
      rcases mvD_at h hm with z | z | z
      · have := h.told hm; omega
      · have := bt_left h hm z.1 d2 hb2
        rw [c3] at this; cases this
      · rw [show lfD D m = D 0 m from z.2]; exact hb
    · omega
  · obtain ⟨w, w1, w2, w3, w4, w5, w6, w7, -⟩ := hB.2.2.2.2.2.1 i q hi
    rw [← hs0] at w3
    have hw := cur.key hIB (v := w) (by omega) w2 w3
    have hl : sm (B 0) (w / 2) ≠ 0 := by
      obtain ⟨m, hm, hb⟩ := sm_ne.mp w3
      exact sm_of hm (bn_tr _ (hIB.ok.lt hm) _ w2 hb _ (by omega) (bn_par w w2 w1))
    have hp := cur.key hIB (v := w / 2) (by omega) (by omega) hl
    rw [w5, w7, hp.2]
    exact ⟨by rw [w6]; exact hw.1, by omega, bn_par w w2 w1⟩
theorem bt_S3 (h : INV D) (hB : BT D B) (hIB : INV B) (h3 : S3 D) : S3 B := by
  have hs0 := hB.1.1
  intro i hi
  rcases Nat.lt_or_ge i (D 6 1) with q | q
  · obtain ⟨p1, p2, -⟩ := hB.2.2.2.2.1 i q
    rw [p1, p2, (hB.2.2.1 _ (h.lets q).1).2.1, (hB.2.2.1 _ (h.lets q).2.1).2.1]
    exact h3 i q
  · obtain ⟨w, w1, w2, w3, w4, w5, w6, w7, -⟩ := hB.2.2.2.2.2.1 i q hi
    have hl : sm (lfD D) (w / 2) ≠ 0 := by
      obtain ⟨m, hm, hb⟩ := sm_ne.mp w3
      exact sm_of hm (bn_tr _ ((mvD_F h).1.lt hm) _ w2 hb _ (by omega) (bn_par w w2 w1))
    obtain ⟨c1, c2, c3⟩ := (hB.2.2.2.2.2.2.2 (w / 2) (by omega) (by omega)).2 w4 hl
    rw [w7, (hB.2.2.2.1 _ c1 c2).2.2.2.2.1]
    rcases Nat.lt_or_ge (B 11 i) (D 6 0) with z | z
    · rw [(hB.2.2.1 _ z).2.1]
      have := (h.keys z).2.2.1
      omega
    · rw [(hB.2.2.2.1 _ z (hIB.lets hi).2.1).2.2.2.2.1]
      exact Nat.le_refl _
/-- a key above that is not changed is held as before -/
theorem bt_hold (h : INV D) (hB : BT D B) {m v : Nat} (hm : m < 16) (h0 : lfD D m ≠ 0) (h1 : D 1 m = 1 ∨ (D 1 m = 0 ∧ ∀ v, v < 32 → bn (D 0 m) v = true → hd D m (key D v) = true)) (hb : bn (lfD D m) v = true) (hc : (chD D).testBit v = false) : hd B m (key B v) = true := by
  have hv := bn_ran ((mvD_F h).1.lt hm) hb
  rcases h1 with h1 | ⟨h1, h2⟩
  · have := bt_came h hm h1 hb
    rw [hc] at this; cases this
  · have hs := bt_same h hv.2 (sm_of hm hb) hc hm
    rw [hb] at hs
    have hk := (h.live hv.1 hv.2 (sm_of hm hs.symm)).1
    rw [(hB.2.2.2.2.2.2.2 v hv.1 hv.2).1 hc]
    show (B 9 _).testBit m = true
    rw [(hB.2.2.1 _ hk).2.2]
    exact h2 v hv.2 hs.symm
/-- the key of one's leaf is held, ahead of all reading -/
theorem bt_own (h : INV D) (hB : BT D B) {m : Nat} (hm : m < 16) (h0 : lfD D m ≠ 0) (h2 : D 0 m ≠ 0 → hd D m (key D (D 0 m)) = true) : hd B m (key B (lfD D m)) = true := by
  obtain ⟨l1, l2⟩ := bt_16 h hm h0
  have hb := (bn_at _ l2 l1).1
  rcases mvD_at h hm with z | z | z
  · obtain ⟨c1, c2, c3⟩ := (hB.2.2.2.2.2.2.2 (lfD D m) (by omega) l2).2 (bt_came h hm z.1 hb) (sm_of hm hb)
    show (B 9 _).testBit m = true
    rw [(hB.2.2.2.1 _ c1 c2).2.2.2.2.2.1, c3]
    unfold hlf
    rw [if_pos l1, sm_bit hm]; exact hb
  · exact absurd z.2 h0
  · have e : lfD D m = D 0 m := z.2
    have h0' : D 0 m ≠ 0 := by rw [← e]; exact h0
    have hc := bt_leaf h hm z.1 h0'
    rw [e] at hb l1 l2 ⊢
    have hk := (h.live (v := D 0 m) (by omega) l2 (sm_of (lf := D 0) hm hb)).1
    rw [(hB.2.2.2.2.2.2.2 (D 0 m) (by omega) l2).1 hc]
    show (B 9 _).testBit m = true
    rw [(hB.2.2.1 _ hk).2.2]
    exact h2 h0'
/-- who reads all letters of a batch holds all keys above -/
theorem bt_path (h : INV D) (hB : BT D B) {m : Nat} (hm : m < 16) (h0 : lfD D m ≠ 0) (h1 : D 1 m = 1 ∨ (D 1 m = 0 ∧ ∀ v, v < 32 → bn (D 0 m) v = true → hd D m (key D v) = true)) {T : zD} (t7 : T 7 = B 7) (t60 : T 6 0 = B 6 0) (t61 : T 6 1 = B 6 1) (t10 : T 10 = B 10) (t11 : T 11 = B 11) (hh : ∀ k, hd T m k = hd B m k) {v : Nat} (hb : bn (lfD D m) v = true) : hd (rds m (D 6 1) T (T 6 1 - D 6 1)).1 m (key T v) = true := by
  obtain ⟨l1, l2⟩ := bt_16 h hm h0
  have hv := bn_ran l2 hb
  obtain ⟨ix, hx⟩ := hB.2.2.2.2.2.2.1
  have hkt : ∀ u, key T u = key B u := fun u => key_cong t7 t60 u
  obtain ⟨p, hp⟩ : ∃ p : Nat → Nat, ∀ j, p j = lfD D m / 2 ^ j := ⟨_, fun _ => rfl⟩
  have hp0 : p 0 = lfD D m := by rw [hp]; exact Nat.div_one _
  have hps : ∀ j, p (j + 1) = p j / 2 := fun j => by rw [hp, hp, Nat.pow_succ, Nat.div_div_eq_div_mul]
  have hp1 : p 1 = lfD D m / 2 := by rw [hps, hp0]
  have hp2 : p 2 = lfD D m / 4 := by rw [hps, hp1]; omega
  have hp3 : p 3 = lfD D m / 8 := by rw [hps, hp2]; omega
  have hp4 : p 4 = lfD D m / 16 := by rw [hps, hp3]; omega
  obtain ⟨b0, b1, b2, b3, b4⟩ := bn_at _ l2 l1
  have hpb : ∀ j, j ≤ 4 → bn (lfD D m) (p j) = true := fun j hj => by
    rcases (by omega : j = 0 ∨ j = 1 ∨ j = 2 ∨ j = 3 ∨ j = 4) with rfl | rfl | rfl | rfl | rfl
    · rw [hp0]; exact b0
    · rw [hp1]; exact b1
    · rw [hp2]; exact b2
    · rw [hp3]; exact b3
    · rw [hp4]; exact b4
  have hpr : ∀ j, j ≤ 4 → 1 ≤ p j ∧ p j < 32 := fun j hj => bn_ran l2 (hpb j hj)
  have hold : ∀ j, j ≤ 4 → (chD D).testBit (p j) = false → hd T m (key T (p j)) = true := fun j hj hc => by
    rw [hkt, hh]
    exact bt_hold h hB hm h0 h1 (hpb j hj) hc
  have hpt : ∀ j, j < 4 → (chD D).testBit (p (j + 1)) = true → (2 ≤ p j ∧ p j < 32 ∧ sm (lfD D) (p j) ≠ 0 ∧ (chD D).testBit (p j / 2) = true) := fun j hj hc => by
    have := hpr (j + 1) (by omega)
    rw [hps] at this hc
    exact ⟨by omega, (hpr j (by omega)).2, sm_of hm (hpb j (by omega)), hc⟩
  have hj : ∃ j, j ≤ 4 ∧ p j = v := by
    rcases bn_pw _ l2 l1 v hv.2 hb with e | e | e | e | e
    · exact ⟨0, by omega, by rw [hp0, e]⟩
    · exact ⟨1, by omega, by rw [hp1, e]⟩
    · exact ⟨2, by omega, by rw [hp2, e]⟩
    · exact ⟨3, by omega, by rw [hp3, e]⟩
    · exact ⟨4, by omega, by rw [hp4, e]⟩
  obtain ⟨j, hj4, rfl⟩ := hj
  have h61 := hB.2.1.2.1
  refine rd_up2 (q := fun j => ix (p j)) (p := p) ?_ (fun j hj => ?_) (fun j hj => ?_) hj4
  · rw [hp0, hkt, hh]
    refine bt_own h hB hm h0 (fun q => ?_)
    rcases h1 with z | z
    · have := h.told hm; omega
    · have := h.leaf hm
      exact z.2 _ (by omega) (bn_at _ (by omega) (by omega)).1
  · cases qc : (chD D).testBit (p (j + 1)) with
    | false => exact Or.inl (hold _ (by omega) qc)
    | true =>
      obtain ⟨a1, a2, a3, a4⟩ := hpt j hj qc
      obtain ⟨⟨c1, c2, c3, c4, -⟩, -⟩ := hx (p j) a1 a2 a3 a4
      refine Or.inr ⟨c1, ?_, ?_, ?_⟩
      · show ix (p j) < _
        rw [t61]; omega
      · show T 10 (ix (p j)) = _
        rw [t10, hkt, hps]; exact c3
      · show T 11 (ix (p j)) = _
        rw [t11, hkt]; exact c4
  · cases qc : (chD D).testBit (p (j + 2)) with
    | false => exact Or.inl (hold _ (by omega) qc)
    | true =>
      cases qd : (chD D).testBit (p (j + 1)) with
      | false => exact Or.inr (Or.inl (hold _ (by omega) qd))
      | true =>
        obtain ⟨a1, a2, a3, a4⟩ := hpt j (by omega) qd
        obtain ⟨c1, c2, c3, c4⟩ := hpt (j + 1) (by omega) qc
        refine Or.inr (Or.inr ((hx (p (j + 1)) c1 c2 c3 c4).2 (p j) ?_ a2 a3 a4))
        have := hpr (j + 1) (by omega)
        have e := hps j
        omega
end BTS
