/-! TREES STAY LEVEL as members come alone -/
theorem nlf_none (lf : Nat → Nat) : nlf lf (fun _ => false) = emp lf := by
  unfold nlf
  rw [if_pos (dmn_zero.mpr (fun _ _ => rfl))]
theorem mvC_one {K : Nat → Bool} {x : zM3} {m : Nat} (hK : K m = true) (hK' : ∀ j, j < 16 → j ≠ m → K j = false) : ∀ n, n ≤ 16 → mvC K x n = if n ≤ m then x else stC K m x
  | 0, _ => by rw [if_pos (Nat.zero_le _)]; rfl
  | n + 1, hn => by
    show stC K n (mvC K x n) = _
    rw [mvC_one hK hK' n (by omega)]
    by_cases e : n = m
    · subst e
      rw [if_pos (Nat.le_refl _), if_neg (by omega)]
    · have hf := hK' n (by omega) e
      have hs : ∀ y, stC K n y = y := fun y => by
        unfold stC
        rw [hf]; rfl
      rw [hs]
      by_cases q : n ≤ m
      · rw [if_pos q, if_pos (by omega)]
      · rw [if_neg q, if_neg (by omega)]
theorem one_seat {E : zD} {m : Nat} (hm : m < 16) (h1 : one E m) : lfD E = fup (E 0) m (emp (E 0)) := by
  show (mvD E).1 = _
  rw [← one_mv h1 hm]
  unfold mv
  rw [mvL_none, mvC_one (m := m) (by simp [h1.1]) (fun j hj e => by simp [e]) 16 (Nat.le_refl _), if_neg (by omega)]
  unfold stC
  rw [if_pos (by simp [h1.1])]
  show fup (E 0) m (nlf (E 0) (fun _ => false)) = _
  rw [nlf_none]
theorem pcn_fup {lf : Nat → Nat} {m e v : Nat} (hm : m < 16) (h0 : lf m = 0) : pcn 16 (sm (fup lf m e) v) = pcn 16 (sm lf v) + (if bn e v = true then 1 else 0) := by
  have hz : pcn 16 0 = 0 := by decide
  have h2 : pcn 16 (if bn e v = true then 2 ^ m else 0) = if bn e v = true then 1 else 0 := by
    by_cases q : bn e v = true
    · rw [if_pos q, if_pos q, pcn_pow m hm]
    · rw [if_neg q, if_neg q, hz]
  rw [← h2]
  refine pcn_or 16 (fun i hi => ?_)
  have e2 : (if bn e v = true then 2 ^ m else 0).testBit i = (bn e v && decide (m = i)) := by
    cases q : bn e v with
    | true => rw [if_pos rfl, Nat.testBit_two_pow]; rfl
    | false => rw [if_neg (by decide), Nat.zero_testBit]; rfl
  rw [sm_bit hi, sm_bit hi, e2]
  by_cases ei : i = m
  · subst ei
    rw [fup_at, h0, show bn 0 v = false from bnf_0 5 v]
    simp
  · rw [fup_ne _ _ ei, decide_eq_false (fun z => ei z.symm)]
    simp
abbrev chs (lf : Nat → Nat) (u : Nat) : Nat := if pcn 16 (sm lf (2 * u + 1)) < pcn 16 (sm lf (2 * u)) then 2 * u + 1 else 2 * u
theorem emp_path (lf : Nat → Nat) : emp lf / 16 = 1 ∧ emp lf / 8 = chs lf 1 ∧ emp lf / 4 = chs lf (emp lf / 8) ∧ emp lf / 2 = chs lf (emp lf / 4) ∧ emp lf = chs lf (emp lf / 2) := by
  have hc : ∀ u, chs lf u = 2 * u ∨ chs lf u = 2 * u + 1 := fun u => by
    unfold chs
    split
    · exact Or.inr rfl
    · exact Or.inl rfl
  have e : emp lf = chs lf (chs lf (chs lf (chs lf 1))) := rfl
  have c1 := hc 1
  have c2 := hc (chs lf 1)
  have c3 := hc (chs lf (chs lf 1))
  have c4 := hc (chs lf (chs lf (chs lf 1)))
  have e2 : emp lf / 2 = chs lf (chs lf (chs lf 1)) := by rw [e]; omega
  have e4 : emp lf / 4 = chs lf (chs lf 1) := by rw [e]; omega
  have e8 : emp lf / 8 = chs lf 1 := by rw [e]; omega
  refine ⟨by rw [e]; omega, e8, ?_, ?_, ?_⟩
  · rw [e8]; exact e4
  · rw [e4]; exact e2
  · rw [e2]; exact e
theorem bn_r0 : ∀ e, e < 32 → 16 ≤ e → bn e (2 * (e / 2) + 1) = decide (e = 2 * (e / 2) + 1) := by decide +kernel
theorem bn_r1 : ∀ e, e < 32 → 16 ≤ e → bn e (2 * (e / 4) + 1) = decide (e / 2 = 2 * (e / 4) + 1) := by decide +kernel
theorem bn_r2 : ∀ e, e < 32 → 16 ≤ e → bn e (2 * (e / 8) + 1) = decide (e / 4 = 2 * (e / 8) + 1) := by decide +kernel
theorem bn_r3 : ∀ e, e < 32 → 16 ≤ e → bn e (2 * (e / 16) + 1) = decide (e / 8 = 2 * (e / 16) + 1) := by decide +kernel
theorem chs_r (lf : Nat → Nat) (u : Nat) : chs lf u = 2 * u + 1 ↔ pcn 16 (sm lf (2 * u + 1)) < pcn 16 (sm lf (2 * u)) := by
  unfold chs
  split
  next h => exact ⟨fun _ => h, fun _ => rfl⟩
  next h => exact ⟨fun z => by omega, fun z => absurd z h⟩
theorem emp_right {lf : Nat → Nat} {v : Nat} (h16 : v < 16) (hb : bn (emp lf) v = true) : bn (emp lf) (2 * v + 1) = true ↔ pcn 16 (sm lf (2 * v + 1)) < pcn 16 (sm lf (2 * v)) := by
  obtain ⟨l1, l2⟩ := emp_in lf
  obtain ⟨p0, p1, p2, p3, p4⟩ := emp_path lf
  rw [← chs_r]
  rcases bn_pw _ l2 l1 v (by omega) hb with q | q | q | q | q
  · omega
  · rw [q, bn_r0 _ l2 l1, decide_eq_true_iff, ← p4]
  · rw [q, bn_r1 _ l2 l1, decide_eq_true_iff, ← p3]
  · rw [q, bn_r2 _ l2 l1, decide_eq_true_iff, ← p2]
  · rw [q, bn_r3 _ l2 l1, decide_eq_true_iff, p0, ← p1]
def LV (lf : Nat → Nat) : Prop := ∀ v, 1 ≤ v → v < 16 → pcn 16 (sm lf (2 * v)) = pcn 16 (sm lf (2 * v + 1)) ∨ pcn 16 (sm lf (2 * v)) = pcn 16 (sm lf (2 * v + 1)) + 1
theorem LV.step {lf : Nat → Nat} {m : Nat} (hm : m < 16) (h0 : lf m = 0) (h : LV lf) : LV (fup lf m (emp lf)) := by
  intro v v1 v2
  obtain ⟨l1, l2⟩ := emp_in lf
  rw [pcn_fup hm h0, pcn_fup hm h0]
  have hk := bn_kid _ l2 v v2 v1 (Or.inr l1)
  have hv := h v v1 v2
  cases q : bn (emp lf) v with
  | false =>
    rw [q] at hk
    have a : bn (emp lf) (2 * v) = false := by
      cases z : bn (emp lf) (2 * v) with
      | false => rfl
      | true => rw [z] at hk; exact absurd hk.1 (by simp)
    have b : bn (emp lf) (2 * v + 1) = false := by
      cases z : bn (emp lf) (2 * v + 1) with
      | false => rfl
      | true => rw [z] at hk; exact absurd hk.1 (by simp)
    rw [a, b]
    simp only [Bool.false_eq_true, if_false]
    omega
  | true =>
    have hr := emp_right v2 q
    rw [q] at hk
    cases z : bn (emp lf) (2 * v + 1) with
    | true =>
      rw [z] at hk
      have a : bn (emp lf) (2 * v) = false := by
        cases y : bn (emp lf) (2 * v) with
        | false => rfl
        | true => rw [y] at hk; exact absurd hk.2 (by simp)
      have := hr.mp z
      rw [a]
      simp only [Bool.false_eq_true, if_false, if_true]
      omega
    | false =>
      rw [z] at hk
      have a : bn (emp lf) (2 * v) = true := by
        cases y : bn (emp lf) (2 * v) with
        | true => rfl
        | false => rw [y] at hk; exact absurd hk.1 (by simp)
      have : ¬ pcn 16 (sm lf (2 * v + 1)) < pcn 16 (sm lf (2 * v)) := fun y => by rw [hr.mpr y] at z; cases z
      rw [a]
      simp only [Bool.false_eq_true, if_false, if_true]
      omega
theorem LV.none : LV (fun _ => 0) := fun v _ _ => by rw [sm_none, sm_none]; exact Or.inl rfl
theorem sm_kids {lf : Nat → Nat} (h : lfok lf) {v : Nat} (v1 : 1 ≤ v) (v2 : v < 16) : sm lf (2 * v) &&& sm lf (2 * v + 1) = 0 ∧ sm lf v = sm lf (2 * v) ||| sm lf (2 * v + 1) := by
  have hz : ∀ {x : Nat}, 16 ≤ x → ∀ u, (sm lf u).testBit x = false := fun hx u => z_small (n := 16) (sm_lt _ _) hx
  refine ⟨Nat.eq_of_testBit_eq (fun i => ?_), Nat.eq_of_testBit_eq (fun i => ?_)⟩
  · rw [Nat.testBit_and, Nat.zero_testBit]
    rcases Nat.lt_or_ge i 16 with hi | hi
    · rw [sm_bit hi, sm_bit hi]
      exact (bn_kid _ (h.lt hi) v v2 v1 ((h i hi).imp id And.left)).2
    · rw [hz hi, hz hi]; rfl
  · rw [Nat.testBit_or]
    rcases Nat.lt_or_ge i 16 with hi | hi
    · rw [sm_bit hi, sm_bit hi, sm_bit hi]
      exact (bn_kid _ (h.lt hi) v v2 v1 ((h i hi).imp id And.left)).1
    · rw [hz hi, hz hi, hz hi]; rfl
/-- the member that comes as the k-th -/
def mlv (c k : Nat) : Nat := (c / 16 * 3 + 5 * k) % 16
theorem mlv_lt (c k : Nat) : mlv c k < 16 := Nat.mod_lt _ (by decide)
theorem mlv_ne {c i k : Nat} (h1 : i < k) (h2 : k < 9) : mlv c i ≠ mlv c k := by
  unfold mlv
  omega
/-- behind k comings -/
def lvI (c k : Nat) (D : zD) : Prop := WS D ∧ LV (D 0) ∧ D 6 3 = 1 ∧ D 6 0 ≤ 5 * k ∧ D 6 1 ≤ 8 * k ∧ (0 < k → 0 < D 6 0) ∧ pcn 16 (sm (D 0) 1) = k ∧ ∀ j, j < 16 → D 0 j ≠ 0 → ∃ i, i < k ∧ j = mlv c i
theorem lvI.free {c k : Nat} {D : zD} (h : lvI c k D) (hk : k < 9) : D 0 (mlv c k) = 0 := by
  by_cases q : D 0 (mlv c k) = 0
  · exact q
  · obtain ⟨i, h1, h2⟩ := h.2.2.2.2.2.2.2 _ (mlv_lt c k) q
    exact absurd h2.symm (mlv_ne h1 hk)
theorem lvI.step {c k : Nat} {D : zD} (h : lvI c k D) (hk : k < 9) : brf (dset D 1 (mlv c k) 1) = nI 0 ∧ one (dset D 1 (mlv c k) 1) (mlv c k) ∧ INV (dset D 1 (mlv c k) 1) ∧ dset D 1 (mlv c k) 1 6 1 + 4 ≤ btc (dset D 1 (mlv c k) 1) 6 1 ∧ lvI c (k + 1) (btc (dset D 1 (mlv c k) 1)) := by
  have hf := h.free hk
  obtain ⟨w, hl, h63, h60, h61, h6p, hn, hs⟩ := h
  have hm := mlv_lt c k
  have hlast : ∀ j, j < 16 → j = mlv c k → ∃ i, i < k + 1 ∧ j = mlv c i := fun j _ e => ⟨k, by omega, e⟩
  have hmore : ∀ j, (∃ i, i < k ∧ j = mlv c i) → ∃ i, i < k + 1 ∧ j = mlv c i := fun j ⟨i, a, b⟩ => ⟨i, by omega, b⟩
  generalize mlv c k = m at *
  obtain ⟨hE, h1, hS, h2⟩ := come_ok w hf
  have e0 : dset D 1 m 1 0 = D 0 := dset_ff _ _ _ (by decide)
  have e6 : dset D 1 m 1 6 = D 6 := dset_ff _ _ _ (by decide)
  have hb : brf (dset D 1 m 1) = nI 0 := one_brf hm h1.1 (by rw [e6]; omega) (by rw [e6]; omega)
  have hB := bt_BT hE
  have hIB := hE.btc1 hb
  have hw := btc_WS hE hb hS h2
  have g0 : btc (dset D 1 m 1) 0 = fup (D 0) m (emp (D 0)) := by rw [btc_f (by decide) (by decide), hB.1.1, one_seat hm h1, e0]
  have g6 : btc (dset D 1 m 1) 6 = btB (dset D 1 m 1) 6 := btc_f (by decide) (by decide)
  have n4 := one_ge4 hE hB hIB hm h1.1
  have n8 := one_eight hE hB hm h1
  have n5 := one_five hE hB hm h1
  obtain ⟨l1, l2⟩ := emp_in (D 0)
  have hne := nc_lf hE hb hm h1
  have hpos : 0 < btc (dset D 1 m 1) 6 0 := by
    have hl := hw.1.leaf hm
    exact Nat.lt_of_le_of_lt (Nat.zero_le _) (hw.1.live (v := 1) (by decide) (by decide) (sm_of hm (bn_root _ (by omega) hne))).1
  rw [e6] at n4 n8 n5
  refine ⟨hb, h1, hE, by rw [g6, e6]; exact n4, hw, by rw [g0]; exact hl.step hm hf, by rw [g6, hB.2.1.2.2.2, e6]; exact h63, by rw [g6]; omega, by rw [g6]; omega, fun _ => hpos, ?_, fun j hj q => ?_⟩
  · rw [g0, pcn_fup hm hf, if_pos (bn_root _ l2 (by omega)), hn]
  · rw [g0] at q
    by_cases e : j = m
    · exact hlast j hj e
    · rw [fup_ne _ _ e] at q
      exact hmore j (hs j hj q)
