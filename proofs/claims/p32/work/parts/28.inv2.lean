/-! THE INVARIANT THROUGH THE OTHER DOINGS -/
theorem INV.g9 {D D' : zD} (h : INV D) (hf : ∀ f, f ≠ 9 → D' f = D f) (h9 : ∀ k, k < D 6 0 → D' 9 k < 65536) : INV D' := by
  unfold INV
  rw [hf 0 (by decide), hf 1 (by decide), hf 2 (by decide), hf 3 (by decide), hf 4 (by decide), hf 5 (by decide), hf 6 (by decide), hf 7 (by decide), hf 8 (by decide), hf 10 (by decide), hf 11 (by decide), hf 12 (by decide)]
  obtain ⟨a1, a2, a3, a4, a5, a6, a7, a8, a9, a10, a11, a12⟩ := h
  exact ⟨a1, a2, a3, a4, a5, a6, a7, fun k hk => ⟨(a8 k hk).1, (a8 k hk).2.1, (a8 k hk).2.2.1, h9 k hk⟩, a9, a10, a11, a12⟩
theorem INV.g3 {D D' : zD} (h : INV D) (hf : ∀ f, f ≠ 3 → D' f = D f) (h3 : ∀ m, m < 16 → D 0 m ≠ 0 → D' 3 m ≤ D 6 1) : INV D' := by
  unfold INV
  rw [hf 0 (by decide), hf 1 (by decide), hf 2 (by decide), hf 9 (by decide), hf 4 (by decide), hf 5 (by decide), hf 6 (by decide), hf 7 (by decide), hf 8 (by decide), hf 10 (by decide), hf 11 (by decide), hf 12 (by decide)]
  obtain ⟨a1, a2, a3, a4, a5, a6, a7, a8, a9, a10, a11, a12⟩ := h
  exact ⟨a1, a2, a3, a4, fun m hm h0 => ⟨h3 m hm h0, (a5 m hm h0).2⟩, a6, a7, a8, a9, a10, a11, a12⟩
theorem INV.g2 {D D' : zD} (h : INV D) (hf : ∀ f, f ≠ 2 → D' f = D f) (h2 : ∀ m, m < 16 → D' 2 m = 0 ∨ (D' 2 m = 1 ∧ D 0 m ≠ 0)) : INV D' := by
  unfold INV
  rw [hf 0 (by decide), hf 1 (by decide), hf 3 (by decide), hf 9 (by decide), hf 4 (by decide), hf 5 (by decide), hf 6 (by decide), hf 7 (by decide), hf 8 (by decide), hf 10 (by decide), hf 11 (by decide), hf 12 (by decide)]
  obtain ⟨a1, a2, a3, a4, a5, a6, a7, a8, a9, a10, a11, a12⟩ := h
  exact ⟨a1, a2, a3, h2, a5, a6, a7, a8, a9, a10, a11, a12⟩
theorem INV.g1 {D D' : zD} (h : INV D) (hf : ∀ f, f ≠ 1 → D' f = D f) (h2 : ∀ m, m < 16 → D' 1 m = 0 ∨ (D' 1 m = 1 ∧ D 0 m = 0) ∨ (D' 1 m = 2 ∧ D 0 m ≠ 0)) : INV D' := by
  unfold INV
  rw [hf 0 (by decide), hf 2 (by decide), hf 3 (by decide), hf 9 (by decide), hf 4 (by decide), hf 5 (by decide), hf 6 (by decide), hf 7 (by decide), hf 8 (by decide), hf 10 (by decide), hf 11 (by decide), hf 12 (by decide)]
  obtain ⟨a1, a2, a3, a4, a5, a6, a7, a8, a9, a10, a11, a12⟩ := h
  exact ⟨a1, a2, h2, a4, a5, a6, a7, a8, a9, a10, a11, a12⟩
theorem INV.draw1 {D : zD} (h : INV D) {x : Nat} (hx : x < 2147483648) : INV (dset D 6 3 x) := by
  have e : ∀ f, f ≠ 6 → dset D 6 3 x f = D f := fun f hf => dset_ff _ _ _ hf
  have e0 : dset D 6 3 x 6 0 = D 6 0 := dset_k _ _ _ (by decide)
  have e1 : dset D 6 3 x 6 1 = D 6 1 := dset_k _ _ _ (by decide)
  have e2 : dset D 6 3 x 6 2 = D 6 2 := dset_k _ _ _ (by decide)
  have e3 : dset D 6 3 x 6 3 = x := dset_at _ _ _ _
  unfold INV
  rw [e 0 (by decide), e 1 (by decide), e 2 (by decide), e 3 (by decide), e 9 (by decide), e 4 (by decide), e 5 (by decide), e 7 (by decide), e 8 (by decide), e 10 (by decide), e 11 (by decide), e 12 (by decide), e0, e1, e2, e3]
  obtain ⟨a1, a2, a3, a4, a5, a6, a7, a8, a9, a10, a11, a12⟩ := h
  exact ⟨a1, a2, a3, a4, a5, a6, ⟨a7.1, a7.2.1, a7.2.2.1, hx⟩, a8, a9, a10, a11, a12⟩
theorem INV.come {D : zD} (h : INV D) {m : Nat} (h0 : D 0 m = 0) : INV (dset D 1 m 1) := by
  refine h.g1 (fun f hf => dset_ff _ _ _ hf) (fun j hj => ?_)
  by_cases e : j = m
  · subst e; rw [dset_at]; exact Or.inr (Or.inl ⟨rfl, h0⟩)
  · rw [dset_k _ _ _ e]; exact h.told hj
theorem INV.leave {D : zD} (h : INV D) {m : Nat} (h0 : D 0 m ≠ 0) : INV (dset D 1 m 2) := by
  refine h.g1 (fun f hf => dset_ff _ _ _ hf) (fun j hj => ?_)
  by_cases e : j = m
  · subst e; rw [dset_at]; exact Or.inr (Or.inr ⟨rfl, h0⟩)
  · rw [dset_k _ _ _ e]; exact h.told hj
theorem INV.sleep {D : zD} (h : INV D) {m : Nat} (h0 : D 0 m ≠ 0) : INV (dset D 2 m 1) := by
  refine h.g2 (fun f hf => dset_ff _ _ _ hf) (fun j hj => ?_)
  by_cases e : j = m
  · subst e; rw [dset_at]; exact Or.inr ⟨rfl, h0⟩
  · rw [dset_k _ _ _ e]; exact h.late hj
theorem INV.wake {D : zD} (h : INV D) {m : Nat} : INV (dset D 2 m 0) := by
  refine h.g2 (fun f hf => dset_ff _ _ _ hf) (fun j hj => ?_)
  by_cases e : j = m
  · subst e; rw [dset_at]; exact Or.inl rfl
  · rw [dset_k _ _ _ e]; exact h.late hj
theorem INV.lose {D : zD} (h : INV D) {m x : Nat} (hx : D 0 m ≠ 0 → x ≤ D 6 1) : INV (dset D 3 m x) := by
  refine h.g3 (fun f hf => dset_ff _ _ _ hf) (fun j hj h0 => ?_)
  by_cases e : j = m
  · subst e; rw [dset_at]; exact hx h0
  · rw [dset_k _ _ _ e]; exact h.read hj h0
theorem rds_9 {m i0 : Nat} {D : zD} (hm : m < 16) (h : ∀ k, k < D 6 0 → D 9 k < 65536) : ∀ n k, k < D 6 0 → (rds m i0 D n).1 9 k < 65536
  | 0, k, hk => h k hk
  | n + 1, k, hk => by
    unfold rds
    split
    · show dset _ 9 _ _ 9 k < _
      by_cases e : k = (rds m i0 D n).1 10 (i0 + n)
      · rw [← e, dset_at]
        exact Nat.or_lt_two_pow (n := 16) (rds_9 hm h n k hk) (Nat.pow_lt_pow_right (by decide) hm)
      · rw [dset_k _ _ _ e]; exact rds_9 hm h n k hk
    · exact rds_9 hm h n k hk
theorem INV.rdm {D : zD} (h : INV D) {m : Nat} (hm : m < 16) : INV (rdm m D) := by
  have h1 : INV (rds m (D 3 m) D (D 6 1 - D 3 m)).1 := h.g9 (fun f hf => rds_f hf _) (fun k hk => rds_9 hm (fun k hk => (h.keys hk).2.2.2) _ k hk)
  have := h1.lose (m := m) (x := D 6 1) (fun _ => by rw [rds_f (by decide)]; exact Nat.le_refl _)
  exact this
theorem INV.rdn {D : zD} (h : INV D) : ∀ n, n ≤ 16 → INV (rda D n)
  | 0, _ => h
  | n + 1, hn => by
    unfold rda
    split
    · exact (INV.rdn h n (by omega)).rdm (by omega)
    · exact INV.rdn h n (by omega)
theorem INV.btc {D : zD} (h : INV D) (hb : brf D = nI 0) : INV (btc D) := (h.btc1 hb).rdn 16 (Nat.le_refl _)
/-- letters told again -/
theorem INV.more {D T : zD} (h : INV D) (hE : ltE D T) (h189 : T 6 1 ≤ 189) (h62 : D 6 2 ≠ 0) (hn : ∀ i, D 6 1 ≤ i → i < T 6 1 → T 10 i < D 6 0 ∧ T 11 i < D 6 0 ∧ T 12 i = 0) : INV T := by
  obtain ⟨e1, e2, e3, e4⟩ := hE
  have e : ∀ f, f ≠ 6 → f ≠ 10 → f ≠ 11 → f ≠ 12 → T f = D f := e1
  unfold INV
  rw [e 0 (by decide) (by decide) (by decide) (by decide), e 1 (by decide) (by decide) (by decide) (by decide), e 2 (by decide) (by decide) (by decide) (by decide), e 3 (by decide) (by decide) (by decide) (by decide), e 4 (by decide) (by decide) (by decide) (by decide), e 5 (by decide) (by decide) (by decide) (by decide), e 7 (by decide) (by decide) (by decide) (by decide), e 8 (by decide) (by decide) (by decide) (by decide), e 9 (by decide) (by decide) (by decide) (by decide), e2 0 (by decide), e2 2 (by decide), e2 3 (by decide)]
  obtain ⟨a1, a2, a3, a4, a5, a6, a7, a8, a9, a10, a11, a12⟩ := h
  refine ⟨a1, a2, a3, a4, fun m hm h0 => ⟨Nat.le_trans (a5 m hm h0).1 e3, (a5 m hm h0).2⟩, a6, ⟨a7.1, h189, a7.2.2⟩, a8, fun i hi => ?_, a10, fun i j hi hj ei ej he => ?_, fun q => absurd q h62⟩
  · by_cases hi2 : i < D 6 1
    · obtain ⟨x, y, z⟩ := e4 i hi2
      rw [x, y, z]; exact a9 i hi2
    · obtain ⟨x, y, z⟩ := hn i (by omega) hi
      exact ⟨x, y, by omega⟩
  · have old : ∀ i, i < T 6 1 → T 12 i = D 6 2 → i < D 6 1 := fun i hi ei => by
      refine Nat.lt_of_not_le fun q => ?_
      have := (hn i q hi).2.2
      omega
    have oi := old i hi ei
    have oj := old j hj ej
    rw [(e4 i oi).2.2] at ei
    rw [(e4 j oj).2.2] at ej
    rw [(e4 i oi).2.1, (e4 j oj).2.1] at he
    exact a11 i j oi oj ei ej he
/-- letters that mend keys: from node u up -/
def mnI (D T : zD) (m c : Nat) : Prop := ltE D T ∧ T 6 1 ≤ D 6 1 + c ∧ ∀ i, D 6 1 ≤ i → i < T 6 1 → T 10 i < D 6 0 ∧ T 11 i < D 6 0 ∧ T 12 i = 0
theorem mnI.add {D T : zD} {m c a b : Nat} (h : mnI D T m c) (ha : a < D 6 0) (hb : b < D 6 0) : mnI D (ladd T a b 0) m (c + 1) := by
  obtain ⟨h1, h2, h3⟩ := h
  refine ⟨h1.add _ _ _, by rw [ladd_61]; omega, fun i hi hi2 => ?_⟩
  rw [ladd_61] at hi2
  by_cases e : i = T 6 1
  · subst e
    obtain ⟨x, y, z⟩ := ladd_n (D := T) (a := a) (b := b) (c := 0)
    rw [x, y, z]; exact ⟨ha, hb, rfl⟩
  · obtain ⟨x, y, z⟩ := ladd_o (D := T) (a := a) (b := b) (c := 0) e
    rw [x, y, z]; exact h3 i hi (by omega)
theorem mnl_I {D : zD} {m : Nat} (hleaf : key D (D 0 m) < D 6 0) : ∀ n u T c, mnI D T m c → (∀ v, bnf n u v = true → key D v < D 6 0) → mnI D (mnl m n u T) m (c + n)
  | 0, u, T, c, h, _ => h
  | n + 1, u, T, c, h, hp => by
    unfold mnl
    by_cases hu : u = 0
    · rw [if_pos hu]
      exact ⟨h.1, by have := h.2.1; omega, h.2.2⟩
    · rw [if_neg hu]
      have hpu : key D u < D 6 0 := hp u (by simp [bnf, hu])
      have hp2 : ∀ v, bnf n (u / 2) v = true → key D v < D 6 0 := fun v q => hp v (by simp [bnf, hu, q])
      have e0 : T 0 = D 0 := h.1.1 0 (by decide) (by decide) (by decide) (by decide)
      split
      · have := mnl_I hleaf n (u / 2) T c h hp2
        exact ⟨this.1, by have := this.2.1; omega, this.2.2⟩
      · have h2 := h.add (a := key T u) (b := key T (T 0 m)) (by rw [h.1.key]; exact hpu) (by rw [h.1.key, e0]; exact hleaf)
        have := mnl_I hleaf n (u / 2) _ (c + 1) h2 hp2
        exact ⟨this.1, by have := this.2.1; omega, this.2.2⟩
theorem bn_up : ∀ l, l < 32 → 16 ≤ l → ∀ v, v < 32 → bnf 4 (l / 2) v = true → bn l v = true := by decide +kernel
theorem mrf_0 {D : zD} {m : Nat} (h : mrf D m = nI 0) : D 0 m ≠ 0 ∧ D 2 m ≠ 1 ∧ hall D m 4 (D 0 m / 2) = false ∧ D 6 0 < 200 ∧ D 6 1 < 160 := by
  unfold mrf ful at h
  by_cases h1 : D 0 m = 0 ∨ D 2 m = 1 ∨ hall D m 4 (D 0 m / 2) = true
  · rw [if_pos h1] at h; exact absurd h (by decide)
  · rw [if_neg h1] at h
    by_cases h2 : 200 ≤ D 6 0 ∨ 160 ≤ D 6 1
    · rw [if_pos h2] at h; exact absurd h (by decide)
    · refine ⟨fun q => h1 (Or.inl q), fun q => h1 (Or.inr (Or.inl q)), ?_, by omega, by omega⟩
      cases hh : hall D m 4 (D 0 m / 2) with
      | false => rfl
      | true => exact absurd (Or.inr (Or.inr hh)) h1
theorem INV.key {D : zD} (h : INV D) {m v : Nat} (hm : m < 16) (hb : bn (D 0 m) v = true) : key D v < D 6 0 := by
  have h1 := bnf_le hb
  have h2 := h.ok.lt hm
  exact (h.live h1.2 (by omega) (sm_ne.mpr ⟨m, hm, hb⟩)).1
theorem INV.mnl {D : zD} (h : INV D) {m : Nat} (hm : m < 16) (hr : mrf D m = nI 0) : INV (mnl m 4 (D 0 m / 2) D) ∧ mnI D (mnl m 4 (D 0 m / 2) D) m 4 := by
  obtain ⟨h0, -, -, -, h61⟩ := mrf_0 hr
  have hl : 16 ≤ D 0 m ∧ D 0 m < 32 := (h.leaf hm).resolve_left h0
  have hI := mnl_I (D := D) (m := m) (h.key hm (bn_self (by omega))) 4 (D 0 m / 2) D 0 ⟨ltE.rf, Nat.le_refl _, fun i h1 h2 => absurd h2 (Nat.not_lt.mpr h1)⟩ (fun v hv => h.key hm (bn_up _ hl.2 hl.1 v (by have := bnf_le hv; omega) hv))
  rw [Nat.zero_add] at hI
  refine ⟨h.more hI.1 (by have := hI.2.1; omega) ?_ hI.2.2, hI⟩
  have := h.sitc hm h0
  have := (h.came hm).1
  omega
theorem INV.mnd {D : zD} (h : INV D) {m : Nat} (hm : m < 16) (hr : mrf D m = nI 0) : INV (mnd m D) := (h.mnl hm hr).1.rdn 16 (Nat.le_refl _)
theorem sm_none (v : Nat) : sm (fun _ => 0) v = 0 := dm_zero.mpr fun m _ => bnf_0 5 v
theorem INV.begun {D : zD} (h : INV D) : INV (bgn D) := by
  have e : ∀ f, f ≠ 6 → bgn D f = fun _ => 0 := fun f hf => funext fun k => if_neg (fun q => hf q.1)
  have e0 : bgn D 6 0 = 0 := rfl
  have e1 : bgn D 6 1 = 0 := rfl
  have e2 : bgn D 6 2 = 0 := rfl
  have e3 : bgn D 6 3 = D 6 3 := rfl
  unfold INV
  rw [e 0 (by decide), e 1 (by decide), e 2 (by decide), e 3 (by decide), e 9 (by decide), e 4 (by decide), e 5 (by decide), e 7 (by decide), e 8 (by decide), e 10 (by decide), e 11 (by decide), e 12 (by decide), e0, e1, e2, e3]
  refine ⟨fun m _ => Or.inl rfl, fun m j _ _ _ q => absurd rfl q, fun m _ => Or.inl rfl, fun m _ => Or.inl rfl, fun m _ q => absurd rfl q, fun m _ => ⟨Nat.le_refl _, Nat.le_refl _, fun q => absurd rfl q⟩, ⟨by decide, by decide, ?_, h.draw⟩, fun k q => absurd q (Nat.not_lt_zero k), fun k q => absurd q (Nat.not_lt_zero k), fun v _ _ q => absurd (sm_none v) q, fun i j q => absurd q (Nat.not_lt_zero i), fun _ => rfl⟩
  rw [sm_none]
  decide
