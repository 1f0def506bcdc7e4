/-! BEHIND A BATCH: who holds what, once all have read -/
theorem cur_cong {D D' : zD} (e0 : D' 0 = D 0) (e7 : D' 7 = D 7) (e6 : D' 6 0 = D 6 0) (k : Nat) : cur D' k ↔ cur D k := by
  unfold cur
  rw [e0, e7, e6, key_cong e7 e6]
theorem rda_up {D : zD} {n j k : Nat} (h : hd D j k = true) : hd (rda D n) j k = true := by
  by_cases q : j < n ∧ awk D j
  · rw [((rda_all n j).1 q.1 q.2).1 k]; exact rds_up _ h
  · rw [((rda_all n j).2 q).1 k]; exact h
theorem rda_S1 {B : zD} (hI : INV B) (h1 : S1 B) (h2 : S2 B) : S1 (rda B 16) := by
  intro k hk m hm hh
  have e0 : rda B 16 0 = B 0 := rda_f (by decide) (by decide) 16
  have e7 : rda B 16 7 = B 7 := rda_f (by decide) (by decide) 16
  have e6 : rda B 16 6 = B 6 := rda_f (by decide) (by decide) 16
  have hk' : cur B k := (cur_cong e0 e7 (congrFun e6 0) k).mp hk
  rw [e0, e7]
  by_cases q : awk B m
  · rw [((rda_all 16 m).1 hm q).1 k] at hh
    refine rds_P (P := fun k => cur B k → bn (B 0 m) (B 7 k) = true) (fun k h c => h1 k c m hm h) _ (fun i i1 i2 ih hc => ?_) k hh hk'
    have hr := hI.read hm q.1
    have hi : i < B 6 1 := by omega
    obtain ⟨c1, c2, c3⟩ := h2 i hi hc
    exact bn_tr _ (hI.ok.lt hm) _ (hI.keys c1.1).2.1 (ih c1) _ (by omega) c3
  · rw [((rda_all 16 m).2 (fun z => q z.2)).1 k] at hh
    exact h1 k hk' m hm hh
theorem rda_S2 {B : zD} (h2 : S2 B) : S2 (rda B 16) := by
  have e0 : rda B 16 0 = B 0 := rda_f (by decide) (by decide) 16
  have e7 : rda B 16 7 = B 7 := rda_f (by decide) (by decide) 16
  have e6 : rda B 16 6 = B 6 := rda_f (by decide) (by decide) 16
  have e10 : rda B 16 10 = B 10 := rda_f (by decide) (by decide) 16
  have e11 : rda B 16 11 = B 11 := rda_f (by decide) (by decide) 16
  intro i hi hk
  rw [e10, e11, e7]
  rw [e10] at hk
  rw [e6] at hi
  obtain ⟨c1, c2, c3⟩ := h2 i hi ((cur_cong e0 e7 (congrFun e6 0) _).mp hk)
  exact ⟨(cur_cong e0 e7 (congrFun e6 0) _).mpr c1, c2, c3⟩
theorem rda_S3 {B : zD} (h3 : S3 B) : S3 (rda B 16) := by
  have e8 : rda B 16 8 = B 8 := rda_f (by decide) (by decide) 16
  have e6 : rda B 16 6 = B 6 := rda_f (by decide) (by decide) 16
  have e10 : rda B 16 10 = B 10 := rda_f (by decide) (by decide) 16
  have e11 : rda B 16 11 = B 11 := rda_f (by decide) (by decide) 16
  unfold S3
  rw [e8, e6, e10, e11]
  exact h3
theorem rda_H2 {B : zD} (h2 : H2 B) : H2 (rda B 16) := by
  have e0 : rda B 16 0 = B 0 := rda_f (by decide) (by decide) 16
  have e7 : rda B 16 7 = B 7 := rda_f (by decide) (by decide) 16
  have e6 : rda B 16 6 = B 6 := rda_f (by decide) (by decide) 16
  intro m hm h0
  rw [e0] at h0 ⊢
  rw [key_cong e7 (congrFun e6 0)]
  exact rda_up (h2 m hm h0)
theorem btc_f {D : zD} {f : Nat} (h3 : f ≠ 3) (h9 : f ≠ 9) : btc D f = btB D f := rda_f h3 h9 16
theorem bt_H2 {D B : zD} (h : INV D) (hB : BT D B) (h2 : H2 D) : H2 B := by
  intro m hm h0
  rw [hB.1.1] at h0 ⊢
  exact bt_own h hB hm h0 (fun q => h2 m hm q)
/-- one that is awake behind a batch: it came, or it sat awake -/
theorem bt_awk {D B : zD} (h : INV D) (hB : BT D B) (h1 : H1 D) {m : Nat} (hm : m < 16) (q : awk B m) : lfD D m ≠ 0 ∧ B 3 m = D 6 1 ∧ (D 1 m = 1 ∨ (D 1 m = 0 ∧ ∀ v, v < 32 → bn (D 0 m) v = true → hd D m (key D v) = true)) := by
  obtain ⟨⟨s0, s1, s2, s3, s4⟩, -⟩ := hB
  obtain ⟨q0, q2⟩ := q
  rw [s0] at q0
  rw [s2] at q2
  rw [s3]
  rcases mvD_at h hm with z | z | z
  · rw [if_neg (by omega)]
    exact ⟨q0, rfl, Or.inl z.1⟩
  · exact absurd z.2 q0
  · rw [if_pos z.1] at q2 ⊢
    have e : lfD D m = D 0 m := z.2
    have := h1 m hm ⟨by rw [← e]; exact q0, q2⟩
    exact ⟨q0, this.1, Or.inr ⟨z.1, this.2⟩⟩
theorem btc_SEC {D : zD} (h : INV D) (hb : brf D = nI 0) (hs : SEC D) : SEC (btc D) := by
  obtain ⟨h1, h2, h3, h4⟩ := hs
  have hB := bt_BT h
  have hIB : INV (btB D) := h.btc1 hb
  have b1 := bt_S1 h hB h1
  have b2 := bt_S2 h hB hIB h2
  have e0 : btc D 0 = btB D 0 := btc_f (by decide) (by decide)
  have e2 : btc D 2 = btB D 2 := btc_f (by decide) (by decide)
  have e6 : btc D 6 = btB D 6 := btc_f (by decide) (by decide)
  have e7 : btc D 7 = btB D 7 := btc_f (by decide) (by decide)
  refine ⟨rda_S1 hIB b1 b2, rda_S2 b2, fun m hm q => ?_, rda_H2 (bt_H2 h hB h4)⟩
  have q' : awk (btB D) m := by
    unfold awk at q ⊢
    rw [e0, e2] at q
    exact q
  obtain ⟨a1, a2, a3⟩ := bt_awk h hB h3 hm q'
  have ha := (rda_all (D := btB D) 16 m).1 hm q'
  refine ⟨?_, fun v hv hbv => ?_⟩
  · rw [e6]; exact ha.2
  · rw [e0, hB.1.1] at hbv
    rw [key_cong e7 (congrFun e6 0)]
    show hd (rda (btB D) 16) m _ = true
    rw [ha.1]
    unfold rdk
    rw [a2]
    exact bt_path h hB hm a1 a3 rfl rfl rfl rfl rfl (fun _ => rfl) hbv
theorem btc_S3 {D : zD} (h : INV D) (hb : brf D = nI 0) (h3 : S3 D) : S3 (btc D) := rda_S3 (bt_S3 h (bt_BT h) (h.btc1 hb) h3)
/-- who doesn't sit behind a batch holds what it held -/
theorem btc_out {D : zD} (h : INV D) {m k : Nat} (hm : m < 16) (h0 : lfD D m = 0) (hk : k < btB D 6 0) : hd (btc D) m k = (decide (k < D 6 0) && hd D m k) := by
  have hB := bt_BT h
  have hq : ¬ (m < 16 ∧ awk (btB D) m) := fun z => z.2.1 (by rw [hB.1.1]; exact h0)
  show hd (rda (btB D) 16) m k = _
  rw [((rda_all 16 m).2 hq).1 k]
  rcases Nat.lt_or_ge k (D 6 0) with q | q
  · rw [decide_eq_true q, Bool.true_and]
    show (btB D 9 k).testBit m = _
    rw [(hB.2.2.1 k q).2.2]
  · rw [decide_eq_false (by omega), Bool.false_and]
    show (btB D 9 k).testBit m = _
    rw [(hB.2.2.2.1 k q hk).2.2.2.2.2.1]
    unfold hlf
    split
    · rw [sm_bit hm, h0]; exact bnf_0 5 _
    · exact Nat.zero_testBit _
/-- who never held a key, and doesn't sit -/
theorem btc_ever {D : zD} (h : INV D) (hb : brf D = nI 0) (hs : SEC D) {m : Nat} (hm : m < 16) : hby (btc D) m (btc D 6 0) = 0 ↔ hby D m (D 6 0) = 0 ∧ btc D 0 m = 0 := by
  have hB := bt_BT h
  have hI := h.btc hb
  have hS := btc_SEC h hb hs
  have e0 : btc D 0 = btB D 0 := btc_f (by decide) (by decide)
  have e6 : btc D 6 0 = btB D 6 0 := congrFun (btc_f (by decide) (by decide)) 0
  by_cases q : btc D 0 m = 0
  · have q' : lfD D m = 0 := by rw [← hB.1.1, ← e0]; exact q
    rw [hby_0, hby_0, e6]
    constructor
    · intro z
      refine ⟨fun k hk => ?_, q⟩
      have h1 := hB.2.1.1
      have := z k (by omega)
      rw [btc_out h hm q' (by omega), decide_eq_true hk, Bool.true_and] at this
      exact this
    · intro z k hk
      rw [btc_out h hm q' hk]
      rcases Nat.lt_or_ge k (D 6 0) with y | y
      · rw [z.1 k y, Bool.and_false]
      · rw [decide_eq_false (by omega), Bool.false_and]
  · refine ⟨fun z => ?_, fun z => absurd z.2 q⟩
    have h2 := hS.2.2.2 m hm q
    have hl := hI.leaf hm
    have hk := (hI.live (v := btc D 0 m) (by omega) (by omega) (sm_of hm (bn_at _ (by omega) (by omega)).1)).1
    rw [(hby_0 _).mp z _ hk] at h2
    cases h2
/-- one that holds nothing and comes holds new keys alone -/
theorem btc_new {D : zD} (h : INV D) {m : Nat} (hm : m < 16) (h1 : D 1 m = 1) (hf : ∀ k, k < D 6 0 → hd D m k = false) : ∀ k, k < btB D 6 0 → hd (btc D) m k = true → D 6 0 ≤ k := by
  have hB := bt_BT h
  have hbase : ∀ k, hd (btB D) m k = true → k < btB D 6 0 → D 6 0 ≤ k := fun k hh hk => by
    rcases Nat.lt_or_ge k (D 6 0) with q | q
    · have : (btB D 9 k).testBit m = true := hh
      rw [(hB.2.2.1 k q).2.2, show (D 9 k).testBit m = false from hf k q] at this
      cases this
    · exact q
  intro k hk hh
  have h3 : btB D 3 m = D 6 1 := by rw [hB.1.2.2.2.1, if_neg (by omega)]
  by_cases q : awk (btB D) m
  · have hh' : hd (rda (btB D) 16) m k = true := hh
    rw [((rda_all 16 m).1 hm q).1 k] at hh'
    refine rds_P (P := fun k => k < btB D 6 0 → D 6 0 ≤ k) (fun k a b => hbase k a b) _ (fun i i1 i2 _ _ => ?_) k hh' hk
    rw [h3] at i1 i2
    obtain ⟨w, w1, w2, w3, w4, w5, w6, w7, -⟩ := hB.2.2.2.2.2.1 i i1 (by have := hB.2.1.2.1; omega)
    rw [w7]
    have hl : sm (lfD D) (w / 2) ≠ 0 := by
      obtain ⟨j, hj, hb⟩ := sm_ne.mp w3
      exact sm_of hj (bn_tr _ ((mvD_F h).1.lt hj) _ w2 hb _ (by omega) (bn_par w w2 w1))
    exact ((hB.2.2.2.2.2.2.2 (w / 2) (by omega) (by omega)).2 w4 hl).1
  · have hh' : hd (rda (btB D) 16) m k = true := hh
    rw [((rda_all 16 m).2 (fun z => q z.2)).1 k] at hh'
    exact hbase k hh' hk
/-! who is opened what -/
/-- a set of members apart from those at or beneath a node opens no key that it has -/
theorem opens_not {D : zD} (h : INV D) (h1 : S1 D) (h2 : S2 D) {s : Nat} {r : Nat} {v : Nat} (v1 : 1 ≤ v) (v2 : v < 32) (hv : sm (D 0) v ≠ 0) (hs : ∀ m, m < 16 → s.testBit m = true → bn (D 0 m) v = false) : (opr D (f0 D s) r).1 (key D v) = false := by
  cases q : (opr D (f0 D s) r).1 (key D v) with
  | false => rfl
  | true =>
    exfalso
    obtain ⟨c1, c2⟩ := cur.key h v1 v2 hv
    have hP : ∀ k, (opr D (f0 D s) r).1 k = true → (cur D k → ∃ m, m < 16 ∧ s.testBit m = true ∧ bn (D 0 m) (D 7 k) = true) := by
      refine opr_sub (fun k hk hc => ?_) (fun i hi ih hc => ?_) r
      · obtain ⟨m, m1, m2⟩ := f0_ex hk
        have hm : m < 16 := by
          rcases Nat.lt_or_ge m 16 with z | z
          · exact z
          · have := (h.keys hc.1).2.2.2
            rw [show hd D m k = false from Nat.testBit_lt_two_pow (Nat.lt_of_lt_of_le this (Nat.pow_le_pow_right (n := 2) (by decide) z))] at m2
            cases m2
        exact ⟨m, hm, m1, h1 k hc m hm m2⟩
      · obtain ⟨a1, a2, a3⟩ := h2 i hi hc
        obtain ⟨m, m1, m2, m3⟩ := ih a1
        exact ⟨m, m1, m2, bn_tr _ (h.ok.lt m1) _ (h.keys a1.1).2.1 m3 _ (by omega) a3⟩
    obtain ⟨m, m1, m2, m3⟩ := hP _ q c1
    rw [c2] at m3
    rw [hs m m1 m2] at m3
    cases m3
theorem got_not {D : zD} (h : INV D) (h1 : S1 D) (h2 : S2 D) {hh : zH} {m t a n : Nat} (hm : m < 16) (hg : gok D hh t a n = true) (hv : sm (D 0) 1 ≠ 0) (h0 : D 0 m = 0) : gop D hh m t a n (key D 1) = false := by
  cases q : gop D hh m t a n (key D 1) with
  | false => rfl
  | true =>
    exfalso
    obtain ⟨c1, c2⟩ := cur.key h (v := 1) (by decide) (by decide) hv
    have h61 := h.written
    have hP : ∀ k, gop D hh m t a n k = true → (cur D k → bn (D 0 m) (D 7 k) = true) := by
      refine gop_sub (by omega) (fun k hk hc => ?_) (fun i hi ih hc => ?_) n hg
      · obtain ⟨j, m1, m2⟩ := f0_ex hk
        rw [Nat.testBit_two_pow, decide_eq_true_iff] at m1
        subst m1
        exact h1 k hc m hm m2
      · obtain ⟨a1, a2, a3⟩ := h2 i hi hc
        exact bn_tr _ (h.ok.lt hm) _ (h.keys a1.1).2.1 (ih a1) _ (by omega) a3
    have := hP _ q c1
    rw [c2, h0, show bn 0 1 = false from bnf_0 5 1] at this
    cases this
/-- who holds a node's key: those at or beneath it, where nobody is late -/
theorem holders_eq {D : zD} (h : INV D) (h1 : S1 D) (h3 : H1 D) (hl : ∀ m, m < 16 → D 2 m = 0) {v : Nat} (v1 : 1 ≤ v) (v2 : v < 32) (hv : sm (D 0) v ≠ 0) : D 9 (key D v) = sm (D 0) v := by
  obtain ⟨c1, c2⟩ := cur.key h v1 v2 hv
  refine Nat.eq_of_testBit_eq (fun i => ?_)
  rcases Nat.lt_or_ge i 16 with hi | hi
  · rw [sm_bit hi]
    cases q : bn (D 0 i) v with
    | true =>
      have h0 : D 0 i ≠ 0 := fun e => by rw [e, show bn 0 v = false from bnf_0 5 v] at q; cases q
      exact (h3 i hi ⟨h0, hl i hi⟩).2 v v2 q
    | false =>
      cases q2 : (D 9 (key D v)).testBit i with
      | false => rfl
      | true =>
        have := h1 _ c1 i hi q2
        rw [c2, q] at this; cases this
  · rw [Nat.testBit_lt_two_pow (Nat.lt_of_lt_of_le (h.keys c1.1).2.2.2 (Nat.pow_le_pow_right (n := 2) (by decide) hi)), Nat.testBit_lt_two_pow (Nat.lt_of_lt_of_le (sm_lt _ _) (Nat.pow_le_pow_right (n := 2) (by decide) hi))]
