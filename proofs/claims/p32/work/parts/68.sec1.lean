/-! WHAT LETTERS OPEN: sets of keys that are closed; who opens what -/
theorem op1_sub {D : zD} {f : Nat → Bool} {P : Nat → Prop} {i : Nat} (h0 : ∀ k, f k = true → P k) (hi : P (D 11 i) → P (D 10 i)) : ∀ k, op1 D f i k = true → P k := by
  intro k h
  unfold op1 at h
  rw [Bool.or_eq_true] at h
  rcases h with h | h
  · exact h0 k h
  · rw [Bool.and_eq_true, beq_iff_eq] at h
    rw [h.1]; exact hi (h0 _ h.2)
theorem opf_sub {D : zD} {f : Nat → Bool} {P : Nat → Prop} (h0 : ∀ k, f k = true → P k) : ∀ n, (∀ i, i < n → P (D 11 i) → P (D 10 i)) → ∀ k, (opf D f n).1 k = true → P k
  | 0, _ => h0
  | n + 1, h => op1_sub (opf_sub h0 n (fun i hi => h i (by omega))) (h n (by omega))
theorem opr_sub {D : zD} {f : Nat → Bool} {P : Nat → Prop} (h0 : ∀ k, f k = true → P k) (hc : ∀ i, i < D 6 1 → P (D 11 i) → P (D 10 i)) : ∀ r k, (opr D f r).1 k = true → P k
  | 0 => h0
  | r + 1 => by
    unfold opr
    split
    · exact opf_sub (opr_sub h0 hc r) (D 6 1) hc
    · exact opr_sub h0 hc r
theorem op1_up {D : zD} {f : Nat → Bool} {i k : Nat} (h : f k = true) : op1 D f i k = true := by simp [op1, h]
theorem opf_up {D : zD} {f : Nat → Bool} {k : Nat} (h : f k = true) : ∀ i, (opf D f i).1 k = true
  | 0 => h
  | i + 1 => op1_up (opf_up h i)
theorem opr_up {D : zD} {f : Nat → Bool} {k : Nat} (h : f k = true) : ∀ r, (opr D f r).1 k = true
  | 0 => h
  | r + 1 => by
    unfold opr
    split
    · exact opf_up (opr_up h r) _
    · exact opr_up h r
theorem f0_ex {D : zD} {s k : Nat} (h : f0 D s k = true) : ∃ m, s.testBit m = true ∧ hd D m k = true := by
  unfold f0 at h
  rw [Bool.not_eq_true', beq_eq_false_iff_ne] at h
  by_cases e : ∃ m, (D 9 k &&& s).testBit m = true
  · obtain ⟨m, hm⟩ := e
    rw [Nat.testBit_and, Bool.and_eq_true] at hm
    exact ⟨m, hm.2, hm.1⟩
  · refine absurd (Nat.eq_of_testBit_eq (fun i => ?_)) h
    rw [Nat.zero_testBit]
    cases q : (D 9 k &&& s).testBit i with
    | false => rfl
    | true => exact absurd ⟨i, q⟩ e
theorem f0_of {D : zD} {s k m : Nat} (h1 : s.testBit m = true) (h2 : hd D m k = true) : f0 D s k = true := by
  unfold f0
  rw [Bool.not_eq_true', beq_eq_false_iff_ne]
  intro e
  have h3 : (D 9 k &&& s).testBit m = true := by rw [Nat.testBit_and, h1, show (D 9 k).testBit m = true from h2]; rfl
  rw [e, Nat.zero_testBit] at h3
  cases h3
theorem gid_lt {D : zD} {h : zH} {t a n k : Nat} (hg : gok D h t a n = true) (hk : k < n) (h61 : D 6 1 < 2147483648) : gid h t a k < D 6 1 := by
  obtain ⟨h1, h2⟩ := gok_at n hk hg
  unfold gid
  generalize h.2.2 t (a + k) = x at h1 h2
  have e : x.toInt = (x.toBitVec.toNat : Int) := by
    have h3 : x.toInt = x.toBitVec.toInt := rfl
    rw [h3] at h1 h2 ⊢
    rw [BitVec.toInt_eq_toNat_cond] at h1 h2 ⊢
    have := x.toBitVec.isLt
    split
    · rfl
    next q => rw [if_neg q] at h1; omega
  omega
theorem gop_sub {D : zD} {h : zH} {m t a : Nat} {P : Nat → Prop} (h61 : D 6 1 < 2147483648) (h0 : ∀ k, f0 D (2 ^ m) k = true → P k) (hc : ∀ i, i < D 6 1 → P (D 11 i) → P (D 10 i)) : ∀ n, gok D h t a n = true → ∀ k, gop D h m t a n k = true → P k
  | 0, _ => h0
  | n + 1, hg => op1_sub (gop_sub h61 h0 hc n (gok_le (n + 1) (by omega) hg)) (hc _ (gid_lt hg (Nat.lt_succ_self n) h61))
theorem gop_up {D : zD} {h : zH} {m t a k : Nat} (h0 : f0 D (2 ^ m) k = true) : ∀ n, gop D h m t a n k = true
  | 0 => h0
  | n + 1 => op1_up (gop_up h0 n)
theorem bn_tr : ∀ a, a < 32 → ∀ b, b < 32 → bn a b = true → ∀ c, c < 32 → bn b c = true → bn a c = true := by decide +kernel
theorem bn_par : ∀ u, u < 32 → 2 ≤ u → bn u (u / 2) = true := by decide +kernel
theorem bn_pw0 : ∀ l, l < 32 → ∀ v, v < 32 → (16 ≤ l ∧ bn l v = true) → (v = l ∨ v = l / 2 ∨ v = l / 4 ∨ v = l / 8 ∨ v = l / 16) := by decide +kernel
theorem bn_pw : ∀ l, l < 32 → 16 ≤ l → ∀ v, v < 32 → bn l v = true → v = l ∨ v = l / 2 ∨ v = l / 4 ∨ v = l / 8 ∨ v = l / 16 := fun l h1 h2 v h3 h4 => bn_pw0 l h1 v h3 ⟨h2, h4⟩
theorem bn_at : ∀ l, l < 32 → 16 ≤ l → bn l l = true ∧ bn l (l / 2) = true ∧ bn l (l / 4) = true ∧ bn l (l / 8) = true ∧ bn l (l / 16) = true := by decide +kernel
theorem bn_up1 : ∀ l, l < 32 → 16 ≤ l → ∀ v, v < 16 → bn l v = true → bn (l / 2) v = true := by decide +kernel
theorem bn_dn1 : ∀ l, l < 32 → ∀ v, v < 32 → bn (l / 2) v = true → bn l v = true := by decide +kernel
theorem bn_root : ∀ l, l < 32 → l ≠ 0 → bn l 1 = true := by decide +kernel
/-- a live node that is not changed has the same members as before -/
theorem mvF.same {lf : Nat → Nat} {L K : Nat → Bool} {x : zM3} (h : mvF lf L K x) (hl : lfok lf) (hi : lfin lf) (hL : ∀ m, m < 16 → L m = true → 16 ≤ lf m) (hK : ∀ m, m < 16 → K m = true → lf m = 0) {v : Nat} (h32 : v < 32) (hv : sm x.1 v ≠ 0) (hc : x.2.2.testBit v = false) {m : Nat} (hm : m < 16) : bn (x.1 m) v = bn (lf m) v := by
  have hno : ∀ {c : Bool}, (c = true → x.2.2.testBit v = true) → c = false := fun {c} q => by
    cases c with
    | false => rfl
    | true => rw [q rfl] at hc; cases hc
  obtain ⟨h1, h2, h3, h4⟩ := h
  obtain ⟨a, b, c⟩ := h3 m hm
  cases qK : K m with
  | true =>
    rw [hK m hm qK, show bn 0 v = false from bnf_0 5 v]
    exact hno (fun q => (h4 v).mpr (Or.inr ⟨m, hm, qK, q⟩))
  | false =>
    cases qL : L m with
    | false => rw [c qK qL]
    | true =>
      rw [b qK qL, show bn 0 v = false from bnf_0 5 v]
      cases q : bn (lf m) v with
      | false => rfl
      | true =>
        exfalso
        rcases Nat.lt_or_ge v 16 with q16 | q16
        · have := (h4 v).mpr (Or.inl ⟨m, hm, qL, bn_up1 _ (hl.lt hm) (hL m hm qL) v q16 q⟩)
          rw [hc] at this; cases this
        · have e := (bn_leaf _ (hl.lt hm) v h32 q16).mp q
          obtain ⟨j, hj, qj⟩ := sm_ne.mp hv
          have ej := (bn_leaf _ (h1.lt hj) v h32 q16).mp qj
          obtain ⟨a', b', c'⟩ := h3 j hj
          cases qK' : K j with
          | true =>
            have := (h4 v).mpr (Or.inr ⟨j, hj, qK', qj⟩)
            rw [hc] at this; cases this
          | false =>
            cases qL' : L j with
            | true => rw [b' qK' qL'] at ej; omega
            | false =>
              rw [c' qK' qL'] at ej
              have := hi j m hj hm (by rw [ej, e]) (by omega)
              rw [this, qL] at qL'; cases qL'
/-! letters of a batch -/
theorem tl1_cnt {lf : Nat → Nat} {T : zD} {v w : Nat} : tl1 lf T v w 6 1 = T 6 1 + (if sm lf w = 0 then 0 else 1) := by
  unfold tl1
  split
  · rfl
  · exact ladd_61
theorem tl1_at {lf : Nat → Nat} {T : zD} {v w : Nat} (h : sm lf w ≠ 0) : tl1 lf T v w 10 (T 6 1) = key T v ∧ tl1 lf T v w 11 (T 6 1) = key T w ∧ tl1 lf T v w 12 (T 6 1) = T 6 2 + 1 := by
  unfold tl1
  rw [if_neg h]
  exact ladd_n
theorem tl_ltr {lf : Nat → Nat} {ch : Nat} {D : zD} : ∀ t, t ≤ 15 → tl lf ch D t 6 1 + ltr lf ch (15 - t) = D 6 1 + ltr lf ch 15
  | 0, _ => rfl
  | t + 1, ht => by
    have ih := tl_ltr (lf := lf) (ch := ch) (D := D) t (by omega)
    obtain ⟨n, hn⟩ : ∃ n, 15 - t = n + 1 := ⟨14 - t, by omega⟩
    rw [show 15 - (t + 1) = n by omega]
    rw [hn] at ih
    generalize ltr lf ch 15 = Z at ih ⊢
    unfold ltr at ih
    unfold tl
    rw [hn]
    by_cases q : ch.testBit (n + 1) = true
    · rw [if_pos q] at ih ⊢
      rw [tl1_cnt, tl1_cnt]
      omega
    · rw [if_neg q] at ih ⊢
      omega
theorem tl_X {lf : Nat → Nat} {ch : Nat} {D : zD} : ∀ t, t ≤ 15 → ∃ ix : Nat → Nat, ∀ w, 32 - 2 * t ≤ w → w < 32 → sm lf w ≠ 0 → ch.testBit (w / 2) = true → (D 6 1 ≤ ix w ∧ ix w < tl lf ch D t 6 1 ∧ tl lf ch D t 10 (ix w) = key D (w / 2) ∧ tl lf ch D t 11 (ix w) = key D w ∧ tl lf ch D t 12 (ix w) = D 6 2 + 1) ∧ ∀ w', w / 2 < w' / 2 → w' < 32 → sm lf w' ≠ 0 → ch.testBit (w' / 2) = true → ix w' < ix w
  | 0, _ => ⟨fun _ => 0, fun w h1 h2 => by omega⟩
  | t + 1, ht => by
    obtain ⟨ix, hx⟩ := tl_X (lf := lf) (ch := ch) (D := D) t (by omega)
    have hE := tl_E (lf := lf) (ch := ch) (D := D) t
    obtain ⟨v, hv⟩ : ∃ v, 15 - t = v := ⟨_, rfl⟩
    unfold tl
    rw [hv]
    generalize tl lf ch D t = T at *
    by_cases q : ch.testBit v = true
    · rw [if_pos q]
      have hE1 : ltE T (tl1 lf T v (2 * v)) := ltE.rf.tl lf v (2 * v)
      have hE2 : ltE (tl1 lf T v (2 * v)) (tl1 lf (tl1 lf T v (2 * v)) v (2 * v + 1)) := ltE.rf.tl lf v (2 * v + 1)
      have hc1 := tl1_cnt (lf := lf) (T := T) (v := v) (w := 2 * v)
      have hc2 := tl1_cnt (lf := lf) (T := tl1 lf T v (2 * v)) (v := v) (w := 2 * v + 1)
      have ha1 := fun h => tl1_at (lf := lf) (T := T) (v := v) (w := 2 * v) h
      have ha2 := fun h => tl1_at (lf := lf) (T := tl1 lf T v (2 * v)) (v := v) (w := 2 * v + 1) h
      generalize tl1 lf T v (2 * v) = T1 at *
      generalize tl1 lf T1 v (2 * v + 1) = T2 at *
      have k0 : ∀ u, key T u = key D u := fun u => hE.key u
      have k1 : ∀ u, key T1 u = key D u := fun u => (hE1.key u).trans (k0 u)
      have e62 : T 6 2 = D 6 2 := hE.2.1 2 (by decide)
      have e62' : T1 6 2 = D 6 2 := (hE1.2.1 2 (by decide)).trans e62
      have h61 := hE.2.2.1
      obtain ⟨iy, hy⟩ : ∃ iy : Nat → Nat, ∀ w, iy w = if w = 2 * v then T 6 1 else if w = 2 * v + 1 then T1 6 1 else ix w := ⟨_, fun _ => rfl⟩
      refine ⟨iy, fun w h1 h2 h3 h4 => ?_⟩
      have hold : ∀ w', v < w' / 2 → w' < 32 → sm lf w' ≠ 0 → ch.testBit (w' / 2) = true → iy w' = ix w' ∧ ix w' < T 6 1 := fun w' a1 a2 a3 a4 => by
        rw [hy, if_neg (by omega), if_neg (by omega)]
        exact ⟨rfl, (hx w' (by omega) a2 a3 a4).1.2.1⟩
      by_cases e1 : w = 2 * v
      · subst e1
        have ey : iy (2 * v) = T 6 1 := by rw [hy, if_pos rfl]
        rw [ey]
        rw [if_neg h3] at hc1
        have b1 := ha1 h3
        have b2 := hE2.2.2.2 (T 6 1) (by omega)
        have hd2 : 2 * v / 2 = v := by omega
        refine ⟨⟨by omega, by have := hE2.2.2.1; omega, ?_, ?_, ?_⟩, fun w' a1 a2 a3 a4 => ?_⟩
        · rw [b2.1, b1.1, k0, hd2]
        · rw [b2.2.1, b1.2.1, k0]
        · rw [b2.2.2, b1.2.2, e62]
        · obtain ⟨c1, c2⟩ := hold w' (by omega) a2 a3 a4
          show iy w' < T 6 1
          rw [c1]; exact c2
      · by_cases e2 : w = 2 * v + 1
        · subst e2
          have ey : iy (2 * v + 1) = T1 6 1 := by rw [hy, if_neg e1, if_pos rfl]
          rw [ey]
          rw [if_neg h3] at hc2
          have b1 := ha2 h3
          have hd2 : (2 * v + 1) / 2 = v := by omega
          refine ⟨⟨by have := hE1.2.2.1; omega, by omega, ?_, ?_, ?_⟩, fun w' a1 a2 a3 a4 => ?_⟩
          · rw [b1.1, k1, hd2]
          · rw [b1.2.1, k1]
          · rw [b1.2.2, e62']
          · obtain ⟨c1, c2⟩ := hold w' (by omega) a2 a3 a4
            show iy w' < T1 6 1
            rw [c1]
            have := hE1.2.2.1
            omega
        · have ey : iy w = ix w := by rw [hy, if_neg e1, if_neg e2]
          rw [ey]
          obtain ⟨⟨c1, c2, c3, c4, c5⟩, c6⟩ := hx w (by omega) h2 h3 h4
          have b1 := hE1.2.2.2 (ix w) c2
          have b2 := hE2.2.2.2 (ix w) (by have := hE1.2.2.1; omega)
          refine ⟨⟨c1, by have := hE1.2.2.1; have := hE2.2.2.1; omega, ?_, ?_, ?_⟩, fun w' a1 a2 a3 a4 => ?_⟩
          · rw [b2.1, b1.1, c3]
          · rw [b2.2.1, b1.2.1, c4]
          · rw [b2.2.2, b1.2.2, c5]
          · obtain ⟨d1, -⟩ := hold w' (by omega) a2 a3 a4
            show iy w' < ix w
            rw [d1]
            exact c6 w' a1 a2 a3 a4
    · rw [if_neg q]
      refine ⟨ix, fun w h1 h2 h3 h4 => hx w ?_ h2 h3 h4⟩
      by_cases e : w / 2 = v
      · rw [e] at h4; exact absurd h4 q
      · omega
