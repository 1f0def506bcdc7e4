/-! ONE ALONE COMES: how many letters, how many keys -/
theorem cnt_none {p : Nat → Bool} : ∀ N, (∀ i, i < N → p i = false) → fa_cnt p N = 0
  | 0, _ => rfl
  | N + 1, h => by rw [fa_cnt_no (h N (by omega))]; exact cnt_none N (fun i hi => h i (by omega))
theorem cnt_one {p : Nat → Bool} : ∀ N, (∀ i j, i < N → j < N → p i = true → p j = true → i = j) → fa_cnt p N ≤ 1
  | 0, _ => Nat.zero_le _
  | N + 1, h => by
    cases q : p N with
    | false => rw [fa_cnt_no q]; exact cnt_one N (fun i j hi hj => h i j (by omega) (by omega))
    | true =>
      rw [fa_cnt_yes q, cnt_none N (fun i hi => by
        cases r : p i with
        | false => rfl
        | true => exact absurd (h i N (by omega) (by omega) r q) (by omega))]
      exact Nat.le_refl 1
theorem cnt_split (p r : Nat → Bool) : ∀ N, fa_cnt p N = fa_cnt (fun i => p i && r i) N + fa_cnt (fun i => p i && !r i) N
  | 0 => rfl
  | N + 1 => by
    have ih := cnt_split p r N
    unfold fa_cnt
    rw [ih]
    cases p N <;> cases r N <;> simp <;> omega
/-- no more than there are places -/
theorem cnt_pig {g : Nat → Nat} : ∀ K {p : Nat → Bool} {N : Nat}, (∀ i, i < N → p i = true → g i < K) → (∀ i j, i < N → j < N → p i = true → p j = true → g i = g j → i = j) → fa_cnt p N ≤ K
  | 0, p, N, h, _ => Nat.le_of_eq (cnt_none N (fun i hi => by
      cases r : p i with
      | false => rfl
      | true => exact absurd (h i hi r) (Nat.not_lt_zero _)))
  | K + 1, p, N, h, hu => by
    rw [cnt_split p (fun i => g i == K) N]
    have h1 : fa_cnt (fun i => p i && g i == K) N ≤ 1 := cnt_one N (fun i j hi hj q1 q2 => by
      simp only [Bool.and_eq_true, beq_iff_eq] at q1 q2
      exact hu i j hi hj q1.1 q2.1 (q1.2.trans q2.2.symm))
    have h2 : fa_cnt (fun i => p i && !(g i == K)) N ≤ K := cnt_pig K (g := g) (fun i hi q => by
      simp only [Bool.and_eq_true, Bool.not_eq_true', beq_eq_false_iff_ne] at q
      have := h i hi q.1
      omega) (fun i j hi hj q1 q2 e => by
      simp only [Bool.and_eq_true] at q1 q2
      exact hu i j hi hj q1.1 q2.1 e)
    omega
def lvl (v : Nat) : Nat := if v < 4 then 0 else if v < 8 then 1 else if v < 16 then 2 else 3
theorem lvl_lt (v : Nat) : lvl v < 4 := by
  unfold lvl
  split
  · decide
  · split
    · decide
    · split <;> decide
theorem bn_lvl : ∀ l, l < 32 → ∀ v, v < 32 → (1 < v ∧ (l = 0 ∨ 16 ≤ l) ∧ bn l v = true) → v = l / 2 ^ (3 - lvl v) := by decide +kernel
theorem nlp_le {D : zD} (hI : INV D) {m : Nat} (hm : m < 16) : fa_cnt (nlp D m) (D 6 1) ≤ 4 := by
  refine cnt_pig (g := fun i => lvl (D 7 (D 11 i))) 4 (fun i _ _ => lvl_lt _) (fun i j hi hj q1 q2 e => ?_)
  simp only [nlp, Bool.and_eq_true, decide_eq_true_iff] at q1 q2
  have hl : D 0 m = 0 ∨ 16 ≤ D 0 m := (hI.leaf hm).imp id And.left
  have hl2 : D 0 m < 32 := by rcases hI.leaf hm with h | h <;> omega
  have b : ∀ i, i < D 6 1 → D 7 (D 11 i) < 32 := fun i hi => (hI.keys (hI.lets hi).2.1).2.1
  refine hI.uniq hi hj q1.1 q2.1 ?_
  have e1 := bn_lvl _ hl2 _ (b i hi) ⟨q1.2.1, hl, q1.2.2⟩
  have e2 := bn_lvl _ hl2 _ (b j hj) ⟨q2.2.1, hl, q2.2.2⟩
  have e3 : lvl (D 7 (D 11 i)) = lvl (D 7 (D 11 j)) := e
  rw [e3] at e1
  exact e1.trans e2.symm
theorem mvL_none (lf : Nat → Nat) : ∀ n, mvL (fun _ => false) lf n = (lf, fun _ => false, 0)
  | 0 => rfl
  | n + 1 => by
    have h := mvL_none lf n
    show stL (fun _ => false) n (mvL (fun _ => false) lf n) = _
    rw [h]
    rfl
theorem mvC_none (x : zM3) : ∀ n, mvC (fun _ => false) x n = x
  | 0 => rfl
  | n + 1 => by
    have h := mvC_none x n
    show stC (fun _ => false) n (mvC (fun _ => false) x n) = _
    rw [h]
    rfl
theorem ltr_0 (lf : Nat → Nat) : ∀ n, ltr lf 0 n = 0
  | 0 => rfl
  | n + 1 => by
    unfold ltr
    rw [ltr_0 lf n, Nat.zero_testBit]
    rfl
theorem sgs_none {x : (Nat → Nat) × Nat} {L K : Nat → Bool} (hL : ∀ m, m < 16 → L m = false) (hK : ∀ m, m < 16 → K m = false) : sgs x L K = x := by
  have e : mv x.1 L K = (x.1, fun _ => false, 0) := by
    rw [mv_cong (P' := fun _ => false) (K' := fun _ => false) hL hK]
    unfold mv
    rw [mvL_none, mvC_none]
  unfold sgs
  rw [e, ltr_0]
  rfl
theorem cnt_up {p : Nat → Bool} {a : Nat} : ∀ d, fa_cnt p a ≤ fa_cnt p (a + d)
  | 0 => Nat.le_refl _
  | d + 1 => Nat.le_trans (cnt_up d) (Nat.le_add_right _ _)
theorem cnt_lt1 {p : Nat → Bool} {i N : Nat} (hi : i < N) (h : p i = true) : fa_cnt p i + 1 ≤ fa_cnt p N := by
  have := cnt_up (p := p) (a := i + 1) (N - (i + 1))
  rw [show i + 1 + (N - (i + 1)) = N by omega, fa_cnt_yes h] at this
  exact this
theorem cnt_four {p : Nat → Bool} {a b c d N : Nat} (h1 : a < b) (h2 : b < c) (h3 : c < d) (h4 : d < N) (pa : p a = true) (pb : p b = true) (pc : p c = true) (pd : p d = true) : 4 ≤ fa_cnt p N := by
  have := cnt_lt1 h4 pd
  have := cnt_lt1 h3 pc
  have := cnt_lt1 h2 pb
  have := cnt_lt1 h1 pa
  omega
theorem cnt_from {a : Nat} : ∀ N, a ≤ N → fa_cnt (fun k => decide (a ≤ k)) N = N - a
  | 0, h => by rw [show a = 0 by omega]; rfl
  | N + 1, h => by
    by_cases e : a = N + 1
    · rw [cnt_none (N + 1) (fun i hi => decide_eq_false (by omega))]; omega
    · rw [fa_cnt_yes (decide_eq_true (show a ≤ N by omega)), cnt_from N (by omega)]; omega
theorem ltr_cnt {lf : Nat → Nat} {ch : Nat} : ∀ n, ltr lf ch n ≤ 2 * fa_cnt (fun v => ch.testBit (v + 1)) n
  | 0 => Nat.zero_le _
  | n + 1 => by
    have ih := ltr_cnt (lf := lf) (ch := ch) n
    unfold ltr
    cases q : ch.testBit (n + 1) with
    | false => rw [fa_cnt_no (p := fun v => ch.testBit (v + 1)) q]; simpa using ih
    | true =>
      rw [fa_cnt_yes (p := fun v => ch.testBit (v + 1)) q, if_pos rfl]
      have h1 : (if sm lf (2 * (n + 1)) = 0 then 0 else 1) ≤ 1 := by split <;> omega
      have h2 : (if sm lf (2 * (n + 1) + 1) = 0 then 0 else 1) ≤ 1 := by split <;> omega
      omega
theorem pth_cnt : ∀ l, l < 32 → 16 ≤ l → fa_cnt (fun v => bn l (v + 1)) 15 = 4 := by decide +kernel
def lv5 (v : Nat) : Nat := if v < 2 then 0 else if v < 4 then 1 else if v < 8 then 2 else if v < 16 then 3 else 4
theorem lv5_lt (v : Nat) : lv5 v < 5 := by
  unfold lv5
  split
  · decide
  · split
    · decide
    · split
      · decide
      · split <;> decide
theorem bn_lv5 : ∀ l, l < 32 → ∀ v, v < 32 → (16 ≤ l ∧ bn l v = true) → v = l / 2 ^ (4 - lv5 v) := by decide +kernel
/-- m alone is told, to come -/
def one (D : zD) (m : Nat) : Prop := D 1 m = 1 ∧ ∀ j, j < 16 → j ≠ m → D 1 j = 0
section ONE
variable {D B : zD} {m : Nat}
theorem one_ch (h : INV D) (hm : m < 16) (h1 : one D m) {v : Nat} : (chD D).testBit v = true ↔ bn (lfD D m) v = true := by
  constructor
  · intro q
    rcases ((mvD_F h).2.2.2 v).mp q with ⟨j, hj, q1, q2⟩ | ⟨j, hj, q1, q2⟩
    · simp only [beq_iff_eq] at q1
      by_cases e : j = m
      · subst e; rw [h1.1] at q1; omega
      · rw [h1.2 j hj e] at q1; omega
    · simp only [beq_iff_eq] at q1
      by_cases e : j = m
      · subst e; exact q2
      · rw [h1.2 j hj e] at q1; omega
  · exact fun q => bt_came h hm h1.1 q
theorem one_lf (h : INV D) (hm : m < 16) (h1 : D 1 m = 1) : 16 ≤ lfD D m ∧ lfD D m < 32 := by
  rcases mvD_at h hm with z | z | z
  · exact z.2
  · omega
  · omega
theorem one_eight (h : INV D) (hB : BT D B) (hm : m < 16) (h1 : one D m) : B 6 1 ≤ D 6 1 + 8 := by
  obtain ⟨l1, l2⟩ := one_lf h hm h1.1
  have h2 := ltr_cnt (lf := lfD D) (ch := chD D) 15
  rw [fa_cnt_cong (p := fun v => (chD D).testBit (v + 1)) (q := fun v => bn (lfD D m) (v + 1)) (fun k _ => by
    cases q : bn (lfD D m) (k + 1) with
    | true => exact (one_ch h hm h1).mpr q
    | false =>
      cases q2 : (chD D).testBit (k + 1) with
      | false => rfl
      | true => rw [(one_ch h hm h1).mp q2] at q; cases q), pth_cnt _ l2 l1] at h2
  have := hB.2.1.2.1
  omega
theorem one_five (h : INV D) (hB : BT D B) (hm : m < 16) (h1 : one D m) : B 6 0 ≤ D 6 0 + 5 := by
  obtain ⟨l1, l2⟩ := one_lf h hm h1.1
  have hp := cnt_pig (g := fun k => lv5 (B 7 k)) 5 (p := fun k => decide (D 6 0 ≤ k)) (N := B 6 0) (fun _ _ _ => lv5_lt _) (fun i j hi hj q1 q2 e => by
    rw [decide_eq_true_iff] at q1 q2
    obtain ⟨a1, a2, a3, -, -, -, a7⟩ := hB.2.2.2.1 i q1 hi
    obtain ⟨b1, b2, b3, -, -, -, b7⟩ := hB.2.2.2.1 j q2 hj
    have e1 := bn_lv5 _ l2 _ a2 ⟨l1, (one_ch h hm h1).mp a3⟩
    have e2 := bn_lv5 _ l2 _ b2 ⟨l1, (one_ch h hm h1).mp b3⟩
    have e3 : lv5 (B 7 i) = lv5 (B 7 j) := e
    rw [e3] at e1
    rw [← a7, ← b7, e1, ← e2])
  have := hB.2.1.1
  rw [cnt_from _ this] at hp
  omega
/-- the four letters on the way up from a leaf at which one came -/
theorem one_four (h : INV D) (hB : BT D B) (hIB : INV B) (hm : m < 16) (h1 : D 1 m = 1) : ∃ q : Nat → Nat, D 6 1 ≤ q 0 ∧ q 0 < q 1 ∧ q 1 < q 2 ∧ q 2 < q 3 ∧ q 3 < B 6 1 ∧ ∀ j, j < 4 → B 12 (q j) = D 6 2 + 1 ∧ 1 < B 7 (B 11 (q j)) ∧ bn (lfD D m) (B 7 (B 11 (q j))) = true := by
  obtain ⟨l1, l2⟩ := one_lf h hm h1
  obtain ⟨ix, hx⟩ := hB.2.2.2.2.2.2.1
  obtain ⟨b0, b1, b2, b3, b4⟩ := bn_at _ l2 l1
  have hw : ∀ w, 2 ≤ w → w < 32 → bn (lfD D m) w = true → bn (lfD D m) (w / 2) = true → (sm (lfD D) w ≠ 0 ∧ (chD D).testBit (w / 2) = true) ∧ B 12 (ix w) = D 6 2 + 1 ∧ 1 < B 7 (B 11 (ix w)) ∧ bn (lfD D m) (B 7 (B 11 (ix w))) = true := fun w w1 w2 w3 w4 => by
    have hs := sm_of (lf := lfD D) hm w3
    have hc := bt_came h hm h1 w4
    obtain ⟨⟨-, -, -, c4, c5⟩, -⟩ := hx w w1 w2 hs hc
    have hk := (cur.key hIB (v := w) (by omega) w2 (by rw [hB.1.1]; exact hs)).2
    rw [c4, hk]
    exact ⟨⟨hs, hc⟩, c5, by omega, w3⟩
  have e1 : lfD D m / 2 / 2 = lfD D m / 4 := by omega
  have e2 : lfD D m / 4 / 2 = lfD D m / 8 := by omega
  have e3 : lfD D m / 8 / 2 = lfD D m / 16 := by omega
  have w0 := hw (lfD D m) (by omega) l2 b0 b1
  have w1 := hw (lfD D m / 2) (by omega) (by omega) b1 (by rw [e1]; exact b2)
  have w2 := hw (lfD D m / 4) (by omega) (by omega) b2 (by rw [e2]; exact b3)
  have w3 := hw (lfD D m / 8) (by omega) (by omega) b3 (by rw [e3]; exact b4)
  refine ⟨fun j => match j with | 0 => ix (lfD D m) | 1 => ix (lfD D m / 2) | 2 => ix (lfD D m / 4) | _ => ix (lfD D m / 8), ?_, ?_, ?_, ?_, ?_, fun j hj => ?_⟩
  · exact (hx _ (by omega) l2 w0.1.1 w0.1.2).1.1
  · exact (hx _ (by omega) (by omega) w1.1.1 w1.1.2).2 _ (by omega) l2 w0.1.1 w0.1.2
  · exact (hx _ (by omega) (by omega) w2.1.1 w2.1.2).2 _ (by omega) (by omega) w1.1.1 w1.1.2
  · exact (hx _ (by omega) (by omega) w3.1.1 w3.1.2).2 _ (by omega) (by omega) w2.1.1 w2.1.2
  · exact (hx _ (by omega) (by omega) w3.1.1 w3.1.2).1.2.1
  · rcases (by omega : j = 0 ∨ j = 1 ∨ j = 2 ∨ j = 3) with rfl | rfl | rfl | rfl
    · exact w0.2
    · exact w1.2
    · exact w2.2
    · exact w3.2
theorem one_ge4 (h : INV D) (hB : BT D B) (hIB : INV B) (hm : m < 16) (h1 : D 1 m = 1) : D 6 1 + 4 ≤ B 6 1 := by
  obtain ⟨q, a, b, c, d, e, -⟩ := one_four h hB hIB hm h1
  omega
theorem one_sgL (h1 : one D m) (hm : m < 16) : ∀ n, n ≤ 16 → sgL D n = (D 0, 0)
  | 0, _ => rfl
  | n + 1, hn => by
    show sgs (sgL D n) _ _ = _
    rw [one_sgL h1 hm n (by omega)]
    refine sgs_none (fun j hj => ?_) (fun _ _ => rfl)
    show (j == n && D 1 j == 2) = false
    have : D 1 j ≠ 2 := by
      by_cases e : j = m
      · rw [e, h1.1]; decide
      · rw [h1.2 j hj e]; decide
    simp [this]
theorem one_mv (h1 : one D m) (hm : m < 16) : mv (D 0) (fun _ => false) (fun j => j == m && D 1 j == 1) = mvD D := by
  refine mv_cong (fun j hj => ?_) (fun j hj => ?_) (D 0)
  · by_cases e : j = m
    · subst e; rw [h1.1]; rfl
    · rw [h1.2 j hj e]; rfl
  · by_cases e : j = m
    · subst e; simp
    · rw [h1.2 j hj e, show (j == m) = false from beq_eq_false_iff_ne.mpr e]; rfl
theorem one_sgC (h1 : one D m) (hm : m < 16) : ∀ n, n ≤ 16 → sgC D n = if n ≤ m then (D 0, 0) else (lfD D, ltr (lfD D) (chD D) 15)
  | 0, _ => by rw [if_pos (Nat.zero_le _)]; exact one_sgL h1 hm 16 (Nat.le_refl _)
  | n + 1, hn => by
    show sgs (sgC D n) _ _ = _
    rw [one_sgC h1 hm n (by omega)]
    rcases (by omega : n < m ∨ n = m ∨ m < n) with q | q | q
    · rw [if_pos (by omega), if_pos (by omega)]
      refine sgs_none (fun _ _ => rfl) (fun j hj => ?_)
      show (j == n && D 1 j == 1) = false
      by_cases e : j = n
      · rw [e, h1.2 n (by omega) (by omega)]; simp
      · rw [show (j == n) = false from beq_eq_false_iff_ne.mpr e]; rfl
    · subst q
      rw [if_pos (Nat.le_refl _), if_neg (by omega)]
      unfold sgs
      rw [show mv (D 0, 0).1 (fun _ => false) (fun j => j == n && D 1 j == 1) = mvD D from one_mv h1 hm]
      show (lfD D, 0 + _) = _
      rw [Nat.zero_add]
    · rw [if_neg (by omega), if_neg (by omega)]
      refine sgs_none (fun _ _ => rfl) (fun j hj => ?_)
      show (j == n && D 1 j == 1) = false
      by_cases e : j = n
      · rw [e, h1.2 n (by omega) (by omega)]; simp
      · rw [show (j == n) = false from beq_eq_false_iff_ne.mpr e]; rfl
theorem one_due (h1 : one D m) (hm : m < 16) : (sgC D 16).2 = ltr (mvD D).1 (mvD D).2.2 15 := by
  rw [one_sgC h1 hm 16 (Nat.le_refl _), if_neg (by omega)]
theorem one_brf (hm : m < 16) (h1 : D 1 m = 1) (h60 : D 6 0 < 200) (h61 : D 6 1 < 160) : brf D = nI 0 := by
  unfold brf ful
  rw [if_neg (fun q => ?_), if_neg (by omega)]
  have := dm_zero.mp q.1 m hm
  rw [h1] at this
  cases this
end ONE
