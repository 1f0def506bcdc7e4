/-! A BATCH, the class's side -/
theorem mvL_cong {P P' : Nat → Bool} (h : ∀ m, m < 16 → P m = P' m) (lf : Nat → Nat) : ∀ n, n ≤ 16 → mvL P lf n = mvL P' lf n
  | 0, _ => rfl
  | n + 1, hn => by
    unfold mvL stL
    rw [mvL_cong h lf n (by omega), h n (by omega)]
theorem mvC_cong {P P' : Nat → Bool} (h : ∀ m, m < 16 → P m = P' m) (x : zM3) : ∀ n, n ≤ 16 → mvC P x n = mvC P' x n
  | 0, _ => rfl
  | n + 1, hn => by
    unfold mvC stC
    rw [mvC_cong h x n (by omega), h n (by omega)]
theorem mv_cong {P P' K K' : Nat → Bool} (h : ∀ m, m < 16 → P m = P' m) (h' : ∀ m, m < 16 → K m = K' m) (lf : Nat → Nat) : mv lf P K = mv lf P' K' := by
  unfold mv
  rw [mvL_cong h lf 16 (Nat.le_refl _), mvC_cong h' _ 16 (Nat.le_refl _)]
theorem mv_bits (D : zD) : mv (D 0) (bt (nI (lvs D))) (bt (nI (cms D))) = mvD D := mv_cong (fun m hm => dm_bt hm) (fun m hm => dm_bt hm) _
theorem kadd_cong {D D' : zD} (H : ∀ f, f ≠ 9 → D f = D' f) {v h h' : Nat} : ∀ f, f ≠ 9 → kadd D v h f = kadd D' v h' f := by
  intro f hf
  funext k
  simp only [kadd, dset, H 6 (by decide), H f hf, hf, false_and, if_false]
theorem rnh_h {h h' lf : Nat → Nat} {ch : Nat} {D : zD} : ∀ t f, f ≠ 9 → rnh h lf ch D t f = rnh h' lf ch D t f
  | 0, _, _ => rfl
  | t + 1, f, hf => by
    unfold rnh
    split
    · exact kadd_cong (fun f hf => rnh_h t f hf) f hf
    · exact rnh_h t f hf
/-- while members are told: the first i -/
def chH (D R0 : zD) (i k : Nat) : Nat := if k < D 6 0 then D 9 k else dmn (fun m => D 1 m == 1 && (mvD D).1 m == R0 7 k) i
def CHI (D R0 : zD) (S2 S : zS) (i : Nat) : Prop :=
  (∀ m, S.1 14 m = if m < i ∧ D 1 m = 1 then nI (D 6 2) else S2.1 14 m) ∧
  (∀ m, S.1 16 m = if m < i ∧ D 1 m = 1 then nI (D 6 1) else S2.1 16 m) ∧
  (∀ m, S.1 15 m = if m < i ∧ D 1 m = 2 then nI (D 6 2) else S2.1 15 m) ∧
  (∀ k, k < R0 6 0 → S.1 8 k = nI (chH D R0 i k)) ∧
  (∀ a, a ≠ 8 → a ≠ 14 → a ≠ 15 → a ≠ 16 → S.1 a = S2.1 a) ∧ S.2 = S2.2
theorem CHI.zero {D R0 : zD} {S2 : zS} (h : ∀ k, k < R0 6 0 → S2.1 8 k = nI (R0 9 k)) (h1 : ∀ k, k < D 6 0 → R0 9 k = D 9 k) (h2 : ∀ k, D 6 0 ≤ k → k < R0 6 0 → R0 9 k = 0) : CHI D R0 S2 S2 0 := by
  refine ⟨fun m => by rw [if_neg (by omega)], fun m => by rw [if_neg (by omega)], fun m => by rw [if_neg (by omega)], fun k hk => ?_, fun a _ _ _ _ => rfl, rfl⟩
  rw [h k hk]
  unfold chH
  split
  next q => rw [h1 k q]
  next q => rw [h2 k (by omega) hk]; rfl
theorem CHI.skip {D R0 : zD} {S2 S : zS} {i : Nat} (h : CHI D R0 S2 S i) (h1 : D 1 i ≠ 1) (h2 : D 1 i ≠ 2) : CHI D R0 S2 S (i + 1) := by
  obtain ⟨a, b, c, d, e⟩ := h
  refine ⟨fun m => ?_, fun m => ?_, fun m => ?_, fun k hk => ?_, e⟩
  · rw [a m]
    by_cases q : m = i
    · subst q; rw [if_neg (by omega), if_neg (by omega)]
    · by_cases q2 : m < i ∧ D 1 m = 1
      · rw [if_pos q2, if_pos ⟨by omega, q2.2⟩]
      · rw [if_neg q2, if_neg (fun z => q2 ⟨by omega, z.2⟩)]
  · rw [b m]
    by_cases q : m = i
    · subst q; rw [if_neg (by omega), if_neg (by omega)]
    · by_cases q2 : m < i ∧ D 1 m = 1
      · rw [if_pos q2, if_pos ⟨by omega, q2.2⟩]
      · rw [if_neg q2, if_neg (fun z => q2 ⟨by omega, z.2⟩)]
  · rw [c m]
    by_cases q : m = i
    · subst q; rw [if_neg (by omega), if_neg (by omega)]
    · by_cases q2 : m < i ∧ D 1 m = 2
      · rw [if_pos q2, if_pos ⟨by omega, q2.2⟩]
      · rw [if_neg q2, if_neg (fun z => q2 ⟨by omega, z.2⟩)]
  · rw [d k hk]
    unfold chH
    split
    · rfl
    · rw [dmn, beq_eq_false_iff_ne.mpr h1, Bool.false_and, if_neg (by decide), Nat.or_zero]
theorem CHI.left {D R0 : zD} {S2 S : zS} {i : Nat} (h : CHI D R0 S2 S i) (h2 : D 1 i = 2) : CHI D R0 S2 (zput S 15 i (nI (D 6 2))) (i + 1) := by
  obtain ⟨a, b, c, d, e1, e2⟩ := h
  refine ⟨fun m => ?_, fun m => ?_, fun m => ?_, fun k hk => ?_, fun f q1 q2 q3 q4 => (zput_ne _ _ q3).trans (e1 f q1 q2 q3 q4), e2⟩
  · rw [zput_ne _ _ (by decide), a m]
    by_cases q : m = i
    · subst q; rw [if_neg (by omega), if_neg (by omega)]
    · by_cases q2 : m < i ∧ D 1 m = 1
      · rw [if_pos q2, if_pos ⟨by omega, q2.2⟩]
      · rw [if_neg q2, if_neg (fun z => q2 ⟨by omega, z.2⟩)]
  · rw [zput_ne _ _ (by decide), b m]
    by_cases q : m = i
    · subst q; rw [if_neg (by omega), if_neg (by omega)]
    · by_cases q2 : m < i ∧ D 1 m = 1
      · rw [if_pos q2, if_pos ⟨by omega, q2.2⟩]
      · rw [if_neg q2, if_neg (fun z => q2 ⟨by omega, z.2⟩)]
  · by_cases q : m = i
    · subst q; rw [zput_at, if_pos ⟨by omega, h2⟩]
    · rw [zput_k _ _ q, c m]
      by_cases q2 : m < i ∧ D 1 m = 2
      · rw [if_pos q2, if_pos ⟨by omega, q2.2⟩]
      · rw [if_neg q2, if_neg (fun z => q2 ⟨by omega, z.2⟩)]
  · rw [zput_ne _ _ (by decide), d k hk]
    unfold chH
    split
    · rfl
    · rw [dmn, show (D 1 i == 1) = false by rw [h2]; rfl, Bool.false_and, if_neg (by decide), Nat.or_zero]
theorem CHI.came {D R0 : zD} {S2 S : zS} {i kk : Nat} (h : CHI D R0 S2 S i) (h1 : D 1 i = 1) (hk0 : D 6 0 ≤ kk) (hk1 : kk < R0 6 0) (hk7 : R0 7 kk = (mvD D).1 i) (hu : ∀ k, D 6 0 ≤ k → k < R0 6 0 → R0 7 k = (mvD D).1 i → k = kk) : CHI D R0 S2 (zput (zput (zput S 14 i (nI (D 6 2))) 16 i (nI (D 6 1))) 8 kk ((zput (zput S 14 i (nI (D 6 2))) 16 i (nI (D 6 1))).1 8 kk ||| nI (2 ^ i))) (i + 1) := by
  obtain ⟨a, b, c, d, e1, e2⟩ := h
  refine ⟨fun m => ?_, fun m => ?_, fun m => ?_, fun k hk => ?_, fun f q1 q2 q3 q4 => (zput_ne _ _ q1).trans ((zput_ne _ _ q4).trans ((zput_ne _ _ q2).trans (e1 f q1 q2 q3 q4))), e2⟩
  · rw [zput_ne _ _ (by decide), zput_ne _ _ (by decide)]
    by_cases q : m = i
    · subst q; rw [zput_at, if_pos ⟨by omega, h1⟩]
    · rw [zput_k _ _ q, a m]
      by_cases q2 : m < i ∧ D 1 m = 1
      · rw [if_pos q2, if_pos ⟨by omega, q2.2⟩]
      · rw [if_neg q2, if_neg (fun z => q2 ⟨by omega, z.2⟩)]
  · rw [zput_ne _ _ (by decide)]
    by_cases q : m = i
    · subst q; rw [zput_at, if_pos ⟨by omega, h1⟩]
    · rw [zput_k _ _ q, zput_ne _ _ (by decide), b m]
      by_cases q2 : m < i ∧ D 1 m = 1
      · rw [if_pos q2, if_pos ⟨by omega, q2.2⟩]
      · rw [if_neg q2, if_neg (fun z => q2 ⟨by omega, z.2⟩)]
  · rw [zput_ne _ _ (by decide), zput_ne _ _ (by decide), zput_ne _ _ (by decide), c m]
    by_cases q : m = i
    · subst q; rw [if_neg (by omega), if_neg (by omega)]
    · by_cases q2 : m < i ∧ D 1 m = 2
      · rw [if_pos q2, if_pos ⟨by omega, q2.2⟩]
      · rw [if_neg q2, if_neg (fun z => q2 ⟨by omega, z.2⟩)]
  · by_cases q : k = kk
    · subst q
      rw [zput_at, zput_ne _ _ (by decide), zput_ne _ _ (by decide), d k hk, fa_or]
      unfold chH
      rw [if_neg (by omega), if_neg (by omega), dmn, hk7, if_pos (by simp [h1])]
    · rw [zput_k _ _ q, zput_ne _ _ (by decide), zput_ne _ _ (by decide), d k hk]
      unfold chH
      split
      · rfl
      next q0 =>
        have : ((mvD D).1 i == R0 7 k) = false := beq_eq_false_iff_ne.mpr (fun z => q (hu k (by omega) hk z.symm))
        rw [dmn, this, Bool.and_false, if_neg (by decide), Nat.or_zero]
/-- behind the members' loop -/
theorem CH_end {D : zD} {S S1 S2 S3 : zS} (h : CR S D) (hI : INV D) (hs1 : SR S1 2 (mvD D).1) (hf1 : zfrm 3 5 S S1) (hk2 : KR S2 (rnh hz (mvD D).1 (mvD D).2.2 (mbr D) 31)) (ho2 : ∀ v, 1 ≤ v → v < 32 → S2.1 9 v = kof (mvD D).1 (rnh hz (mvD D).1 (mvD D).2.2 (mbr D) 31) v) (hf2 : zfrm 5 10 S1 S2) (h3 : CHI D (rnh hz (mvD D).1 (mvD D).2.2 (mbr D) 31) S2 S3 16) :
    SR S3 2 (mvD D).1 ∧ KR S3 (rn (mvD D).1 (mvD D).2.2 (mbr D) 31) ∧ (∀ v, 1 ≤ v → v < 32 → S3.1 9 v = kof (mvD D).1 (rn (mvD D).1 (mvD D).2.2 (mbr D) 31) v) ∧ LR S3 (rn (mvD D).1 (mvD D).2.2 (mbr D) 31) ∧ S3.1 1 = S.1 1 ∧ AR S3 (rn (mvD D).1 (mvD D).2.2 (mbr D) 31) := by
  obtain ⟨c1, c2, c3, c4, c5, -⟩ := h3
  have e : ∀ f, f ≠ 9 → rn (mvD D).1 (mvD D).2.2 (mbr D) 31 f = rnh hz (mvD D).1 (mvD D).2.2 (mbr D) 31 f := fun f hf => rnh_h 31 f hf
  have hF := mvD_F hI
  have hat := fun m hm => mvD_at (m := m) hI hm
  have hR : rnI (hlf (mvD D).1) (mvD D).1 (mvD D).2.2 D (rn (mvD D).1 (mvD D).2.2 (mbr D) 31) 31 := bk_I hI
  have r0 : ∀ f, f ≠ 6 → f ≠ 7 → f ≠ 8 → f ≠ 9 → rn (mvD D).1 (mvD D).2.2 (mbr D) 31 f = mbr D f := fun f q1 q2 q3 q4 => rnh_f q1 q2 q3 q4 31
  have r6 : ∀ k, k ≠ 0 → rn (mvD D).1 (mvD D).2.2 (mbr D) 31 6 k = D 6 k := fun k hk => rnh_6 (D := mbr D) hk 31
  generalize rn (mvD D).1 (mvD D).2.2 (mbr D) 31 = R at *
  generalize rnh hz (mvD D).1 (mvD D).2.2 (mbr D) 31 = R0 at *
  have s : ∀ a, a ≠ 8 → a ≠ 14 → a ≠ 15 → a ≠ 16 → (a < 5 ∨ 10 ≤ a) → (a < 3 ∨ 5 ≤ a) → S3.1 a = S.1 a := fun a q1 q2 q3 q4 q5 q6 => (c5 a q1 q2 q3 q4).trans ((hf2.1 a q5).trans (hf1.1 a q6))
  obtain ⟨-, b, c, -, -⟩ := hR
  refine ⟨?_, ⟨?_, fun k hk => ⟨?_, ?_, ?_⟩⟩, fun v a1 a2 => ?_, ⟨?_, ?_⟩, s 1 (by decide) (by decide) (by decide) (by decide) (by decide) (by decide), fun m hm => ?_, fun m hm h4 h0 => ?_, fun m hm h0 => ?_⟩
  · exact hs1.kept ((c5 3 (by decide) (by decide) (by decide) (by decide)).trans (hf2.1 3 (by decide))) ((c5 4 (by decide) (by decide) (by decide) (by decide)).trans (hf2.1 4 (by decide)))
  · rw [e 6 (by decide), c5 5 (by decide) (by decide) (by decide) (by decide)]; exact hk2.1
  · rw [e 6 (by decide)] at hk
    rw [e 7 (by decide), c5 6 (by decide) (by decide) (by decide) (by decide)]; exact (hk2.2 k hk).1
  · rw [e 6 (by decide)] at hk
    rw [e 8 (by decide), c5 7 (by decide) (by decide) (by decide) (by decide)]; exact (hk2.2 k hk).2.1
  · have hk' : k < R0 6 0 := by rw [e 6 (by decide)] at hk; exact hk
    rw [c4 k hk']
    unfold chH
    by_cases q : k < D 6 0
    · rw [if_pos q, (b k q).2.2]
    · obtain ⟨q1, q2, q3, q4, q5, q6⟩ := c k (by omega) hk
      rw [if_neg q, q6, ← e 7 (by decide)]
      congr 1
      unfold hlf
      split
      next h16 =>
        obtain ⟨-, hl2⟩ := hF.leaf (fun m hm => hI.ok.lt hm) h16 q2 q3
        refine dm_ext fun m hm => ?_
        by_cases z : (mvD D).1 m = R 7 k
        · have hk1 := hl2 m hm z
          rw [hk1, z, bn_self (by omega)]
          simp
        · have hz1 : ((mvD D).1 m == R 7 k) = false := beq_eq_false_iff_ne.mpr z
          rw [hz1, Bool.and_false]
          cases hb : bn ((mvD D).1 m) (R 7 k) with
          | false => rfl
          | true => exact absurd ((bn_leaf _ (hF.1.lt hm) _ q2 h16).mp hb) z
      next h16 =>
        refine dmn_zero.mpr fun m hm => ?_
        have hz1 : (mvD D).1 m ≠ R 7 k := by
          rcases hF.1 m hm with z | z
          · omega
          · omega
        rw [beq_eq_false_iff_ne.mpr hz1, Bool.and_false]
  · rw [kof_cong (e 7 (by decide)) (by rw [e 6 (by decide)]), c5 9 (by decide) (by decide) (by decide) (by decide)]
    exact ho2 v a1 a2
  · rw [r6 1 (by decide), s 10 (by decide) (by decide) (by decide) (by decide) (by decide) (by decide)]; exact h.lr.1
  · rw [r6 1 (by decide), r0 10 (by decide) (by decide) (by decide) (by decide), r0 11 (by decide) (by decide) (by decide) (by decide), r0 12 (by decide) (by decide) (by decide) (by decide), s 11 (by decide) (by decide) (by decide) (by decide) (by decide) (by decide), s 12 (by decide) (by decide) (by decide) (by decide) (by decide) (by decide), s 13 (by decide) (by decide) (by decide) (by decide) (by decide) (by decide)]; exact h.lr.2
  · rw [r0 4 (by decide) (by decide) (by decide) (by decide), c1 m]
    show _ = caI (if D 1 m = 1 then D 6 2 + 1 else D 4 m)
    by_cases q : D 1 m = 1
    · rw [if_pos ⟨hm, q⟩, if_pos q]; rfl
    · rw [if_neg (fun z => q z.2), if_neg q, hf2.1 14 (by decide), hf1.1 14 (by decide)]; exact h.ar.1 m hm
  · rw [r0 4 (by decide) (by decide) (by decide) (by decide)] at h4
    rw [r0 0 (by decide) (by decide) (by decide) (by decide)] at h0
    replace h4 : (if D 1 m = 1 then D 6 2 + 1 else D 4 m) ≠ 0 := h4
    replace h0 : (mvD D).1 m = 0 := h0
    rw [r0 5 (by decide) (by decide) (by decide) (by decide), c3 m]
    show _ = caI (if D 1 m = 2 then D 6 2 + 1 else D 5 m)
    rcases hat m hm with q | q | q
    · omega
    · rw [if_pos ⟨hm, q.1⟩, if_pos q.1]; rfl
    · rw [if_neg (by omega), if_neg (by omega), hf2.1 15 (by decide), hf1.1 15 (by decide)]
      rw [if_neg (by omega)] at h4
      exact h.ar.2.1 m hm h4 (by omega)
  · rw [r0 0 (by decide) (by decide) (by decide) (by decide)] at h0
    replace h0 : (mvD D).1 m ≠ 0 := h0
    rw [r0 3 (by decide) (by decide) (by decide) (by decide), c2 m]
    show _ = nI (if D 1 m = 0 then D 3 m else D 6 1)
    rcases hat m hm with q | q | q
    · rw [if_pos ⟨hm, q.1⟩, if_neg (by omega)]
    · omega
    · rw [if_neg (by omega), if_pos q.1, hf2.1 16 (by decide), hf1.1 16 (by decide)]
      exact h.ar.2.2 m hm (by omega)
theorem sls_mbr {D : zD} (h : INV D) : zan (sls D) (cms D ||| lvs D) = sls (mbr D) := by
  apply Nat.eq_of_testBit_eq
  intro i
  by_cases hi : i < 16
  · rw [zan_bit (by omega), Nat.testBit_or, dmn_bit, dmn_bit, dmn_bit, dmn_bit]
    show _ = (_ && ((if D 1 i = 0 then D 2 i else 0) == 1))
    simp only [hi, decide_true, Bool.true_and]
    by_cases q : D 1 i = 0
    · rw [if_pos q, q]; simp
    · rw [if_neg q]
      rcases h.told hi with q2 | q2 | q2
      · exact absurd q2 q
      · rw [q2.1]; simp
      · rw [q2.1]; simp
  · rw [z_small (zan_lt (n := 16) (dm_lt _)) (by omega), z_small (n := 16) (dm_lt _) (by omega)]
/-- ahead of all reading -/
theorem CH_cr {D : zD} {S3 S4 : zS} (hI : INV D) (hs : SR S3 2 (mvD D).1) (hk : KR S3 (rn (mvD D).1 (mvD D).2.2 (mbr D) 31)) (ho : ∀ v, 1 ≤ v → v < 32 → S3.1 9 v = kof (mvD D).1 (rn (mvD D).1 (mvD D).2.2 (mbr D) 31) v) (ha : AR S3 (rn (mvD D).1 (mvD D).2.2 (mbr D) 31)) (h7 : S3.1 1 7 = nI (D 6 3)) (hl : LR S4 (tl (mvD D).1 (mvD D).2.2 (rn (mvD D).1 (mvD D).2.2 (mbr D) 31) 15)) (hf : zfrm 10 14 S3 S4) :
    CR (zput (zput (zput (zput S4 1 5 (nI (zan (sls D) (cms D ||| lvs D)))) 1 3 (nI 0)) 1 4 (nI 0)) 1 6 (nI (D 6 2 + 1))) (dset (btc1 D) 6 2 (D 6 2 + 1)) := by
  have hE := tl_E (lf := (mvD D).1) (ch := (mvD D).2.2) (D := rn (mvD D).1 (mvD D).2.2 (mbr D) 31) 15
  have r0 : ∀ f, f ≠ 6 → f ≠ 7 → f ≠ 8 → f ≠ 9 → rn (mvD D).1 (mvD D).2.2 (mbr D) 31 f = mbr D f := fun f q1 q2 q3 q4 => rnh_f q1 q2 q3 q4 31
  have r6 : ∀ k, k ≠ 0 → rn (mvD D).1 (mvD D).2.2 (mbr D) 31 6 k = D 6 k := fun k hk => rnh_6 (D := mbr D) hk 31
  show CR _ (dset (tl (mvD D).1 (mvD D).2.2 (rn (mvD D).1 (mvD D).2.2 (mbr D) 31) 15) 6 2 (D 6 2 + 1))
  generalize tl (mvD D).1 (mvD D).2.2 (rn (mvD D).1 (mvD D).2.2 (mbr D) 31) 15 = T at *
  generalize rn (mvD D).1 (mvD D).2.2 (mbr D) 31 = R at *
  obtain ⟨t1, t2, t3, t4⟩ := hE
  generalize hS5 : zput (zput (zput (zput S4 1 5 (nI (zan (sls D) (cms D ||| lvs D)))) 1 3 (nI 0)) 1 4 (nI 0)) 1 6 (nI (D 6 2 + 1)) = S5
  have z : ∀ a, a ≠ 1 → S5.1 a = S4.1 a := fun a q => by
    rw [← hS5, zput_ne _ _ q, zput_ne _ _ q, zput_ne _ _ q, zput_ne _ _ q]
  have w : ∀ a, a ≠ 1 → (a < 10 ∨ 14 ≤ a) → S5.1 a = S3.1 a := fun a q q2 => (z a q).trans (hf.1 a q2)
  have v3 : S5.1 1 3 = nI 0 := by rw [← hS5, zput_k _ _ (by decide), zput_k _ _ (by decide), zput_at]
  have v4 : S5.1 1 4 = nI 0 := by rw [← hS5, zput_k _ _ (by decide), zput_at]
  have v5 : S5.1 1 5 = nI (zan (sls D) (cms D ||| lvs D)) := by rw [← hS5, zput_k _ _ (by decide), zput_k _ _ (by decide), zput_k _ _ (by decide), zput_at]
  have v6 : S5.1 1 6 = nI (D 6 2 + 1) := by rw [← hS5, zput_at]
  have v7 : S5.1 1 7 = nI (D 6 3) := by rw [← hS5, zput_k _ _ (by decide), zput_k _ _ (by decide), zput_k _ _ (by decide), zput_k _ _ (by decide), hf.1 1 (by decide)]; exact h7
  clear hS5
  have q : ∀ f, f ≠ 6 → dset T 6 2 (D 6 2 + 1) f = T f := fun f hf => dset_ff _ _ _ hf
  have f0 : dset T 6 2 (D 6 2 + 1) 0 = (mvD D).1 := by rw [q 0 (by decide), t1 0 (by decide) (by decide) (by decide) (by decide), r0 0 (by decide) (by decide) (by decide) (by decide)]; rfl
  refine ⟨?_, ?_, ?_, ?_, ?_, ?_, ?_⟩
  · rw [f0]; exact hs.kept (w 3 (by decide) (by decide)) (w 4 (by decide) (by decide))
  · unfold KR
    rw [q 7 (by decide), q 8 (by decide), q 9 (by decide), dset_k _ _ _ (show 0 ≠ 2 by decide), t2 0 (by decide), t1 7 (by decide) (by decide) (by decide) (by decide), t1 8 (by decide) (by decide) (by decide) (by decide), t1 9 (by decide) (by decide) (by decide) (by decide), w 5 (by decide) (by decide), w 6 (by decide) (by decide), w 7 (by decide) (by decide), w 8 (by decide) (by decide)]
    exact hk
  · intro v a b
    rw [f0, kof_cong (D := R) (by rw [q 7 (by decide), t1 7 (by decide) (by decide) (by decide) (by decide)]) (by rw [dset_k _ _ _ (show 0 ≠ 2 by decide), t2 0 (by decide)]), w 9 (by decide) (by decide)]
    exact ho v a b
  · unfold LR
    rw [q 10 (by decide), q 11 (by decide), q 12 (by decide), dset_k _ _ _ (show 1 ≠ 2 by decide), z 10 (by decide), z 11 (by decide), z 12 (by decide), z 13 (by decide)]
    exact hl
  · have m1 : dset T 6 2 (D 6 2 + 1) 1 = mbr D 1 := by rw [q 1 (by decide), t1 1 (by decide) (by decide) (by decide) (by decide), r0 1 (by decide) (by decide) (by decide) (by decide)]
    have m2 : dset T 6 2 (D 6 2 + 1) 2 = mbr D 2 := by rw [q 2 (by decide), t1 2 (by decide) (by decide) (by decide) (by decide), r0 2 (by decide) (by decide) (by decide) (by decide)]
    refine ⟨v3.trans (congrArg nI ?_), v4.trans (congrArg nI ?_), v5.trans (congrArg nI ((sls_mbr hI).trans ?_))⟩
    · unfold cms; rw [m1]; exact (dm_zero.mpr fun m _ => rfl).symm
    · unfold lvs; rw [m1]; exact (dm_zero.mpr fun m _ => rfl).symm
    · unfold sls; rw [m2]
  · unfold QR
    rw [v6, v7, dset_at, dset_k _ _ _ (show 3 ≠ 2 by decide), t2 3 (by decide), r6 3 (by decide)]
    exact ⟨rfl, rfl⟩
  · unfold AR
    rw [q 0 (by decide), q 3 (by decide), q 4 (by decide), q 5 (by decide), t1 0 (by decide) (by decide) (by decide) (by decide), t1 3 (by decide) (by decide) (by decide) (by decide), t1 4 (by decide) (by decide) (by decide) (by decide), t1 5 (by decide) (by decide) (by decide) (by decide), w 14 (by decide) (by decide), w 15 (by decide) (by decide), w 16 (by decide) (by decide)]
    exact ha
theorem rda_f {D : zD} {f : Nat} (h3 : f ≠ 3) (h9 : f ≠ 9) : ∀ n, rda D n f = D f
  | 0 => rfl
  | n + 1 => by
    unfold rda
    split
    · unfold rdm
      rw [dset_ff _ _ _ h3, rds_f h9, rda_f h3 h9 n]
    · exact rda_f h3 h9 n
theorem btc_61 (D : zD) : D 6 1 ≤ btc D 6 1 := by
  unfold btc
  rw [rda_f (by decide) (by decide), dset_k _ _ _ (by decide)]
  have := (tl_E (lf := (mvD D).1) (ch := (mvD D).2.2) (D := rn (mvD D).1 (mvD D).2.2 (mbr D) 31) 15).2.2.1
  exact Nat.le_trans (Nat.le_of_eq (rnh_6 (D := mbr D) (by decide) 31).symm) this
set_option maxHeartbeats 4000000 in
set_option maxRecDepth 100000 in
theorem l0_changeAll {C : zCx} {τ : Nat → ClassId} {ι : Nat → Nat} (hC : zOK C τ (zrm 5 0 0) yX0_changeAll.cls cX0_changeAll 4) {S2 : zS} {D : zD} (hM : MRs S2 D) (hQ6 : S2.1 1 6 = nI (D 6 2)) (hS2 : SR S2 2 (mvD D).1) (hK2 : S2.1 5 0 = nI ((rnh hz (mvD D).1 (mvD D).2.2 (mbr D) 31) 6 0)) (h232 : (rnh hz (mvD D).1 (mvD D).2.2 (mbr D) 31) 6 0 ≤ 232) (hcome : ∀ i, i < 16 → D 1 i = 1 → ∃ kk, D 6 0 ≤ kk ∧ kk < (rnh hz (mvD D).1 (mvD D).2.2 (mbr D) 31) 6 0 ∧ (rnh hz (mvD D).1 (mvD D).2.2 (mbr D) 31) 7 kk = (mvD D).1 i ∧ (∀ k, D 6 0 ≤ k → k < (rnh hz (mvD D).1 (mvD D).2.2 (mbr D) 31) 6 0 → (rnh hz (mvD D).1 (mvD D).2.2 (mbr D) 31) 7 k = (mvD D).1 i → k = kk) ∧ S2.1 9 ((mvD D).1 i) = nI kk) (k : ∀ S' lv, CHI D (rnh hz (mvD D).1 (mvD D).2.2 (mbr D) 31) S2 S' 16 → zsub lv [(0, .ref 1), (1, .int (nI (D 6 1))), (2, .int (nI (mvD D).2.2))] → zR C τ ι 4 0 0 131 lv [] (zcells S')) : ∀ (n i : Nat) (S : zS), i + n = 16 → CHI D (rnh hz (mvD D).1 (mvD D).2.2 (mbr D) 31) S2 S i → zR C τ ι 4 0 0 42 [(0, .ref 1), (1, .int (nI (D 6 1))), (2, .int (nI (mvD D).2.2)), (3, .int (nI i))] [] (zcells S) := by
  intro n
  induction n with
  | zero =>
    intro i S hi hH
    refine zr_iload_n hC dX0_changeAll_42 rfl ?_
    refine zk_bipush hC dX0_changeAll_43 (v := nI 16) (by decide +kernel) ?_
    refine zr_icmp_ge hC dX0_changeAll_45 (tgt := 131) (by decide) (fun c_45 => ?_) (fun c => absurd c (not_not_intro (nI_le (by omega) (by omega))))
    exact k S _ (by rw [show 16 = i by omega]; exact hH) ⟨rfl, rfl, rfl, trivial⟩
  | succ n ih =>
    intro i S hi hH
    have e1 : S.1 1 = S2.1 1 := hH.2.2.2.2.1 1 (by decide) (by decide) (by decide) (by decide)
    have e3 : S.1 3 = S2.1 3 := hH.2.2.2.2.1 3 (by decide) (by decide) (by decide) (by decide)
    have e9 : S.1 9 = S2.1 9 := hH.2.2.2.2.1 9 (by decide) (by decide) (by decide) (by decide)
    have e5 : S.1 5 = S2.1 5 := hH.2.2.2.2.1 5 (by decide) (by decide) (by decide) (by decide)
    refine zr_iload_n hC dX0_changeAll_42 rfl ?_
    refine zk_bipush hC dX0_changeAll_43 (v := nI 16) (by decide +kernel) ?_
    refine zr_icmp_ge hC dX0_changeAll_45 (tgt := 131) (by decide) (fun c => absurd c (nI_ge (by omega) (by omega))) (fun c_45 => ?_)
    refine zr_aload_n hC dX0_changeAll_48 rfl ?_
    refine zv_geti hC dX0_changeAll_49 fl_X0_62 (a := 1) rfl (by decide) ((congrFun e1 3).trans hM.1) ?_
    refine zr_iload_n hC dX0_changeAll_52 rfl ?_
    refine zs_callSN hC [_, _] [] dX0_changeAll_53 mn_X0_94 mtX8_has tX8_has (by decide) (by decide) (by decide) rfl (Nat.le_of_ble_eq_true rfl) rfl ?_
    refine ⟨_, i, rfl, by omega, fun r e => ?_⟩
    rw [dm_b1 (show i < 16 by omega), dm_b0 (show i < 16 by omega)] at e
    rcases e with ⟨rfl, hx⟩ | ⟨rfl, hx⟩
    · obtain ⟨kk, b1, b2, b3, b4, b5⟩ := hcome i (by omega) hx
      dsimp only [Option.toList, List.cons_append, List.nil_append]
      refine zr_if_eq hC dX0_changeAll_56 (tgt := 104) (by decide) (fun c => absurd c (by decide +kernel)) (fun c_56 => ?_)
      refine zr_aload_n hC dX0_changeAll_59 rfl ?_
      refine zs_getr hC dX0_changeAll_60 fl_X0_36 (a := 1) (r := 14) rfl (by decide) ?_
      refine zr_iload_n hC dX0_changeAll_63 rfl ?_
      refine zr_aload_n hC dX0_changeAll_64 rfl ?_
      refine zv_geti hC dX0_changeAll_65 fl_X0_71 (a := 1) rfl (by decide) ((congrFun e1 6).trans hQ6) ?_
      refine zs_iast hC dX0_changeAll_68 (a := 14) (n := 16) rfl (by decide) (by decide) (j := i) rfl (by omega) ?_
      refine zr_aload_n hC dX0_changeAll_69 rfl ?_
      refine zs_getr hC dX0_changeAll_70 fl_X0_43 (a := 1) (r := 16) rfl (by decide) ?_
      refine zr_iload_n hC dX0_changeAll_73 rfl ?_
      refine zr_iload_n hC dX0_changeAll_74 rfl ?_
      refine zs_iast hC dX0_changeAll_75 (a := 16) (n := 16) rfl (by decide) (by decide) (j := i) rfl (by omega) ?_
      refine zr_aload_n hC dX0_changeAll_76 rfl ?_
      refine zs_getr hC dX0_changeAll_77 fl_X0_21 (a := 1) (r := 5) rfl (by decide) ?_
      refine zr_aload_n hC dX0_changeAll_80 rfl ?_
      refine zs_getr hC dX0_changeAll_81 fl_X0_21 (a := 1) (r := 5) rfl (by decide) ?_
      refine zs_getr hC dX0_changeAll_84 fl_X0_87 (a := 5) (r := 9) rfl (by decide) ?_
      refine zr_aload_n hC dX0_changeAll_87 rfl ?_
      refine zs_getr hC dX0_changeAll_88 fl_X0_12 (a := 1) (r := 2) rfl (by decide) ?_
      refine zs_getr hC dX0_changeAll_91 fl_X0_111 (a := 2) (r := 3) rfl (by decide) ?_
      refine zr_iload_n hC dX0_changeAll_94 rfl ?_
      refine zv_iald hC dX0_changeAll_95 (a := 3) (n := 16) rfl (by decide) (by decide) (j := i) rfl (by omega) ((congrFun ((zput_ne _ _ (by decide)).trans ((zput_ne _ _ (by decide)).trans e3)) i).trans (hS2.1 i (by omega))) ?_
      refine zv_iald hC dX0_changeAll_96 (a := 9) (n := 32) rfl (by decide) (by decide) (j := (mvD D).1 i) rfl (hS2.2.2 i (by omega)) ((congrFun ((zput_ne _ _ (by decide)).trans ((zput_ne _ _ (by decide)).trans e9)) _).trans b5) ?_
      refine zr_iload_n hC dX0_changeAll_97 rfl ?_
      refine zs_callV hC (b := 5) [_, _] [] dX0_changeAll_98 ml_X0_144 mtX1_give tX1_give (by decide) (by decide) (by decide) rfl rfl (by decide) (by decide +kernel) (Nat.le_of_ble_eq_true rfl) rfl ?_
      refine ⟨(rnh hz (mvD D).1 (mvD D).2.2 (mbr D) 31) 6 0, kk, i, rfl, ?_, by omega, b2, by omega, ?_⟩
      · rw [zput_ne _ _ (by decide), zput_ne _ _ (by decide), e5]; exact hK2
      dsimp only [Option.toList, List.nil_append]
      refine zr_goto hC dX0_changeAll_101 (tgt := 125) (by decide) ?_
      refine zn_iinc hC dX0_changeAll_125 rfl (by decide) (zk_inc _ 1) ?_
      refine zr_goto hC dX0_changeAll_128 (tgt := 42) (by decide) ?_
      first | exact zR_sub [(0, .ref 1), (1, .int (nI (D 6 1))), (2, .int (nI (mvD D).2.2)), (3, .int (nI (i + 1)))] ⟨rfl, rfl, rfl, rfl, trivial⟩ (ih (i + 1) _ (by omega) (hH.came hx b1 b2 b3 b4)) | exact zR_sub [(0, .ref 1), (1, .int (nI (D 6 1))), (2, .int (nI (mvD D).2.2)), (3, .int (nI (i + 1)))] ⟨rfl, rfl, rfl, rfl, trivial⟩ (ih (i + 1) _ (by omega) (hH.left hy)) | exact zR_sub [(0, .ref 1), (1, .int (nI (D 6 1))), (2, .int (nI (mvD D).2.2)), (3, .int (nI (i + 1)))] ⟨rfl, rfl, rfl, rfl, trivial⟩ (ih (i + 1) _ (by omega) (hH.skip hx hy))
    · dsimp only [Option.toList, List.cons_append, List.nil_append]
      refine zr_if_eq hC dX0_changeAll_56 (tgt := 104) (by decide) (fun c_56 => ?_) (fun c => absurd c (by decide +kernel))
      refine zr_aload_n hC dX0_changeAll_104 rfl ?_
      refine zv_geti hC dX0_changeAll_105 fl_X0_65 (a := 1) rfl (by decide) ((congrFun e1 4).trans hM.2.1) ?_
      refine zr_iload_n hC dX0_changeAll_108 rfl ?_
      refine zs_callSN hC [_, _] [] dX0_changeAll_109 mn_X0_94 mtX8_has tX8_has (by decide) (by decide) (by decide) rfl (Nat.le_of_ble_eq_true rfl) rfl ?_
      refine ⟨_, i, rfl, by omega, fun r e => ?_⟩
      rw [dm_b1 (show i < 16 by omega), dm_b0 (show i < 16 by omega)] at e
      rcases e with ⟨rfl, hy⟩ | ⟨rfl, hy⟩
      · dsimp only [Option.toList, List.cons_append, List.nil_append]
        refine zr_if_eq hC dX0_changeAll_112 (tgt := 125) (by decide) (fun c => absurd c (by decide +kernel)) (fun c_112 => ?_)
        refine zr_aload_n hC dX0_changeAll_115 rfl ?_
        refine zs_getr hC dX0_changeAll_116 fl_X0_40 (a := 1) (r := 15) rfl (by decide) ?_
        refine zr_iload_n hC dX0_changeAll_119 rfl ?_
        refine zr_aload_n hC dX0_changeAll_120 rfl ?_
        refine zv_geti hC dX0_changeAll_121 fl_X0_71 (a := 1) rfl (by decide) ((congrFun e1 6).trans hQ6) ?_
        refine zs_iast hC dX0_changeAll_124 (a := 15) (n := 16) rfl (by decide) (by decide) (j := i) rfl (by omega) ?_
        refine zn_iinc hC dX0_changeAll_125 rfl (by decide) (zk_inc _ 1) ?_
        refine zr_goto hC dX0_changeAll_128 (tgt := 42) (by decide) ?_
        first | exact zR_sub [(0, .ref 1), (1, .int (nI (D 6 1))), (2, .int (nI (mvD D).2.2)), (3, .int (nI (i + 1)))] ⟨rfl, rfl, rfl, rfl, trivial⟩ (ih (i + 1) _ (by omega) (hH.came hx b1 b2 b3 b4)) | exact zR_sub [(0, .ref 1), (1, .int (nI (D 6 1))), (2, .int (nI (mvD D).2.2)), (3, .int (nI (i + 1)))] ⟨rfl, rfl, rfl, rfl, trivial⟩ (ih (i + 1) _ (by omega) (hH.left hy)) | exact zR_sub [(0, .ref 1), (1, .int (nI (D 6 1))), (2, .int (nI (mvD D).2.2)), (3, .int (nI (i + 1)))] ⟨rfl, rfl, rfl, rfl, trivial⟩ (ih (i + 1) _ (by omega) (hH.skip hx hy))
      · dsimp only [Option.toList, List.cons_append, List.nil_append]
        refine zr_if_eq hC dX0_changeAll_112 (tgt := 125) (by decide) (fun c_112 => ?_) (fun c => absurd c (by decide +kernel))
        refine zn_iinc hC dX0_changeAll_125 rfl (by decide) (zk_inc _ 1) ?_
        refine zr_goto hC dX0_changeAll_128 (tgt := 42) (by decide) ?_
        first | exact zR_sub [(0, .ref 1), (1, .int (nI (D 6 1))), (2, .int (nI (mvD D).2.2)), (3, .int (nI (i + 1)))] ⟨rfl, rfl, rfl, rfl, trivial⟩ (ih (i + 1) _ (by omega) (hH.came hx b1 b2 b3 b4)) | exact zR_sub [(0, .ref 1), (1, .int (nI (D 6 1))), (2, .int (nI (mvD D).2.2)), (3, .int (nI (i + 1)))] ⟨rfl, rfl, rfl, rfl, trivial⟩ (ih (i + 1) _ (by omega) (hH.left hy)) | exact zR_sub [(0, .ref 1), (1, .int (nI (D 6 1))), (2, .int (nI (mvD D).2.2)), (3, .int (nI (i + 1)))] ⟨rfl, rfl, rfl, rfl, trivial⟩ (ih (i + 1) _ (by omega) (hH.skip hx hy))
def spX0_changeAll : zSp := fun av S Q => ∃ D : zD, av = [.ref 1] ∧ CR S D ∧ INV D ∧ brf D = nI 0 ∧ ∀ S', CR S' (btc D) → zfrm 1 17 S S' → Q (some (.int (nI (btc D 6 1 - D 6 1)))) S'
set_option maxHeartbeats 4000000 in
set_option maxRecDepth 100000 in
theorem tX0_changeAll : zM yX0_changeAll cX0_changeAll 4 (some .int) 5 spX0_changeAll := by
  refine zM.of (by decide) (by decide) (fun av S Q h => by obtain ⟨D, rfl, hCR, hI, hb, hQ⟩ := h; exact Nat.le_of_ble_eq_true rfl) (fun C τ ι av S Q Qr h hr hC hE => ?_)
  obtain ⟨D, rfl, hCR, hI, hb, hQ⟩ := h
  obtain ⟨hne, h60, h61⟩ := brf_0 hb
  have h16 : ∀ m, m < 16 → bt (nI (lvs D)) m = true → 16 ≤ D 0 m := fun m hm q => by
    rw [dm_b1 hm] at q
    have := hI.told hm
    rcases hI.leaf hm with z | z <;> omega
  have h00 : ∀ m, m < 16 → bt (nI (cms D)) m = true → D 0 m = 0 := fun m hm q => by
    rw [dm_b1 hm] at q
    have := hI.told hm
    omega
  show zR C τ ι _ 0 0 0 [(0, .ref 1)] [] _
  refine zr_aload_n hC dX0_changeAll_0 rfl ?_
  refine zs_getr hC dX0_changeAll_1 fl_X0_28 (a := 1) (r := 10) rfl (by decide) ?_
  refine zv_geti hC dX0_changeAll_4 fl_X0_84 (a := 10) rfl (by decide) (hCR.lr.1) ?_
  refine zr_istore_n hC dX0_changeAll_7 (by decide) ?_
  refine zr_aload_n hC dX0_changeAll_8 rfl ?_
  refine zs_getr hC dX0_changeAll_9 fl_X0_12 (a := 1) (r := 2) rfl (by decide) ?_
  refine zr_aload_n hC dX0_changeAll_12 rfl ?_
  refine zv_geti hC dX0_changeAll_13 fl_X0_65 (a := 1) rfl (by decide) (hCR.ms.2.1) ?_
  refine zr_aload_n hC dX0_changeAll_16 rfl ?_
  refine zv_geti hC dX0_changeAll_17 fl_X0_62 (a := 1) rfl (by decide) (hCR.ms.1) ?_
  refine zs_callV hC (b := 2) [_, _] [] dX0_changeAll_20 ml_X0_136 mtX5_move tX5_move (by decide) (by decide) (by decide) rfl rfl (by decide) (by decide +kernel) (Nat.le_of_ble_eq_true rfl) rfl ?_
  refine ⟨2, _, _, D 0, rfl, Or.inl rfl, hCR.sr, h16, h00, ?_⟩
  rw [mv_bits]
  intro S1 hs1 hf1
  dsimp only [Option.toList, List.cons_append, List.nil_append]
  refine zr_istore_n hC dX0_changeAll_23 (by decide) ?_
  refine zr_aload_n hC dX0_changeAll_24 rfl ?_
  refine zs_getr hC dX0_changeAll_25 fl_X0_21 (a := 1) (r := 5) rfl (by decide) ?_
  refine zr_aload_n hC dX0_changeAll_28 rfl ?_
  refine zs_getr hC dX0_changeAll_29 fl_X0_12 (a := 1) (r := 2) rfl (by decide) ?_
  refine zr_iload_n hC dX0_changeAll_32 rfl ?_
  refine zr_aload_n hC dX0_changeAll_33 rfl ?_
  refine zv_geti hC dX0_changeAll_34 fl_X0_71 (a := 1) rfl (by decide) ((congrFun (hf1.1 1 (by decide)) 6).trans hCR.qr.1) ?_
  refine zs_callV hC (b := 5) [_, _, _] [] dX0_changeAll_37 ml_X0_140 mtX1_renew tX1_renew (by decide) (by decide) (by decide) rfl rfl (by decide) (by decide +kernel) (Nat.le_of_ble_eq_true rfl) rfl ?_
  refine ⟨mbr D, (mvD D).1, (mvD D).2.2, D 6 2, rfl, hs1, ?_, h60, rfl, fun v a b hs hc => ?_, fun S2 hk2 ho2 hf2 => ?_⟩
  · exact hCR.kr.kept (hf1.1 _ (by decide)) (hf1.1 _ (by decide)) (hf1.1 _ (by decide)) (hf1.1 _ (by decide))
  · rw [hf1.1 9 (by decide), hCR.orr v a b, kof, if_neg ((mvD_F hI).live hs hc), key_cong (D := D) (D' := mbr D) rfl rfl]
  dsimp only [Option.toList, List.nil_append]
  refine zk_iconst hC dX0_changeAll_40 (v := nI 0) (by decide +kernel) ?_
  refine zr_istore_n hC dX0_changeAll_41 (by decide) ?_
  refine zR_sub [(0, .ref 1), (1, .int (nI (D 6 1))), (2, .int (nI (mvD D).2.2)), (3, .int (nI 0))] ⟨rfl, rfl, rfl, rfl, trivial⟩ ?_
  have hRI := bk_I (h' := hz) hI
  have hKK := fun v a b c => bk_key (h' := hz) (v := v) hI a b c
  refine l0_changeAll (S2 := S2) (D := D) hC ?_ ?_ ?_ hk2.1 ?_ ?_ (fun S3 lv h3 q => ?_) 16 0 S2 (by omega) ?_
  · unfold MRs; rw [hf2.1 1 (by decide), hf1.1 1 (by decide)]; exact hCR.ms
  · rw [hf2.1 1 (by decide), hf1.1 1 (by decide)]; exact hCR.qr.1
  · exact hs1.kept (hf2.1 _ (by decide)) (hf2.1 _ (by decide))
  · have := hRI.1.2; omega
  · intro i hi h1
    have hat := mvD_at hI hi
    have hl : 16 ≤ (mvD D).1 i ∧ (mvD D).1 i < 32 := by omega
    have hb1 := bn_self (u := (mvD D).1 i) (by omega)
    have hs : sm (mvD D).1 ((mvD D).1 i) ≠ 0 := sm_ne.mpr ⟨i, hi, hb1⟩
    have hc := (mvD_F hI).node (v := (mvD D).1 i) hi (beq_iff_eq.mpr h1) hb1
    obtain ⟨kk, k1, k2, k3⟩ := hRI.2.2.2.2 _ (by omega) hl.2 hs hc
    refine ⟨kk, k1, k2, k3, fun k q1 q2 q3 => hRI.2.2.2.1 k kk q1 q2 k1 k2 (by rw [q3, k3]), ?_⟩
    rw [ho2 _ (by omega) hl.2, kof, if_neg hs]
    have hk := hRI.key k1 k2
    rw [k3] at hk
    rw [hk]
  · obtain ⟨c1, c2, c3, c4, c5, c6⟩ := CH_end hCR hI hs1 hf1 hk2 ho2 hf2 h3
    have f3 : zfrm 1 17 S2 S3 := ⟨fun a ha => h3.2.2.2.2.1 a (by omega) (by omega) (by omega) (by omega), h3.2.2.2.2.2⟩
    refine zR_sub [(0, .ref 1), (1, .int (nI (D 6 1))), (2, .int (nI (mvD D).2.2))] q ?_
    refine zr_aload_n hC dX0_changeAll_131 rfl ?_
    refine zr_iload_n hC dX0_changeAll_132 rfl ?_
    refine zs_callV hC (b := 1) [_] [] dX0_changeAll_133 ml_X0_148 mtX0_tellChanged tX0_tellChanged (by decide) (by decide) (by decide) rfl rfl (by decide) (by decide +kernel) (Nat.le_of_ble_eq_true rfl) rfl ?_
    refine ⟨_, (mvD D).1, (mvD D).2.2, rfl, (mvD_F hI).1, c1, c3, (congrFun c5 6).trans (hCR.qr.1.trans (congrArg nI (rnh_6 (D := mbr D) (by decide) 31).symm)), c4, Nat.lt_of_le_of_lt (Nat.le_of_eq (rnh_6 (D := mbr D) (by decide) 31)) h61, fun S4 l4 f4 => ?_⟩
    have hcr := CH_cr hI c1 c2 c3 c6 (by rw [c5]; exact hCR.qr.2) l4 f4
    dsimp only [Option.toList, List.nil_append]
    refine zr_aload_n hC dX0_changeAll_136 rfl ?_
    refine zr_dup hC dX0_changeAll_137 rfl ?_
    refine zv_geti hC dX0_changeAll_138 fl_X0_68 (a := 1) rfl (by decide) ((congrFun ((f4.1 1 (by decide)).trans c5) 5).trans hCR.ms.2.2) ?_
    refine zr_aload_n hC dX0_changeAll_141 rfl ?_
    refine zv_geti hC dX0_changeAll_142 fl_X0_62 (a := 1) rfl (by decide) ((congrFun ((f4.1 1 (by decide)).trans c5) 3).trans hCR.ms.1) ?_
    refine zr_aload_n hC dX0_changeAll_145 rfl ?_
    refine zv_geti hC dX0_changeAll_146 fl_X0_65 (a := 1) rfl (by decide) ((congrFun ((f4.1 1 (by decide)).trans c5) 4).trans hCR.ms.2.1) ?_
    refine zn_ior hC dX0_changeAll_149 (fa_or _ _) ?_
    refine zk_iconst hC dX0_changeAll_150 (v := (-1)) (by decide +kernel) ?_
    refine zr_ixor hC dX0_changeAll_151 ?_
    refine zn_iand hC dX0_changeAll_152 (z_andn _ _) ?_
    refine zs_puti hC dX0_changeAll_153 fl_X0_68 fp_X0_5 (a := 1) rfl (by decide) ?_
    refine zr_aload_n hC dX0_changeAll_156 rfl ?_
    refine zk_iconst hC dX0_changeAll_157 (v := nI 0) (by decide +kernel) ?_
    refine zs_puti hC dX0_changeAll_158 fl_X0_62 fp_X0_3 (a := 1) rfl (by decide) ?_
    refine zr_aload_n hC dX0_changeAll_161 rfl ?_
    refine zk_iconst hC dX0_changeAll_162 (v := nI 0) (by decide +kernel) ?_
    refine zs_puti hC dX0_changeAll_163 fl_X0_65 fp_X0_4 (a := 1) rfl (by decide) ?_
    refine zr_aload_n hC dX0_changeAll_166 rfl ?_
    refine zr_dup hC dX0_changeAll_167 rfl ?_
    refine zv_geti hC dX0_changeAll_168 fl_X0_71 (a := 1) rfl (by decide) ((zput_k _ _ (by decide)).trans ((zput_k _ _ (by decide)).trans ((zput_k _ _ (by decide)).trans ((congrFun ((f4.1 1 (by decide)).trans c5) 6).trans hCR.qr.1)))) ?_
    refine zk_iconst hC dX0_changeAll_171 (v := nI 1) (by decide +kernel) ?_
    refine zn_iadd hC dX0_changeAll_172 (nI_add _ _) ?_
    refine zs_puti hC dX0_changeAll_173 fl_X0_71 fp_X0_6 (a := 1) rfl (by decide) ?_
    refine zr_aload_n hC dX0_changeAll_176 rfl ?_
    refine zs_callV hC (b := 1) [] [] dX0_changeAll_177 ml_X0_151 mtX0_readByAll tX0_readByAll (by decide) (by decide) (by decide) rfl rfl (by decide) (by decide +kernel) (Nat.le_of_ble_eq_true rfl) rfl ?_
    refine ⟨_, rfl, hcr, (hI.btc1 hb).rd, fun S6 g1 g2 => ?_⟩
    dsimp only [Option.toList, List.nil_append]
    refine zr_aload_n hC dX0_changeAll_180 rfl ?_
    refine zs_getr hC dX0_changeAll_181 fl_X0_28 (a := 1) (r := 10) rfl (by decide) ?_
    refine zv_geti hC dX0_changeAll_184 fl_X0_84 (a := 10) rfl (by decide) (g1.lr.1) ?_
    refine zr_iload_n hC dX0_changeAll_187 rfl ?_
    refine zn_isub hC dX0_changeAll_188 (pk_sub (btc_61 D)) ?_
    exact zr_ireturn hC hE dX0_changeAll_189 (hr _ _ (hQ _ g1 ((((hf1.up (by decide) (by decide)).tr (hf2.up (by decide) (by decide))).tr (f3.tr ((f4.up (by decide) (by decide)).put (by decide) (by decide) |>.put (by decide) (by decide) |>.put (by decide) (by decide) |>.put (by decide) (by decide)))).tr g2)))
  · refine CHI.zero (fun k hk => (hk2.2 k hk).2.2) (fun k hk => (hRI.2.1 k hk).2.2) (fun k q1 q2 => ?_)
    obtain ⟨-, -, -, -, -, q⟩ := hRI.2.2.1 k q1 q2
    exact q
