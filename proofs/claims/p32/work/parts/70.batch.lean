/-! A BATCH, ahead of all reading: what it does to seats, keys, letters -/
abbrev lfD (D : zD) : Nat → Nat := (mvD D).1
abbrev chD (D : zD) : Nat := (mvD D).2.2
abbrev btB (D : zD) : zD := dset (btc1 D) 6 2 (D 6 2 + 1)
def BTs (D B : zD) : Prop := B 0 = lfD D ∧ (∀ m, B 1 m = 0) ∧ (∀ m, B 2 m = if D 1 m = 0 then D 2 m else 0) ∧ (∀ m, B 3 m = if D 1 m = 0 then D 3 m else D 6 1) ∧ ∀ m, B 4 m = if D 1 m = 1 then D 6 2 + 1 else D 4 m
def BTn (D B : zD) : Prop := D 6 0 ≤ B 6 0 ∧ B 6 1 = D 6 1 + ltr (lfD D) (chD D) 15 ∧ B 6 2 = D 6 2 + 1 ∧ B 6 3 = D 6 3
def BTo (D B : zD) : Prop := ∀ k, k < D 6 0 → B 7 k = D 7 k ∧ B 8 k = D 8 k ∧ B 9 k = D 9 k
def BTk (D B : zD) : Prop := ∀ k, D 6 0 ≤ k → k < B 6 0 → 1 ≤ B 7 k ∧ B 7 k < 32 ∧ (chD D).testBit (B 7 k) = true ∧ sm (lfD D) (B 7 k) ≠ 0 ∧ B 8 k = D 6 2 ∧ B 9 k = hlf (lfD D) (B 7 k) ∧ key B (B 7 k) = k
def BTp (D B : zD) : Prop := ∀ i, i < D 6 1 → B 10 i = D 10 i ∧ B 11 i = D 11 i ∧ B 12 i = D 12 i
def BTl (D B : zD) : Prop := ∀ i, D 6 1 ≤ i → i < B 6 1 → ∃ w, 2 ≤ w ∧ w < 32 ∧ sm (lfD D) w ≠ 0 ∧ (chD D).testBit (w / 2) = true ∧ B 7 (B 11 i) = w ∧ B 11 i = key B w ∧ B 10 i = key B (w / 2) ∧ B 12 i = D 6 2 + 1
def BTx (D B : zD) : Prop := ∃ ix : Nat → Nat, ∀ w, 2 ≤ w → w < 32 → sm (lfD D) w ≠ 0 → (chD D).testBit (w / 2) = true → (D 6 1 ≤ ix w ∧ ix w < B 6 1 ∧ B 10 (ix w) = key B (w / 2) ∧ B 11 (ix w) = key B w ∧ B 12 (ix w) = D 6 2 + 1) ∧ ∀ w', w / 2 < w' / 2 → w' < 32 → sm (lfD D) w' ≠ 0 → (chD D).testBit (w' / 2) = true → ix w' < ix w
def BTc (D B : zD) : Prop := ∀ v, 1 ≤ v → v < 32 → ((chD D).testBit v = false → key B v = key D v) ∧ ((chD D).testBit v = true → sm (lfD D) v ≠ 0 → D 6 0 ≤ key B v ∧ key B v < B 6 0 ∧ B 7 (key B v) = v)
def BT (D B : zD) : Prop := BTs D B ∧ BTn D B ∧ BTo D B ∧ BTk D B ∧ BTp D B ∧ BTl D B ∧ BTx D B ∧ BTc D B
theorem lastk_skip {D : zD} {v a : Nat} : ∀ d, (∀ k, a ≤ k → k < a + d → D 7 k ≠ v) → lastk D v (a + d) = lastk D v a
  | 0, _ => rfl
  | d + 1, h => by
    show (if D 7 (a + d) = v then a + d else lastk D v (a + d)) = _
    rw [if_neg (h (a + d) (by omega) (by omega))]
    exact lastk_skip d (fun k h1 h2 => h k h1 (by omega))
set_option maxHeartbeats 1000000 in
theorem bt_BT {D : zD} (h : INV D) : BT D (btB D) := by
  have hRI : rnI (hlf (lfD D)) (lfD D) (chD D) D (rn (lfD D) (chD D) (mbr D) 31) 31 := bk_I h
  have hlive : ∀ v, 1 ≤ v → v < 32 → sm (lfD D) v ≠ 0 → key (rn (lfD D) (chD D) (mbr D) 31) v < (rn (lfD D) (chD D) (mbr D) 31) 6 0 ∧ (rn (lfD D) (chD D) (mbr D) 31) 7 (key (rn (lfD D) (chD D) (mbr D) 31) v) = v := fun v h1 h2 h3 => bk_key h h1 h2 h3
  have hTI := tl_I (lf := lfD D) (ch := chD D) (D := rn (lfD D) (chD D) (mbr D) 31) (fun w h1 h2 h3 => (hlive w h1 h2 h3).2) 15 (Nat.le_refl _)
  have hTX := tl_X (lf := lfD D) (ch := chD D) (D := rn (lfD D) (chD D) (mbr D) 31) 15 (Nat.le_refl _)
  have hTn := tl_ltr (lf := lfD D) (ch := chD D) (D := rn (lfD D) (chD D) (mbr D) 31) 15 (Nat.le_refl _)
  have r0 : ∀ f, f ≠ 6 → f ≠ 7 → f ≠ 8 → f ≠ 9 → rn (lfD D) (chD D) (mbr D) 31 f = mbr D f := fun f q1 q2 q3 q4 => rnh_f q1 q2 q3 q4 31
  have r6 : ∀ k, k ≠ 0 → rn (lfD D) (chD D) (mbr D) 31 6 k = D 6 k := fun k hk => rnh_6 (D := mbr D) hk 31
  show BT D (dset (tl (lfD D) (chD D) (rn (lfD D) (chD D) (mbr D) 31) 15) 6 2 (D 6 2 + 1))
  generalize tl (lfD D) (chD D) (rn (lfD D) (chD D) (mbr D) 31) 15 = T at *
  generalize rn (lfD D) (chD D) (mbr D) 31 = R at *
  have hkk : ∀ k, D 6 0 ≤ k → k < R 6 0 → key R (R 7 k) = k := fun k h1 h2 => hRI.key h1 h2
  obtain ⟨⟨a1, a2⟩, b, c, d, e⟩ := hRI
  obtain ⟨hE, t5, t6⟩ := hTI
  have hEk := hE.key
  obtain ⟨t1, t2, t3, t4⟩ := hE
  have bf : ∀ f, f ≠ 6 → dset T 6 2 (D 6 2 + 1) f = T f := fun f hf => dset_ff _ _ _ hf
  have b6 : ∀ k, k ≠ 2 → dset T 6 2 (D 6 2 + 1) 6 k = T 6 k := fun k hk => dset_k _ _ _ hk
  have b62 : dset T 6 2 (D 6 2 + 1) 6 2 = D 6 2 + 1 := dset_at _ _ _ _
  have bk : ∀ v, key (dset T 6 2 (D 6 2 + 1)) v = key R v := fun v => (key_cong (bf 7 (by decide)) (b6 0 (by decide)) v).trans (hEk v)
  have e60 : dset T 6 2 (D 6 2 + 1) 6 0 = R 6 0 := (b6 0 (by decide)).trans (t2 0 (by decide))
  have e61 : dset T 6 2 (D 6 2 + 1) 6 1 = T 6 1 := b6 1 (by decide)
  have e63 : dset T 6 2 (D 6 2 + 1) 6 3 = D 6 3 := (b6 3 (by decide)).trans ((t2 3 (by decide)).trans (r6 3 (by decide)))
  have e7 : dset T 6 2 (D 6 2 + 1) 7 = R 7 := (bf 7 (by decide)).trans (t1 7 (by decide) (by decide) (by decide) (by decide))
  have e8 : dset T 6 2 (D 6 2 + 1) 8 = R 8 := (bf 8 (by decide)).trans (t1 8 (by decide) (by decide) (by decide) (by decide))
  have e9 : dset T 6 2 (D 6 2 + 1) 9 = R 9 := (bf 9 (by decide)).trans (t1 9 (by decide) (by decide) (by decide) (by decide))
  have e10 : dset T 6 2 (D 6 2 + 1) 10 = T 10 := bf 10 (by decide)
  have e11 : dset T 6 2 (D 6 2 + 1) 11 = T 11 := bf 11 (by decide)
  have e12 : dset T 6 2 (D 6 2 + 1) 12 = T 12 := bf 12 (by decide)
  have em : ∀ f, f < 6 → dset T 6 2 (D 6 2 + 1) f = mbr D f := fun f hf => (bf f (by omega)).trans ((t1 f (by omega) (by omega) (by omega) (by omega)).trans (r0 f (by omega) (by omega) (by omega) (by omega)))
  have r10 : R 10 = D 10 := r0 10 (by decide) (by decide) (by decide) (by decide)
  have r11 : R 11 = D 11 := r0 11 (by decide) (by decide) (by decide) (by decide)
  have r12 : R 12 = D 12 := r0 12 (by decide) (by decide) (by decide) (by decide)
  have r61 : R 6 1 = D 6 1 := r6 1 (by decide)
  have r62 : R 6 2 = D 6 2 := r6 2 (by decide)
  generalize dset T 6 2 (D 6 2 + 1) = B at *
  refine ⟨⟨em 0 (by decide), fun m => by rw [em 1 (by decide)]; rfl, fun m => by rw [em 2 (by decide)]; rfl, fun m => by rw [em 3 (by decide)]; rfl, fun m => by rw [em 4 (by decide)]; rfl⟩, ⟨by omega, ?_, b62, e63⟩, fun k hk => ?_, fun k h1 h2 => ?_, fun i hi => ?_, fun i h1 h2 => ?_, ?_, fun v h1 h2 => ⟨fun hc => ?_, fun hc hl => ?_⟩⟩
  · rw [e61, ← r61, ← hTn]; rfl
  · rw [e7, e8, e9]; exact b k hk
  · rw [e60] at h2
    rw [bk, e7, e8, e9]
    obtain ⟨c1, c2, c3, c4, c5, c6⟩ := c k h1 h2
    exact ⟨by omega, c2, c3, c4, c5, c6, hkk k h1 h2⟩
  · have := t4 i (by omega)
    rw [e10, e11, e12, this.1, this.2.1, this.2.2, r10, r11, r12]
    exact ⟨rfl, rfl, rfl⟩
  · rw [e61] at h2
    obtain ⟨-, c2, c3, c4, c5, c6, c7, c8⟩ := t5 i (by omega) h2
    refine ⟨R 7 (T 11 i), c2, c3, c4, c5, ?_, ?_, ?_, ?_⟩
    · rw [e7, e11]
    · rw [e11, bk]; exact c6
    · rw [e10, bk]; exact c7
    · rw [e12, c8, r62]
  · obtain ⟨ix, hx⟩ := hTX
    refine ⟨ix, fun w h1 h2 h3 h4 => ?_⟩
    obtain ⟨⟨c1, c2, c3, c4, c5⟩, c6⟩ := hx w (by omega) h2 h3 h4
    refine ⟨⟨by omega, by rw [e61]; exact c2, ?_, ?_, ?_⟩, c6⟩
    · rw [e10, bk]; exact c3
    · rw [e11, bk]; exact c4
    · rw [e12, c5, r62]
  · rw [bk]
    obtain ⟨n, hn⟩ : ∃ n, R 6 0 = D 6 0 + n := ⟨R 6 0 - D 6 0, by omega⟩
    show lastk R v (R 6 0) = lastk D v (D 6 0)
    rw [hn, lastk_skip n (fun k q1 q2 q3 => ?_)]
    · exact lastk_low _ (fun k hk => (b k hk).1)
    · have := (c k q1 (by omega)).2.2.1
      rw [q3, hc] at this; cases this
  · obtain ⟨k, k1, k2, k3⟩ := e v (by omega) h2 hl hc
    have := hkk k k1 k2
    rw [k3] at this
    rw [bk, e60, e7, this]
    exact ⟨k1, k2, k3⟩
