/-! THE DOCUMENT'S STATE: D f k. f: 0 the leaf of member k (0: none), 1 told (1 to come, 2 to leave), 2 late, 3 the first letter not read, 4 the batch in which it came + 1, 5 left + 1; 6: 0 keys, 1 letters, 2 batches, 3 the draw; of key k: 7 its node, 8 its batch, 9 who holds it (bits); of letter k: 10 the key in it, 11 that under which it is, 12 its batch + 1 (0: mended) -/
abbrev zD : Type := Nat → Nat → Nat
def dset (D : zD) (f k x : Nat) : zD := fun f' k' => if f' = f ∧ k' = k then x else D f' k'
theorem dset_at (D : zD) (f k x : Nat) : dset D f k x f k = x := by simp [dset]
theorem dset_f (D : zD) {f f' : Nat} (k x k' : Nat) (h : f' ≠ f) : dset D f k x f' k' = D f' k' := by simp [dset, h]
theorem dset_k (D : zD) (f : Nat) {k k' : Nat} (x : Nat) (h : k' ≠ k) : dset D f k x f k' = D f k' := by simp [dset, h]
theorem dset_ff (D : zD) {f f' : Nat} (k x : Nat) (h : f' ≠ f) : dset D f k x f' = D f' := by funext k'; simp [dset, h]
def lastk (D : zD) (v : Nat) : Nat → Nat
  | 0 => 0
  | n + 1 => if D 7 n = v then n else lastk D v n
abbrev key (D : zD) (v : Nat) : Nat := lastk D v (D 6 0)
abbrev hd (D : zD) (m k : Nat) : Bool := (D 9 k).testBit m
def kadd (D : zD) (v h : Nat) : zD := dset (dset (dset (dset D 7 (D 6 0) v) 8 (D 6 0) (D 6 2)) 9 (D 6 0) h) 6 0 (D 6 0 + 1)
def ladd (D : zD) (a b c : Nat) : zD := dset (dset (dset (dset D 10 (D 6 1) a) 11 (D 6 1) b) 12 (D 6 1) c) 6 1 (D 6 1 + 1)
/-- new keys, from node 31 down: t nodes done; h: who holds them -/
def rnh (h : Nat → Nat) (lf : Nat → Nat) (ch : Nat) (D : zD) : Nat → zD
  | 0 => D
  | t + 1 => if sm lf (31 - t) ≠ 0 ∧ ch.testBit (31 - t) = true then kadd (rnh h lf ch D t) (31 - t) (h (31 - t)) else rnh h lf ch D t
def hlf (lf : Nat → Nat) (v : Nat) : Nat := if 16 ≤ v then sm lf v else 0
abbrev rn (lf : Nat → Nat) (ch : Nat) (D : zD) (t : Nat) : zD := rnh (hlf lf) lf ch D t
def tl1 (lf : Nat → Nat) (D : zD) (v w : Nat) : zD := if sm lf w = 0 then D else ladd D (key D v) (key D w) (D 6 2 + 1)
/-- letters, from node 15 down: t nodes done -/
def tl (lf : Nat → Nat) (ch : Nat) (D : zD) : Nat → zD
  | 0 => D
  | t + 1 => if ch.testBit (15 - t) = true then tl1 lf (tl1 lf (tl lf ch D t) (15 - t) (2 * (15 - t))) (15 - t) (2 * (15 - t) + 1) else tl lf ch D t
/-- member m reads letters from i0 on: n of them; and how many gave it a key -/
def rds (m i0 : Nat) (D : zD) : Nat → zD × Nat
  | 0 => (D, 0)
  | n + 1 => if hd (rds m i0 D n).1 m ((rds m i0 D n).1 11 (i0 + n)) = true ∧ hd (rds m i0 D n).1 m ((rds m i0 D n).1 10 (i0 + n)) = false then (dset (rds m i0 D n).1 9 ((rds m i0 D n).1 10 (i0 + n)) ((rds m i0 D n).1 9 ((rds m i0 D n).1 10 (i0 + n)) ||| 2 ^ m), (rds m i0 D n).2 + 1) else rds m i0 D n
def rdm (m : Nat) (D : zD) : zD := dset (rds m (D 3 m) D (D 6 1 - D 3 m)).1 3 m (D 6 1)
/-- all that sit and aren't late read: n members done -/
def rda (D : zD) : Nat → zD
  | 0 => D
  | n + 1 => if rda D n 0 n ≠ 0 ∧ rda D n 2 n = 0 then rdm n (rda D n) else rda D n
/-- who sits where in a batch -/
abbrev mvD (D : zD) : zM3 := mv (D 0) (fun m => D 1 m == 2) (fun m => D 1 m == 1)
/-- members behind a batch's moves -/
def mbr (D : zD) : zD := fun f k => match f with
  | 0 => (mvD D).1 k
  | 1 => 0
  | 2 => if D 1 k = 0 then D 2 k else 0
  | 3 => if D 1 k = 0 then D 3 k else D 6 1
  | 4 => if D 1 k = 1 then D 6 2 + 1 else D 4 k
  | 5 => if D 1 k = 2 then D 6 2 + 1 else D 5 k
  | f => D f k
def btc1 (D : zD) : zD := tl (mvD D).1 (mvD D).2.2 (rn (mvD D).1 (mvD D).2.2 (mbr D) 31) 15
def btc (D : zD) : zD := rda (dset (btc1 D) 6 2 (D 6 2 + 1)) 16
/-- keys told again to member m, from node u up -/
def mnl (m : Nat) : Nat → Nat → zD → zD
  | 0, _, D => D
  | n + 1, u, D => if u = 0 then D else mnl m n (u / 2) (if hd D m (key D u) = true then D else ladd D (key D u) (key D (D 0 m)) 0)
def mnd (m : Nat) (D : zD) : zD := rda (mnl m 4 (D 0 m / 2) D) 16
/-- what holds of the document's state in every run -/
def INV (D : zD) : Prop :=
  (∀ m, m < 16 → D 0 m = 0 ∨ (16 ≤ D 0 m ∧ D 0 m < 32)) ∧
  (∀ m j, m < 16 → j < 16 → D 0 m = D 0 j → D 0 m ≠ 0 → m = j) ∧
  (∀ m, m < 16 → D 1 m = 0 ∨ (D 1 m = 1 ∧ D 0 m = 0) ∨ (D 1 m = 2 ∧ D 0 m ≠ 0)) ∧
  (∀ m, m < 16 → D 2 m = 0 ∨ (D 2 m = 1 ∧ D 0 m ≠ 0)) ∧
  (∀ m, m < 16 → D 0 m ≠ 0 → D 3 m ≤ D 6 1 ∧ D 4 m ≠ 0) ∧
  (∀ m, m < 16 → D 4 m ≤ D 6 2 ∧ D 5 m ≤ D 6 2 ∧ (D 4 m ≠ 0 → D 0 m = 0 → D 5 m ≠ 0)) ∧
  (D 6 0 ≤ 230 ∧ D 6 1 ≤ 189 ∧ D 6 2 + pcn 16 (sm (D 0) 1) ≤ 17 * D 6 0 ∧ D 6 3 < 2147483648) ∧
  (∀ k, k < D 6 0 → 1 ≤ D 7 k ∧ D 7 k < 32 ∧ D 8 k < D 6 2 ∧ D 9 k < 65536) ∧
  (∀ i, i < D 6 1 → D 10 i < D 6 0 ∧ D 11 i < D 6 0 ∧ D 12 i ≤ D 6 2) ∧
  (∀ v, 1 ≤ v → v < 32 → sm (D 0) v ≠ 0 → ∃ k, k < D 6 0 ∧ D 7 k = v) ∧
  (∀ i j, i < D 6 1 → j < D 6 1 → D 12 i = D 6 2 → D 12 j = D 6 2 → D 7 (D 11 i) = D 7 (D 11 j) → i = j) ∧
  (D 6 2 = 0 → D 6 1 = 0)
theorem lastk_in {D : zD} {v : Nat} : ∀ {n}, (∃ k, k < n ∧ D 7 k = v) → lastk D v n < n ∧ D 7 (lastk D v n) = v
  | 0, ⟨k, h, _⟩ => by omega
  | n + 1, ⟨k, h, e⟩ => by
    unfold lastk
    by_cases hn : D 7 n = v
    · rw [if_pos hn]; exact ⟨by omega, hn⟩
    · rw [if_neg hn]
      have : k ≠ n := fun q => hn (q ▸ e)
      have := lastk_in (D := D) (v := v) (n := n) ⟨k, by omega, e⟩
      exact ⟨by omega, this.2⟩
theorem lastk_le {D : zD} {v : Nat} : ∀ n, lastk D v n ≤ n
  | 0 => Nat.le_refl 0
  | n + 1 => by
    unfold lastk
    split
    · omega
    · have := lastk_le (D := D) (v := v) n; omega
/-! THE CLASS'S OWN BOOK 'now' (cells 1 .. 16) tells D -/
def KR (S : zS) (D : zD) : Prop := S.1 5 0 = nI (D 6 0) ∧ ∀ k, k < D 6 0 → S.1 6 k = nI (D 7 k) ∧ S.1 7 k = nI (D 8 k) ∧ S.1 8 k = nI (D 9 k)
def kof (lf : Nat → Nat) (D : zD) (v : Nat) : Int32 := if sm lf v = 0 then -4 else nI (key D v)
def OR (S : zS) (D : zD) : Prop := ∀ v, 1 ≤ v → v < 32 → S.1 9 v = kof (D 0) D v
def lbI : Nat → Int32
  | 0 => -4
  | n + 1 => nI n
def LR (S : zS) (D : zD) : Prop := S.1 10 0 = nI (D 6 1) ∧ ∀ i, i < D 6 1 → S.1 11 i = nI (D 10 i) ∧ S.1 12 i = nI (D 11 i) ∧ S.1 13 i = lbI (D 12 i)
abbrev cms (D : zD) : Nat := dm (fun m => D 1 m == 1)
abbrev lvs (D : zD) : Nat := dm (fun m => D 1 m == 2)
abbrev sls (D : zD) : Nat := dm (fun m => D 2 m == 1)
/-- the book's own ints and rows -/
def MRs (S : zS) (D : zD) : Prop := S.1 1 3 = nI (cms D) ∧ S.1 1 4 = nI (lvs D) ∧ S.1 1 5 = nI (sls D)
def QR (S : zS) (D : zD) : Prop := S.1 1 6 = nI (D 6 2) ∧ S.1 1 7 = nI (D 6 3)
def caI (x : Nat) : Int32 := match x with
  | 0 => -1
  | n + 1 => nI n
def AR (S : zS) (D : zD) : Prop := (∀ m, m < 16 → S.1 14 m = caI (D 4 m)) ∧ (∀ m, m < 16 → D 4 m ≠ 0 → D 0 m = 0 → S.1 15 m = caI (D 5 m)) ∧ (∀ m, m < 16 → D 0 m ≠ 0 → S.1 16 m = nI (D 3 m))
def CR (S : zS) (D : zD) : Prop := SR S 2 (D 0) ∧ KR S D ∧ OR S D ∧ LR S D ∧ MRs S D ∧ QR S D ∧ AR S D
theorem SR.kept {S S' : zS} {q : Nat} {lf : Nat → Nat} (h : SR S q lf) (h1 : S'.1 (q + 1) = S.1 (q + 1)) (h2 : S'.1 (q + 2) = S.1 (q + 2)) : SR S' q lf := by
  unfold SR; rw [h1, h2]; exact h
theorem INV.made {D : zD} (h : INV D) : D 6 0 ≤ 230 := h.2.2.2.2.2.2.1.1
theorem INV.written {D : zD} (h : INV D) : D 6 1 ≤ 189 := h.2.2.2.2.2.2.1.2.1
theorem INV.batches {D : zD} (h : INV D) : D 6 2 ≤ 3910 := by have h1 := h.2.2.2.2.2.2.1; omega
theorem INV.draw {D : zD} (h : INV D) : D 6 3 < 2147483648 := h.2.2.2.2.2.2.1.2.2.2
theorem INV.leaf {D : zD} (h : INV D) {m : Nat} (hm : m < 16) : D 0 m = 0 ∨ (16 ≤ D 0 m ∧ D 0 m < 32) := h.1 m hm
theorem INV.told {D : zD} (h : INV D) {m : Nat} (hm : m < 16) : D 1 m = 0 ∨ (D 1 m = 1 ∧ D 0 m = 0) ∨ (D 1 m = 2 ∧ D 0 m ≠ 0) := h.2.2.1 m hm
theorem INV.late {D : zD} (h : INV D) {m : Nat} (hm : m < 16) : D 2 m = 0 ∨ (D 2 m = 1 ∧ D 0 m ≠ 0) := h.2.2.2.1 m hm
theorem INV.read {D : zD} (h : INV D) {m : Nat} (hm : m < 16) (h0 : D 0 m ≠ 0) : D 3 m ≤ D 6 1 := (h.2.2.2.2.1 m hm h0).1
theorem INV.keys {D : zD} (h : INV D) {k : Nat} (hk : k < D 6 0) : 1 ≤ D 7 k ∧ D 7 k < 32 ∧ D 8 k < D 6 2 ∧ D 9 k < 65536 := h.2.2.2.2.2.2.2.1 k hk
theorem INV.lets {D : zD} (h : INV D) {i : Nat} (hi : i < D 6 1) : D 10 i < D 6 0 ∧ D 11 i < D 6 0 ∧ D 12 i ≤ D 6 2 := h.2.2.2.2.2.2.2.2.1 i hi
theorem INV.live {D : zD} (h : INV D) {v : Nat} (h1 : 1 ≤ v) (h2 : v < 32) (h3 : sm (D 0) v ≠ 0) : key D v < D 6 0 ∧ D 7 (key D v) = v := lastk_in (h.2.2.2.2.2.2.2.2.2.1 v h1 h2 h3)
