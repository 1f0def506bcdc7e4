/-! NUMBERS AND SETS of the document's state -/
theorem z_in {x : Int32} {n : Nat} (h1 : ¬ x < 0) (h2 : x < nI n) (hn : n < 2147483648) : ∃ j, j < n ∧ x = nI j := by
  rcases pk_ix x (n := n) hn with h | h | h
  · exact absurd h h1
  · exact absurd h (Int32.not_le.mpr h2)
  · exact h
theorem z_nlt {a b : Nat} (ha : a < 2147483648) (hb : b < 2147483648) : ¬ nI a < nI b ↔ b ≤ a := by rw [nI_ltI ha hb]; omega
theorem z_nle {a b : Nat} (ha : a < 2147483648) (hb : b < 2147483648) : ¬ nI a ≤ nI b ↔ b < a := by rw [nI_leI ha hb]; omega
theorem z_ne0 {a : Nat} (ha : a < 2147483648) : nI a = 0 ↔ a = 0 := nI_eq (b := 0) ha (by decide)
theorem bt_nI (n i : Nat) (hi : i < 32) : bt (nI n) i = n.testBit i := by
  show (BitVec.ofNat 32 n).getLsbD i = _
  rw [BitVec.getLsbD_ofNat]
  simp [hi]
theorem z_shl1 : ∀ m, m < 32 → nI 1 <<< (nI m &&& 31) = nI (2 ^ m) := by decide +kernel
/-- without the bits of the second -/
def zan (a b : Nat) : Nat := a &&& (b ^^^ 4294967295)
theorem z_m1 : (-1 : Int32) = nI 4294967295 := by decide +kernel
theorem z_andn (a b : Nat) : nI a &&& (nI b ^^^ (-1)) = nI (zan a b) := by rw [z_m1, nx_xor, nx_and]; rfl
theorem zan_bit {a b i : Nat} (hi : i < 32) : (zan a b).testBit i = (a.testBit i && !b.testBit i) := by
  unfold zan
  rw [Nat.testBit_and, Nat.testBit_xor]
  have h : ∀ i, i < 32 → (4294967295 : Nat).testBit i = true := by decide +kernel
  rw [h i hi]
  cases b.testBit i <;> simp
theorem zan_lt {a b n : Nat} (h : a < 2 ^ n) : zan a b < 2 ^ n := by
  unfold zan
  rw [Nat.and_comm]
  exact Nat.and_lt_two_pow _ h
/-- the set of those below n, as bits -/
def dmn (P : Nat → Bool) : Nat → Nat
  | 0 => 0
  | n + 1 => dmn P n ||| (if P n then 2 ^ n else 0)
abbrev dm (P : Nat → Bool) : Nat := dmn P 16
theorem dmn_bit (P : Nat → Bool) : ∀ n i, (dmn P n).testBit i = (decide (i < n) && P i)
  | 0, i => by simp [dmn]
  | n + 1, i => by
    rw [dmn, Nat.testBit_or, dmn_bit P n i]
    by_cases h : P n = true
    · rw [if_pos h, Nat.testBit_two_pow]
      by_cases hi : n = i
      · subst hi; simp [h]
      · simp only [hi, decide_false, Bool.or_false]
        congr 1
        rw [decide_eq_decide]; omega
    · rw [if_neg h]
      simp only [Nat.zero_testBit, Bool.or_false]
      by_cases hi : i = n
      · subst hi; simp [h]
      · congr 1
        rw [decide_eq_decide]; omega
theorem dmn_lt (P : Nat → Bool) : ∀ n, dmn P n < 2 ^ n
  | 0 => by simp [dmn]
  | n + 1 => by
    have h := dmn_lt P n
    rw [dmn]
    refine Nat.or_lt_two_pow (Nat.lt_of_lt_of_le h (Nat.pow_le_pow_right (by decide) (by omega))) ?_
    by_cases hp : P n = true
    · rw [if_pos hp]; exact Nat.pow_lt_pow_right (by decide) (by omega)
    · rw [if_neg hp]; exact Nat.two_pow_pos _
theorem dm_lt (P : Nat → Bool) : dm P < 65536 := dmn_lt P 16
theorem dm_ext {P P' : Nat → Bool} (h : ∀ m, m < 16 → P m = P' m) : dm P = dm P' := by
  apply Nat.eq_of_testBit_eq
  intro i
  rw [dmn_bit, dmn_bit]
  by_cases hi : i < 16
  · rw [h i hi]
  · simp [hi]
theorem dm_or {P : Nat → Bool} {m : Nat} (hm : m < 16) : dm P ||| 2 ^ m = dm (fun j => P j || j == m) := by
  apply Nat.eq_of_testBit_eq
  intro i
  rw [Nat.testBit_or, dmn_bit, dmn_bit, Nat.testBit_two_pow]
  by_cases hi : m = i
  · subst hi; simp [hm]
  · have : (i == m) = false := by simp; omega
    simp [hi, this]
theorem dm_an {P : Nat → Bool} {b : Nat} : zan (dm P) b = dm (fun j => P j && !b.testBit j) := by
  apply Nat.eq_of_testBit_eq
  intro i
  by_cases hi : i < 32
  · rw [zan_bit hi, dmn_bit, dmn_bit, Bool.and_assoc]
  · rw [dmn_bit, Nat.testBit_lt_two_pow (Nat.lt_of_lt_of_le (zan_lt (n := 16) (dm_lt P)) (Nat.pow_le_pow_right (by decide) (by omega)))]
    simp; omega
theorem dm_zero {P : Nat → Bool} : dm P = 0 ↔ ∀ m, m < 16 → P m = false := by
  constructor
  · intro h m hm
    have := dmn_bit P 16 m
    rw [show dmn P 16 = 0 from h] at this
    simpa [hm] using this.symm
  · intro h
    rw [show (0 : Nat) = dm (fun _ => false) by decide]
    exact dm_ext h
theorem dm_bt {P : Nat → Bool} {m : Nat} (hm : m < 16) : bt (nI (dm P)) m = P m := by
  rw [bt_nI _ _ (by omega), dmn_bit]
  simp [hm]
/-- v is on the way from u up to 1 (n steps at most) -/
def bnf : Nat → Nat → Nat → Bool
  | 0, _, _ => false
  | n + 1, u, v => !(u == 0) && (v == u || bnf n (u / 2) v)
abbrev bn (l v : Nat) : Bool := bnf 5 l v
theorem bnf_0 : ∀ n v, bnf n 0 v = false
  | 0, _ => rfl
  | n + 1, v => by simp [bnf]
theorem bnf_le : ∀ {n u v}, bnf n u v = true → v ≤ u ∧ 1 ≤ v
  | 0, _, _, h => by cases h
  | n + 1, u, v, h => by
    simp only [bnf, Bool.and_eq_true, Bool.not_eq_true', beq_eq_false_iff_ne, Bool.or_eq_true, beq_iff_eq] at h
    rcases h.2 with h2 | h2
    · omega
    · have := bnf_le h2
      omega
/-- the set of the nodes from u up to 1 -/
def pthn : Nat → Nat → Nat
  | 0, _ => 0
  | n + 1, u => if u = 0 then 0 else 2 ^ u ||| pthn n (u / 2)
abbrev pth (u : Nat) : Nat := pthn 5 u
theorem pth_bit : ∀ n u v, (pthn n u).testBit v = bnf n u v
  | 0, u, v => by simp [pthn, bnf]
  | n + 1, u, v => by
    unfold pthn bnf
    by_cases h : u = 0
    · simp [h]
    · rw [if_neg h, Nat.testBit_or, Nat.testBit_two_pow, pth_bit n]
      have h1 : (u == 0) = false := by simp [h]
      rw [h1]
      by_cases h2 : u = v
      · subst h2; simp
      · have : (v == u) = false := by simp; omega
        simp [h2, this]
theorem pthn_lt : ∀ n u, u < 32 → pthn n u < 4294967296
  | 0, u, _ => by simp [pthn]
  | n + 1, u, h => by
    unfold pthn
    by_cases h0 : u = 0
    · simp [h0]
    · rw [if_neg h0]
      exact Nat.or_lt_two_pow (n := 32) (Nat.pow_lt_pow_right (by decide) h) (pthn_lt n (u / 2) (by omega))
/-- who is told to be at or beneath v -/
abbrev sm (lf : Nat → Nat) (v : Nat) : Nat := dm (fun m => bn (lf m) v)
/-- outside of some places nothing has changed -/
def zfrm (lo hi : Nat) (S S' : zS) : Prop := (∀ a, (a < lo ∨ hi ≤ a) → S'.1 a = S.1 a) ∧ S'.2 = S.2
theorem zfrm.rf {lo hi : Nat} {S : zS} : zfrm lo hi S S := ⟨fun _ _ => rfl, rfl⟩
theorem zfrm.tr {lo hi : Nat} {S S' S'' : zS} (h : zfrm lo hi S S') (h' : zfrm lo hi S' S'') : zfrm lo hi S S'' := ⟨fun a ha => (h'.1 a ha).trans (h.1 a ha), h'.2.trans h.2⟩
theorem zfrm.up {lo hi lo' hi' : Nat} {S S' : zS} (h : zfrm lo hi S S') (h1 : lo' ≤ lo) (h2 : hi ≤ hi') : zfrm lo' hi' S S' := ⟨fun a ha => h.1 a (by omega), h.2⟩
theorem zfrm.put {lo hi : Nat} {S S' : zS} (h : zfrm lo hi S S') {a k : Nat} {x : Int32} (h1 : lo ≤ a) (h2 : a < hi) : zfrm lo hi S (zput S' a k x) := ⟨fun b hb => (zput_ne S' x (by omega)).trans (h.1 b hb), h.2⟩
theorem zput_at (S : zS) (a k : Nat) (x : Int32) : (zput S a k x).1 a k = x := by simp [zput]
theorem zput_k (S : zS) {a k j : Nat} (x : Int32) (h : j ≠ k) : (zput S a k x).1 a j = S.1 a j := by simp [zput, h]
def fup (f : Nat → Nat) (m x : Nat) : Nat → Nat := fun j => if j = m then x else f j
theorem fup_at (f : Nat → Nat) (m x : Nat) : fup f m x m = x := by simp [fup]
theorem fup_ne (f : Nat → Nat) {m j : Nat} (x : Nat) (h : j ≠ m) : fup f m x j = f j := by simp [fup, h]
