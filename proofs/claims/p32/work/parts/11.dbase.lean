/-! NUMBERS AND SETS of the document's state -/
theorem z_in {x : Int32} {n : Nat} (h1 : ¬ x < 0) (h2 : x < nI n) (hn : n < 2147483648) : ∃ j, j < n ∧ x = nI j := by
  rcases pk_ix x (n := n) hn with h | h | h
  · exact absurd h h1
  · exact absurd h (Int32.not_le.mpr h2)
  · exact h
theorem z_nlt {a b : Nat} (ha : a < 2147483648) (hb : b < 2147483648) : ¬ nI a < nI b ↔ b ≤ a := by rw [nI_ltI ha hb]; omega
theorem z_nle {a b : Nat} (ha : a < 2147483648) (hb : b < 2147483648) : ¬ nI a ≤ nI b ↔ b < a := by rw [nI_leI ha hb]; omega
theorem z_ne0 {a : Nat} (ha : a < 2147483648) : nI a = 0 ↔ a = 0 := nI_eq (b := 0) ha (by decide)
theorem bt_nI (n i : Nat) (hi : i < 32) : bt (nI n) i = n.testBit i := by
  show (BitVec.ofNat 32 n).getLsbD i = _
  rw [BitVec.getLsbD_ofNat]
  simp [hi]
theorem z_shl1 : ∀ m, m < 32 → nI 1 <<< (nI m &&& 31) = nI (2 ^ m) := by decide +kernel
/-- without the bits of the second -/
def zan (a b : Nat) : Nat := a &&& (b ^^^ 4294967295)
theorem z_m1 : (-1 : Int32) = nI 4294967295 := by decide +kernel
theorem z_andn (a b : Nat) : nI a &&& (nI b ^^^ (-1)) = nI (zan a b) := by rw [z_m1, nx_xor, nx_and]; rfl
theorem zan_bit {a b i : Nat} (hi : i < 32) : (zan a b).testBit i = (a.testBit i && !b.testBit i) := by
  unfold zan
  rw [Nat.testBit_and, Nat.testBit_xor]
  have h : ∀ i, i < 32 → (4294967295 : Nat).testBit i = true := by decide +kernel
  rw [h i hi]
  cases b.testBit i <;> simp
theorem zan_lt {a b n : Nat} (h : a < 2 ^ n) : zan a b < 2 ^ n := by
  unfold zan
  rw [Nat.and_comm]
  exact Nat.and_lt_two_pow _ h
/-- the set of those below n, as bits -/
def dmn (P : Nat → Bool) : Nat → Nat
  | 0 => 0
  | n + 1 => dmn P n ||| (if P n then 2 ^ n else 0)
abbrev dm (P : Nat → Bool) : Nat := dmn P 16
theorem dmn_bit (P : Nat → Bool) : ∀ n i, (dmn P n).testBit i = (decide (i < n) && P i)
  | 0, i => by simp [dmn]
  | n + 1, i => by
    rw [dmn, Nat.testBit_or, dmn_bit P n i]
    by_cases h : P n = true
    · rw [if_pos h, Nat.testBit_two_pow]
      by_cases hi : n = i
      · subst hi; simp [h]
      · simp only [hi, decide_false, Bool.or_false]
        congr 1
        rw [decide_eq_decide]; omega
    · rw [if_neg h]
      simp only [Nat.zero_testBit, Bool.or_false]
      by_cases hi : i = n
      · subst hi; simp [h]
      · congr 1
        rw [decide_eq_decide]; omega
theorem dmn_lt (P : Nat → Bool) : ∀ n, dmn P n < 2 ^ n
  | 0 => by simp [dmn]
  | n + 1 => by
    have h := dmn_lt P n
    rw [dmn]
    refine Nat.or_lt_two_pow (Nat.lt_of_lt_of_le h (Nat.pow_le_pow_right (by decide) (by omega))) ?_
    by_cases hp : P n = true
    · rw [if_pos hp]; exact Nat.pow_lt_pow_right (by decide) (by omega)
    · rw [if_neg hp]; exact Nat.two_pow_pos _
theorem dm_lt (P : Nat → Bool) : dm P < 65536 := dmn_lt P 16
theorem dm_ext {P P' : Nat → Bool} (h : ∀ m, m < 16 → P m = P' m) : dm P = dm P' := by
  apply Nat.eq_of_testBit_eq
  intro i
  rw [dmn_bit, dmn_bit]
  by_cases hi : i < 16
  · rw [h i hi]
  · simp [hi]
theorem dm_or {P : Nat → Bool} {m : Nat} (hm : m < 16) : dm P ||| 2 ^ m = dm (fun j => P j || j == m) := by
  apply Nat.eq_of_testBit_eq
  intro i
  rw [Nat.testBit_or, dmn_bit, dmn_bit, Nat.testBit_two_pow]
  by_cases hi : m = i
  · subst hi; simp [hm]
  · have : (i == m) = false := by simp; omega
    simp [hi, this]
theorem dm_an {P : Nat → Bool} {b : Nat} : zan (dm P) b = dm (fun j => P j && !b.testBit j) := by
  apply Nat.eq_of_testBit_eq
  intro i
  by_cases hi : i < 32
  · rw [zan_bit hi, dmn_bit, dmn_bit, Bool.and_assoc]
  · rw [dmn_bit, Nat.testBit_lt_two_pow (Nat.lt_of_lt_of_le (zan_lt (n := 16) (dm_lt P)) (Nat.pow_le_pow_right (by decide) (by omega)))]
    simp; omega
theorem dm_zero {P : Nat → Bool} : dm P = 0 ↔ ∀ m, m < 16 → P m = false := by
  constructor
  · intro h m hm
    have := dmn_bit P 16 m
    rw [show dmn P 16 = 0 from h] at this
    simpa [hm] using this.symm
  · intro h
    rw [show (0 : Nat) = dm (fun _ => false) by decide]
    exact dm_ext h
theorem dm_bt {P : Nat → Bool} {m : Nat} (hm : m < 16) : bt (nI (dm P)) m = P m := by
  rw [bt_nI _ _ (by omega), dmn_bit]
  simp [hm]
/-- v is on the way from u up to 1 (n steps at most) -/
def bnf : Nat → Nat → Nat → Bool
  | 0, _, _ => false
  | n + 1, u, v => !(u == 0) && (v == u || bnf n (u / 2) v)
abbrev bn (l v : Nat) : Bool := bnf 5 l v
theorem bnf_0 : ∀ n v, bnf n 0 v = false
  | 0, _ => rfl
  | n + 1, v => by simp [bnf]
theorem bnf_le : ∀ {n u v}, bnf n u v = true → v ≤ u ∧ 1 ≤ v
  | 0, _, _, h => by cases h
  | n + 1, u, v, h => by
    simp only [bnf, Bool.and_eq_true, Bool.not_eq_true', beq_eq_false_iff_ne, Bool.or_eq_true, beq_iff_eq] at h
    rcases h.2 with h2 | h2
    · omega
    · have := bnf_le h2
      omega
/-- the set of the nodes from u up to 1 -/
def pthn : Nat → Nat → Nat
  | 0, _ => 0
  | n + 1, u => if u = 0 then 0 else 2 ^ u ||| pthn n (u / 2)
abbrev pth (u : Nat) : Nat := pthn 5 u
theorem pth_bit : ∀ n u v, (pthn n u).testBit v = bnf n u v
  | 0, u, v => by simp [pthn, bnf]
  | n + 1, u, v => by
    unfold pthn bnf
    by_cases h : u = 0
    · simp [h]
    · rw [if_neg h, Nat.testBit_or, Nat.testBit_two_pow, pth_bit n]
      have h1 : (u == 0) = false := by simp [h]
      rw [h1]
      by_cases h2 : u = v
      · subst h2; simp
      · have : (v == u) = false := by simp; omega
        simp [h2, this]
theorem pthn_lt : ∀ n u, u < 32 → pthn n u < 4294967296
  | 0, u, _ => by simp [pthn]
  | n + 1, u, h => by
    unfold pthn
    by_cases h0 : u = 0
    · simp [h0]
    · rw [if_neg h0]
      exact Nat.or_lt_two_pow (n := 32) (Nat.pow_lt_pow_right (by decide) h) (pthn_lt n (u / 2) (by omega))
/-- who is told to be at or beneath v -/
abbrev sm (lf : Nat → Nat) (v : Nat) : Nat := dm (fun m => bn (lf m) v)
/-- outside of some places nothing has changed -/
def zfrm (lo hi : Nat) (S S' : zS) : Prop := (∀ a, (a < lo ∨ hi ≤ a) → S'.1 a = S.1 a) ∧ S'.2 = S.2
theorem zfrm.rf {lo hi : Nat} {S : zS} : zfrm lo hi S S := ⟨fun _ _ => rfl, rfl⟩
theorem zfrm.tr {lo hi : Nat} {S S' S'' : zS} (h : zfrm lo hi S S') (h' : zfrm lo hi S' S'') : zfrm lo hi S S'' := ⟨fun a ha => (h'.1 a ha).trans (h.1 a ha), h'.2.trans h.2⟩
theorem zfrm.up {lo hi lo' hi' : Nat} {S S' : zS} (h : zfrm lo hi S S') (h1 : lo' ≤ lo) (h2 : hi ≤ hi') : zfrm lo' hi' S S' := ⟨fun a ha => h.1 a (by omega), h.2⟩
theorem zfrm.put {lo hi : Nat} {S S' : zS} (h : zfrm lo hi S S') {a k : Nat} {x : Int32} (h1 : lo ≤ a) (h2 : a < hi) : zfrm lo hi S (zput S' a k x) := ⟨fun b hb => (zput_ne S' x (by omega)).trans (h.1 b hb), h.2⟩
theorem zput_at (S : zS) (a k : Nat) (x : Int32) : (zput S a k x).1 a k = x := by simp [zput]
theorem zput_k (S : zS) {a k j : Nat} (x : Int32) (h : j ≠ k) : (zput S a k x).1 a j = S.1 a j := by simp [zput, h]
def fup (f : Nat → Nat) (m x : Nat) : Nat → Nat := fun j => if j = m then x else f j
theorem fup_at (f : Nat → Nat) (m x : Nat) : fup f m x m = x := by simp [fup]
theorem fup_ne (f : Nat → Nat) {m j : Nat} (x : Nat) (h : j ≠ m) : fup f m x j = f j := by simp [fup, h]
def zsub (lv : List (Nat × Value)) : List (Nat × Value) → Prop
  | [] => True
  | q :: t => zlk q.1 lv = some q.2 ∧ zsub lv t
theorem zsub_all {lv : List (Nat × Value)} : ∀ {l : List (Nat × Value)}, zsub lv l → ∀ q ∈ l, zlk q.1 lv = some q.2
  | [], _, q, hq => by cases hq
  | q0 :: t, h, q, hq => by
    rcases List.mem_cons.mp hq with rfl | hq
    · exact h.1
    · exact zsub_all h.2 q hq
theorem zR_sub {C : zCx} {τ : Nat → ClassId} {ι : Nat → Nat} {nL kc ks pc : Nat} {lv : List (Nat × Value)} {st : List Value} {w : List va_E} (lv' : List (Nat × Value)) (h : zsub lv lv') (k : zR C τ ι nL kc ks pc lv' st w) : zR C τ ι nL kc ks pc lv st w := zR_lv lv' (zsub_all h) k
def zfill (S : zS) (a n : Nat) (x : Int32) : zS := (fun a' k' => if a' = a ∧ k' < n then x else S.1 a' k', S.2)
def zfillL (S : zS) (a n : Nat) (x : Int64) : zS := (S.1, fun a' k' => if a' = a ∧ k' < n then x else S.2 a' k')
theorem zfill_0 (S : zS) (a : Nat) (x : Int32) : zfill S a 0 x = S := by simp [zfill]
theorem zfillL_0 (S : zS) (a : Nat) (x : Int64) : zfillL S a 0 x = S := by simp [zfillL]
theorem zfill_s (S : zS) (a n : Nat) (x : Int32) : zput (zfill S a n x) a n x = zfill S a (n + 1) x := by
  unfold zput zfill
  simp only [Prod.mk.injEq, and_true]
  funext a' k'
  by_cases h1 : a' = a
  · subst h1
    by_cases h2 : k' = n
    · subst h2; simp
    · by_cases h3 : k' < n
      · simp [h2, h3]; omega
      · have : ¬ k' < n + 1 := by omega
        simp [h2, h3, this]
  · simp [h1]
theorem zfillL_s (S : zS) (a n : Nat) (x : Int64) : zputL (zfillL S a n x) a n x = zfillL S a (n + 1) x := by
  unfold zputL zfillL
  simp only [Prod.mk.injEq, true_and]
  funext a' k'
  by_cases h1 : a' = a
  · subst h1
    by_cases h2 : k' = n
    · subst h2; simp
    · by_cases h3 : k' < n
      · simp [h2, h3]; omega
      · have : ¬ k' < n + 1 := by omega
        simp [h2, h3, this]
  · simp [h1]
/-- the number of bits -/
def pcn : Nat → Nat → Nat
  | 0, _ => 0
  | n + 1, x => (if x.testBit n then 1 else 0) + pcn n x
def bcE1 (x : Int32) : Int32 := x - ((x.toUInt32 >>> ((nI 1).toUInt32 &&& Int32.toUInt32 31)).toInt32 &&& 1431655765)
def bcE2 (x : Int32) : Int32 := (x &&& 858993459) + ((x.toUInt32 >>> ((nI 2).toUInt32 &&& Int32.toUInt32 31)).toInt32 &&& 858993459)
def bcE3 (x : Int32) : Int32 := (x + (x.toUInt32 >>> ((nI 4).toUInt32 &&& Int32.toUInt32 31)).toInt32) &&& 252645135
def bcE4 (x : Int32) : Int32 := x + (x.toUInt32 >>> ((nI 8).toUInt32 &&& Int32.toUInt32 31)).toInt32
def bcE5 (x : Int32) : Int32 := (x + (x.toUInt32 >>> ((nI 16).toUInt32 &&& Int32.toUInt32 31)).toInt32) &&& nI 63
theorem z_small {a n i : Nat} (h : a < 2 ^ n) (hi : n ≤ i) : a.testBit i = false := Nat.testBit_lt_two_pow (Nat.lt_of_lt_of_le h (Nat.pow_le_pow_right (by decide) hi))
def e1f (x : Nat) : Nat := (x >>> 1) &&& 1431655765
def e2f (y : Nat) : Nat := (y &&& 858993459) + ((y >>> 2) &&& 858993459)
theorem e_split {M s a b : Nat} (ha : a < 256) (hb : b < 256) (h1 : ∀ i, i < 8 → M.testBit i = true → i + s < 8) (h2 : ∀ i, i < 8 → M.testBit (i + 8) = M.testBit i) : ((256 * a + b) >>> s) &&& M = 256 * ((a >>> s) &&& M) + ((b >>> s) &&& M) := by
  have hlt : (b >>> s) &&& M < 2 ^ 8 := by
    rw [Nat.and_comm]
    exact Nat.and_lt_two_pow _ (Nat.lt_of_le_of_lt (by rw [Nat.shiftRight_eq_div_pow]; exact Nat.div_le_self _ _) hb)
  apply Nat.eq_of_testBit_eq
  intro i
  rw [show 256 = 2 ^ 8 by rfl, Nat.testBit_two_pow_mul_add _ hlt, Nat.testBit_and, Nat.testBit_shiftRight, Nat.testBit_two_pow_mul_add _ (show b < 2 ^ 8 from hb)]
  by_cases hi : i < 8
  · rw [if_pos hi, Nat.testBit_and, Nat.testBit_shiftRight]
    cases hM : M.testBit i
    · simp
    · have := h1 i hi hM
      rw [if_pos (by omega)]
  · rw [if_neg hi, if_neg (by omega), Nat.testBit_and, Nat.testBit_shiftRight]
    by_cases h16 : i < 16
    · rw [show s + i - 8 = s + (i - 8) by omega, ← h2 (i - 8) (by omega), show i - 8 + 8 = i by omega]
    · rw [z_small (show a < 2 ^ 8 from ha) (show 8 ≤ s + i - 8 by omega), z_small (show a < 2 ^ 8 from ha) (show 8 ≤ s + (i - 8) by omega)]
      simp
theorem e_byte : ∀ b, b < 256 → e1f b ≤ b ∧ b - e1f b < 256 ∧ e2f (b - e1f b) % 16 ≤ 4 ∧ e2f (b - e1f b) / 16 ≤ 4 ∧ e2f (b - e1f b) % 16 + e2f (b - e1f b) / 16 = pcn 8 b := by decide +kernel
theorem pcn_split {a b : Nat} (hb : b < 256) : pcn 16 (256 * a + b) = pcn 8 a + pcn 8 b := by
  have h : ∀ i, (256 * a + b).testBit i = if i < 8 then b.testBit i else a.testBit (i - 8) := fun i => Nat.testBit_two_pow_mul_add _ (show b < 2 ^ 8 from hb) i
  simp [pcn, h]
  omega
theorem bcE_all {n : Nat} (h : n < 65536) : bcE5 (bcE4 (bcE3 (bcE2 (bcE1 (nI n))))) = nI (pcn 16 n) := by
  obtain ⟨a, b, ha, hb, rfl⟩ : ∃ a b, a < 256 ∧ b < 256 ∧ n = 256 * a + b := ⟨n / 256, n % 256, by omega, by omega, by omega⟩
  obtain ⟨a1, a2, a3, a4, a5⟩ := e_byte a ha
  obtain ⟨b1, b2, b3, b4, b5⟩ := e_byte b hb
  rw [pcn_split hb]
  have m5 : ∀ i, i < 8 → (1431655765 : Nat).testBit i = true → i + 1 < 8 := by decide +kernel
  have m5' : ∀ i, i < 8 → (1431655765 : Nat).testBit (i + 8) = (1431655765 : Nat).testBit i := by decide +kernel
  have m3 : ∀ i, i < 8 → (858993459 : Nat).testBit i = true → i + 2 < 8 := by decide +kernel
  have m30 : ∀ i, i < 8 → (858993459 : Nat).testBit i = true → i + 0 < 8 := by decide +kernel
  have m3' : ∀ i, i < 8 → (858993459 : Nat).testBit (i + 8) = (858993459 : Nat).testBit i := by decide +kernel
  have s1 : e1f (256 * a + b) = 256 * e1f a + e1f b := e_split ha hb m5 m5'
  have e1 : bcE1 (nI (256 * a + b)) = nI (256 * (a - e1f a) + (b - e1f b)) := by
    unfold bcE1
    rw [nx_ush h (by decide), show (1431655765 : Int32) = nI 1431655765 from rfl, nx_and, show ((256 * a + b) >>> 1) &&& 1431655765 = 256 * e1f a + e1f b from s1, pk_sub (by omega)]
    congr 1; omega
  generalize hA : a - e1f a = A at *
  generalize hB : b - e1f b = B at *
  have hAB : 256 * A + B < 65536 := by omega
  have s2 : e2f (256 * A + B) = 256 * e2f A + e2f B := by
    have x1 := e_split (M := 858993459) (s := 0) a2 b2 m30 m3'
    have x2 := e_split (M := 858993459) (s := 2) a2 b2 m3 m3'
    simp only [Nat.shiftRight_zero] at x1
    unfold e2f
    rw [x1, x2]; omega
  have e2 : bcE2 (nI (256 * A + B)) = nI (256 * e2f A + e2f B) := by
    unfold bcE2
    rw [nx_ush hAB (by decide), show (858993459 : Int32) = nI 858993459 from rfl, nx_and, nx_and, nI_add]
    exact congrArg nI s2
  generalize e2f A = X at *
  generalize e2f B = Y at *
  have hXY : 256 * X + Y < 65536 := by omega
  have e3 : bcE3 (nI (256 * X + Y)) = nI (256 * (X % 16 + X / 16) + (Y % 16 + Y / 16)) := by
    unfold bcE3
    rw [nx_ush hXY (by decide), nI_add, show (252645135 : Int32) = nI 252645135 from rfl, nx_and]
    congr 1
    rw [Nat.shiftRight_eq_div_pow]
    have hz : 256 * X + Y + (256 * X + Y) / 2 ^ 4 = 256 * (X + X / 16) + (16 * (X % 16) + Y + Y / 16) := by omega
    rw [hz]
    have hp : 16 * (X % 16) + Y + Y / 16 < 256 := by omega
    have hq : X + X / 16 < 256 := by omega
    have m0 : ∀ i, i < 8 → (252645135 : Nat).testBit i = true → i + 0 < 8 := by decide +kernel
    have m0' : ∀ i, i < 8 → (252645135 : Nat).testBit (i + 8) = (252645135 : Nat).testBit i := by decide +kernel
    have x1 := e_split (M := 252645135) (s := 0) hq hp m0 m0'
    simp only [Nat.shiftRight_zero] at x1
    rw [x1]
    have hm : ∀ z, z < 256 → z &&& 252645135 = z % 16 := by decide +kernel
    rw [hm _ hq, hm _ hp]
    have y1 : (X + X / 16) % 16 = X % 16 + X / 16 := by omega
    have y2 : (16 * (X % 16) + Y + Y / 16) % 16 = Y % 16 + Y / 16 := by omega
    rw [y1, y2]
  have e4 : ∀ p, p < 9 → ∀ q, q < 9 → bcE5 (bcE4 (nI (256 * p + q))) = nI (p + q) := by decide +kernel
  rw [e1, e2, e3, e4 _ (by omega) _ (by omega), a5, b5]
theorem ntz_all {f j : Nat} (hj : j < 32) (hf : f < 4294967296) (h1 : f.testBit j = true) (h0 : ∀ i, i < j → f.testBit i = false) : ((nI f) ^^^ (-1)) &&& (nI f - nI 1) = nI (2 ^ j - 1) := by
  have hm : f % 2 ^ (j + 1) = 2 ^ j := by
    apply Nat.eq_of_testBit_eq
    intro i
    rw [Nat.testBit_mod_two_pow, Nat.testBit_two_pow]
    by_cases hi : i < j
    · rw [h0 i hi]; simp; omega
    · by_cases hi2 : j = i
      · subst hi2; simp [h1]
      · have : ¬ i < j + 1 := by omega
        simp [this, hi2]
  have hd : f = 2 ^ (j + 1) * (f / 2 ^ (j + 1)) + 2 ^ j := by
    have := Nat.div_add_mod f (2 ^ (j + 1))
    rw [hm] at this
    exact this.symm
  generalize f / 2 ^ (j + 1) = h at hd
  have hp := Nat.two_pow_pos j
  have hlt : 2 ^ j < 2 ^ (j + 1) := Nat.pow_lt_pow_right (by decide) (by omega)
  have h2 : f - 1 = 2 ^ (j + 1) * h + (2 ^ j - 1) := by omega
  rw [z_m1, nx_xor, pk_sub (by omega), nx_and]
  congr 1
  apply Nat.eq_of_testBit_eq
  intro i
  have hones : ∀ i, (4294967295 : Nat).testBit i = decide (i < 32) := fun i => Nat.testBit_two_pow_sub_one 32 i
  rw [Nat.testBit_and, Nat.testBit_xor, hones, Nat.testBit_two_pow_sub_one, h2, Nat.testBit_two_pow_mul_add _ (by omega), Nat.testBit_two_pow_sub_one]
  by_cases hi : i < j
  · rw [h0 i hi, if_pos (by omega)]
    simp [hi]; omega
  · by_cases hi2 : i = j
    · subst hi2
      rw [if_pos (by omega)]
      simp
    · rw [if_neg (by omega)]
      have hb : f.testBit i = h.testBit (i - (j + 1)) := by
        rw [hd, Nat.testBit_two_pow_mul_add _ hlt, if_neg (by omega)]
      have hz : decide (i < j) = false := by simp; omega
      rw [hz]
      by_cases h32 : i < 32
      · rw [hb, decide_eq_true h32]
        cases h.testBit (i - (j + 1)) <;> rfl
      · rw [← hb, z_small (show f < 2 ^ 32 from hf) (by omega)]
        simp
