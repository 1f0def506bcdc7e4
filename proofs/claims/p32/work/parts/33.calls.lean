/-! THE CALLS, as functions: the answer, and all that is known then -/
/-- a number of 0 .. n - 1 -/
def mm (n : Nat) (x : Int32) : Option Nat := if x < 0 ∨ nI n ≤ x then none else some x.toBitVec.toNat
theorem mm_no {n : Nat} {x : Int32} (h : x < 0 ∨ nI n ≤ x) : mm n x = none := if_pos h
theorem mm_yes {n j : Nat} (h : j < n) (hn : n < 2147483648) : mm n (nI j) = some j := by
  unfold mm
  rw [if_neg (fun q => q.elim (nI_pos (by omega)) (nI_ge h hn)), pk_tn (by omega)]
/-- a number of a .. b -/
def rg (a b : Nat) (x : Int32) : Option Nat := if x < nI a ∨ nI b < x then none else some x.toBitVec.toNat
theorem rg_no {a b : Nat} {x : Int32} (h : x < nI a ∨ nI b < x) : rg a b x = none := if_pos h
theorem rg_yes {a b j : Nat} (h1 : a ≤ j) (h2 : j ≤ b) (hn : b < 2147483648) : rg a b (nI j) = some j := by
  unfold rg
  rw [if_neg (fun q => q.elim (nI_nlt h1 (by omega)) (nI_nlt h2 hn)), pk_tn (by omega)]
theorem rg_in {a b : Nat} {x : Int32} (h1 : ¬ x < nI a) (h2 : ¬ nI b < x) (ha : a < 2147483648) (hb : b < 2147483648) : ∃ j, a ≤ j ∧ j ≤ b ∧ x = nI j := by
  have h0 : ¬ x < 0 := fun q => by
    have h3 : (0 : Int32) ≤ nI a := nI_pos' (by omega)
    rw [Int32.lt_iff_toInt_lt] at q h1
    rw [Int32.le_iff_toInt_le] at h3
    omega
  obtain ⟨j, hj, rfl⟩ := nI_of h0
  rw [z_nlt (by omega) ha] at h1
  rw [z_nlt hb (by omega)] at h2
  exact ⟨j, h1, h2, rfl⟩
def fCome (x : Int32) (G : zG) : Int32 × zG := match mm 16 x with
  | none => (-1, G)
  | some m => if G.1 0 m = 0 ∧ G.1 1 m ≠ 1 then (nI (pcn 16 (cms (dset G.1 1 m 1))), gset (gkp G) (dset G.1 1 m 1)) else (-2, G)
def fLeave (x : Int32) (G : zG) : Int32 × zG := match mm 16 x with
  | none => (-1, G)
  | some m => if G.1 0 m ≠ 0 ∧ G.1 1 m ≠ 2 then (nI (pcn 16 (lvs (dset G.1 1 m 2))), gset (gkp G) (dset G.1 1 m 2)) else (-2, G)
def fBatch (G : zG) : Int32 × zG := if brf G.1 = nI 0 then (nI (btc G.1 6 1 - G.1 6 1), gset (gkp G) (btc G.1)) else (brf G.1, G)
def fLate (x v : Int32) (G : zG) : Int32 × zG := match mm 16 x, mm 2 v with
  | some m, some 1 => if G.1 0 m ≠ 0 ∧ G.1 2 m ≠ 1 then (nI 0, gset (gkp G) (dset G.1 2 m 1)) else (-2, G)
  | some m, some _ => if G.1 2 m = 1 then (nI (rds m (G.1 3 m) (dset G.1 2 m 0) (G.1 6 1 - G.1 3 m)).2, gset (gkp G) (rdm m (dset G.1 2 m 0))) else (-2, G)
  | _, _ => (-1, G)
def fLose (x n : Int32) (G : zG) : Int32 × zG := match mm 16 x, rg 1 40 n with
  | some m, some n => if G.1 2 m = 1 then (nI (min n (G.1 6 1 - G.1 3 m)), gset (gkp G) (dset G.1 3 m (G.1 3 m + min n (G.1 6 1 - G.1 3 m)))) else (-2, G)
  | _, _ => (-1, G)
def fMend (x : Int32) (G : zG) : Int32 × zG := match mm 16 x with
  | none => (-1, G)
  | some m => if mrf G.1 m = nI 0 then (nI (mnd m G.1 6 1 - G.1 6 1), gset (gkp G) (mnd m G.1)) else (mrf G.1 m, G)
def fBegin (G : zG) : Int32 × zG := if G.1 6 0 = 0 ∧ cms G.1 = 0 then (-2, G) else (nI (G.1 6 0), gset (gkp G) (bgn G.1))
def aMember (D : zD) (m : Nat) : Nat → Int32
  | 0 => if D 0 m ≠ 0 then nI (D 0 m) else -4
  | 1 => nI (hby D m (D 6 0))
  | 2 => if sm (D 0) 1 = 0 then -4 else zb (hd D m (key D 1))
  | 3 => nI (D 2 m)
  | 4 => if D 0 m ≠ 0 then nI (D 6 1 - D 3 m) else -4
  | _ => nI (D 1 m)
def fMember (x w : Int32) (G : zG) : Int32 := match mm 16 x, mm 6 w with
  | some m, some w => aMember G.1 m w
  | _, _ => -1
def aNode (D : zD) (v : Nat) : Nat → Int32
  | 0 => kof (D 0) D v
  | 1 => nI (sm (D 0) v)
  | _ => if sm (D 0) v = 0 then -4 else nI (D 9 (key D v))
def fNode (x w : Int32) (G : zG) : Int32 := match rg 1 31 x, mm 3 w with
  | some v, some w => aNode G.1 v w
  | _, _ => -1
def aKey (D : zD) (k : Nat) : Nat → Int32
  | 0 => nI (D 7 k)
  | 1 => nI (D 8 k)
  | 2 => if kof (D 0) D (D 7 k) = nI k then nI 1 else nI 0
  | _ => nI (D 9 k)
def fKey (x w : Int32) (G : zG) : Int32 := match mm (G.1 6 0) x, mm 4 w with
  | some k, some w => aKey G.1 k w
  | _, _ => -1
def aLetter (D : zD) (i : Nat) : Nat → Int32
  | 0 => nI (D 10 i)
  | 1 => nI (D 11 i)
  | _ => lbI (D 12 i)
def fLetter (x w : Int32) (G : zG) : Int32 := match mm (G.1 6 1) x, mm 3 w with
  | some i, some w => aLetter G.1 i w
  | _, _ => -1
def aCount (G : zG) : Nat → Int32
  | 0 => nI (sm (G.1 0) 1)
  | 1 => nI (cms G.1)
  | 2 => nI (lvs G.1)
  | 3 => nI (sls G.1)
  | 4 => nI (G.1 6 0)
  | 5 => nI (G.1 6 1)
  | 6 => nI (G.1 6 2)
  | 7 => if sm (G.1 0) 1 = 0 then nI 0 else nI (zan (sm (G.1 0) 1) (G.1 9 (key G.1 1)))
  | _ => nI G.2.1.2
def fCount (w : Int32) (G : zG) : Int32 := match mm 9 w with
  | some w => aCount G w
  | none => -1
def fWhy (x i : Int32) (G : zG) : Int32 := match mm 16 x, mm (G.1 6 1) i with
  | some m, some i => nI (wsh G.1 m (G.1 11 i))
  | _, _ => -1
def fOpens (s k : Int32) (G : zG) : Int32 := match mm 65536 s, mm (G.1 6 0) k with
  | some s, some k => zb ((opr G.1 (f0 G.1 s) 232).1 k)
  | _, _ => -1
def sgs (x : (Nat → Nat) × Nat) (L K : Nat → Bool) : (Nat → Nat) × Nat := ((mv x.1 L K).1, x.2 + ltr (mv x.1 L K).1 (mv x.1 L K).2.2 15)
def sgL (D : zD) : Nat → (Nat → Nat) × Nat
  | 0 => (D 0, 0)
  | n + 1 => sgs (sgL D n) (fun j => j == n && D 1 j == 2) (fun _ => false)
def sgC (D : zD) : Nat → (Nat → Nat) × Nat
  | 0 => sgL D 16
  | n + 1 => sgs (sgC D n) (fun _ => false) (fun j => j == n && D 1 j == 1)
def fDue (w : Int32) (G : zG) : Int32 := match mm 2 w with
  | some 0 => nI (ltr (mvD G.1).1 (mvD G.1).2.2 15)
  | some _ => nI (sgC G.1 16).2
  | none => -1
def lbase (c w : Nat) : Nat := (if w = 0 then 10 - c else 10) / Nat.gcd 10 (10 - c)
def fLuck (x c w : Int32) (G : zG) : Int32 := match mm 16 x, mm 11 c, mm 2 w with
  | some m, some c, some w => if G.1 0 m ≠ 0 then nI (lbase c w ^ fa_cnt (nlp G.1 m) (G.1 6 1)) else -2
  | _, _, _ => -1
def fType (x : Int32) (G : zG) : Int32 × zG := match rg 32 126 x with
  | some c => if G.2.2.2.1.2 < 90 then (nI (G.2.2.2.1.2 + 1), gtape G (fup G.2.2.2.1.1 G.2.2.2.1.2 c, G.2.2.2.1.2 + 1)) else (-3, G)
  | none => (-1, G)
/-- an event that ends with the sign c -/
def ev1 (c : Nat) (cm : Bool) (D : zD) : Option zD := if c = 33 then (if brf D = nI 0 then some (btc D) else none) else match fig c with
  | none => none
  | some m => if cm = true then (if D 0 m = 0 ∧ D 1 m ≠ 1 then some (dset D 1 m 1) else none) else (if D 0 m ≠ 0 ∧ D 1 m ≠ 2 then some (dset D 1 m 2) else none)
def evd (tp : Nat → Nat) (tn : Nat) : Nat → zD → Nat → Bool → zD × Nat
  | 0, D, n, _ => (D, n)
  | d + 1, D, n, cm => if tp (tn - (d + 1)) = 43 ∨ tp (tn - (d + 1)) = 45 then evd tp tn d D n (tp (tn - (d + 1)) == 43) else if tp (tn - (d + 1)) = 32 then evd tp tn d D n cm else match ev1 (tp (tn - (d + 1))) cm D with
    | some D' => evd tp tn d D' (n + 1) cm
    | none => (D, n)
def fRead (G : zG) : Int32 × zG := match flt G.2.2.2.1.1 G.2.2.2.1.2 G.2.2.2.1.2 (false, false) with
  | some p => (-20 - nI p, gtape G (G.2.2.2.1.1, 0))
  | none => (nI (evd G.2.2.2.1.1 G.2.2.2.1.2 G.2.2.2.1.2 G.1 0 false).2, gtape (gset (gkp G) (evd G.2.2.2.1.1 G.2.2.2.1.2 G.2.2.2.1.2 G.1 0 false).1) (G.2.2.2.1.1, 0))
def drw (x : Nat) : Nat := (x * 1103515245 + 12345) % 2147483648
def tryB (D : zD) : zD := if brf D = nI 0 then btc D else D
def tryC (m : Nat) (D : zD) : zD := if D 0 m = 0 ∧ D 1 m ≠ 1 then dset D 1 m 1 else D
def tryL (m : Nat) (D : zD) : zD := if D 0 m ≠ 0 ∧ D 1 m ≠ 2 then dset D 1 m 2 else D
def dr2 (x m : Nat) (D : zD) : zD := if x = 4 ∨ x = 5 then tryB D else if x = 6 then (if D 0 m ≠ 0 ∧ D 2 m ≠ 1 then dset D 2 m 1 else if D 2 m = 1 then rdm m (dset D 2 m 0) else D) else if x = 7 then (if mrf D m = nI 0 then mnd m D else D) else if D 0 m ≠ 0 then tryL m D else tryC m D
def dr1 (D : zD) : zD := dr2 (drw (D 6 3) / 65536 % 8) (drw (D 6 3) / 65536 / 16 % 16) (dset D 6 3 (drw (D 6 3)))
def drt (G : zG) : Nat → zG
  | 0 => G
  | n + 1 => gset (gkp (drt G n)) (dr1 (drt G n).1)
def fDrift (x : Int32) (G : zG) : Int32 × zG := match rg 1 40 x with
  | some n => (nI (sm ((drt G n).1 0) 1), drt G n)
  | none => (-1, G)
def fUndo (G : zG) : Int32 × zG := if G.2.1.2 = 0 then (-4, G) else (nI (G.2.1.2 - 1), (G.2.1.1 (G.2.1.2 - 1), (G.2.1.1, G.2.1.2 - 1), G.2.2))
def fSeed (x : Int32) (G : zG) : Int32 × zG := if x < 0 then (-1, G) else (nI (G.1 6 3), gset G (dset G.1 6 3 x.toBitVec.toNat))
def fImage (G : zG) : Int32 × zG := (nI 1, (G.1, G.2.1, (true, G.1, G.2.1), G.2.2.2))
def fRestore (G : zG) : Int32 × zG := if G.2.2.1.1 = true then (nI 1, (G.2.2.1.2.1, G.2.2.1.2.2, G.2.2)) else (-4, G)
/-- n items from i on of a sheet, taken as a lane's: what refuses them -/
def lkb (i n : Int32) (z : Nat) : Bool := decide (0 ≤ i.toInt) && (decide (0 ≤ n.toInt) && decide (i.toInt + n.toInt ≤ z))
def shref (h : zH) (t c : Nat) (i n : Int32) : Int32 := if h.1 t = 0 then -11 else if h.1 t ≠ c + 1 then -12 else if lkb i n (h.2.1 t) = true then nI 0 else -13
theorem lkb_iff {i n : Int32} {z : Nat} (hz : z ≤ 24) : lkb i n z = true ↔ LK i n z := by
  unfold lkb
  rw [Bool.and_eq_true, Bool.and_eq_true, decide_eq_true_iff, decide_eq_true_iff, decide_eq_true_iff]
  constructor
  · rintro ⟨h1, h2, h3⟩
    obtain ⟨a, ha, rfl⟩ := nI_of (x := i) (by rw [Int32.lt_iff_toInt_lt]; exact fun q => absurd (show i.toInt < 0 from q) (by omega))
    obtain ⟨b, hb, rfl⟩ := nI_of (x := n) (by rw [Int32.lt_iff_toInt_lt]; exact fun q => absurd (show n.toInt < 0 from q) (by omega))
    rw [nI_toInt ha, nI_toInt hb] at h3
    exact ⟨a, b, rfl, rfl, by omega⟩
  · rintro ⟨a, b, rfl, rfl, h⟩
    rw [nI_toInt (by omega), nI_toInt (by omega)]
    omega
/-- letters that a sheet tells -/
def gid (h : zH) (t a j : Nat) : Nat := (h.2.2 t (a + j)).toBitVec.toNat
def gok (D : zD) (h : zH) (t a : Nat) : Nat → Bool
  | 0 => true
  | n + 1 => gok D h t a n && (decide (0 ≤ (h.2.2 t (a + n)).toInt) && decide ((h.2.2 t (a + n)).toInt < (D 6 1 : Int)))
def gop (D : zD) (h : zH) (m t a : Nat) : Nat → (Nat → Bool)
  | 0 => f0 D (2 ^ m)
  | n + 1 => op1 D (gop D h m t a n) (gid h t a n)
def fGot (x s l i n : Int32) (G : zG) : Int32 := match mm 16 x, mm 4 s, mm 4 l, rg 1 24 n with
  | some m, some t, some c, some k => if shref G.2.2.2.2 t c i n ≠ nI 0 then shref G.2.2.2.2 t c i n else if gok G.1 G.2.2.2.2 t i.toBitVec.toNat k = false then -2 else if sm (G.1 0) 1 = 0 then -4 else zb (gop G.1 G.2.2.2.2 m t i.toBitVec.toNat k (key G.1 1))
  | _, _, _, _ => -1
def itset (h : zH) (t k : Nat) (v : Int64) : zH := (h.1, h.2.1, fun t' k' => if t' = t ∧ k' = k then v else h.2.2 t' k')
def flm (D : zD) (c t a : Nat) : Nat → Nat → zH → zH
  | 0, _, h => h
  | n + 1, v, h => flm D c t (a + 1) n (v / 2) (itset h t a (lcut c (kof (D 0) D v).toInt64))
def fFilm (x s l i : Int32) (G : zG) : Int32 × zG := match rg 16 31 x, mm 4 s, mm 4 l with
  | some v, some t, some c => if shref G.2.2.2.2 t c i (nI 5) ≠ nI 0 then (shref G.2.2.2.2 t c i (nI 5), G) else (nI 5, gsh G (flm G.1 c t i.toBitVec.toNat 5 v G.2.2.2.2))
  | _, _, _ => (-1, G)
def shnew (h : zH) (t c z : Nat) : zH := (fup h.1 t c, fup h.2.1 t z, fun t' k' => if t' = t then 0 else h.2.2 t' k')
def fSheet (s l n : Int32) (G : zG) : Int32 × zG := match mm 4 s, mm 4 l with
  | some t, some c => if nI 24 < n then (-1, G) else if n < 0 then (-14, G) else (n, gsh G (shnew G.2.2.2.2 t (c + 1) n.toBitVec.toNat))
  | _, _ => (-1, G)
def fDrop (s : Int32) (G : zG) : Int32 × zG := match mm 4 s with
  | some t => if G.2.2.2.2.1 t = 0 then (-11, G) else (nI (G.2.2.2.2.2.1 t), gsh G (shnew G.2.2.2.2 t 0 0))
  | none => (-1, G)
def fItem (s l i : Int32) (v : Int64) (G : zG) : Int32 × zG := match mm 4 s, mm 4 l with
  | some t, some c => if shref G.2.2.2.2 t c i (nI 1) ≠ nI 0 then (shref G.2.2.2.2 t c i (nI 1), G) else (nI 1, gsh G (itset G.2.2.2.2 t i.toBitVec.toNat (lcut c v)))
  | _, _ => (-1, G)
def itcpy (h : zH) (t a u b n : Nat) : zH := (h.1, h.2.1, fun t' k' => if t' = u ∧ b ≤ k' ∧ k' < b + n then h.2.2 t (a + (k' - b)) else h.2.2 t' k')
def fCopy (s i t j n : Int32) (G : zG) : Int32 × zG := match mm 4 s, mm 4 t with
  | some s, some t => if G.2.2.2.2.1 s = 0 ∨ G.2.2.2.2.1 t = 0 then (-11, G) else if G.2.2.2.2.1 s ≠ G.2.2.2.2.1 t then (-12, G) else if lkb i n (G.2.2.2.2.2.1 s) = true ∧ lkb j n (G.2.2.2.2.2.1 t) = true then (n, gsh G (itcpy G.2.2.2.2 s i.toBitVec.toNat t j.toBitVec.toNat n.toBitVec.toNat)) else (-13, G)
  | _, _ => (-1, G)
