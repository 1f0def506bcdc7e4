/-! THE STATE: all ints of all cells by place and index, all longs likewise; the cells' shapes never change behind the constructors -/
abbrev zS : Type := (Nat → Nat → Int32) × (Nat → Nat → Int64)
/-- an object: its class, its fields (a reference, or an int); an array of ints, booleans, chars, longs: its type, its length; an array of references -/
abbrev zTm : Type := (Nat × List (Option Nat)) ⊕ (Nat × Nat) ⊕ (Nat × List Nat)
def zbookSh (b : Nat) : Nat → zTm
  | 0 => .inl (0, [some (b + 1), some (b + 4), some (b + 9), none, none, none, none, none, some (b + 13), some (b + 14), some (b + 15)])
  | 1 => .inl (5, [some (b + 2), some (b + 3)])
  | 2 => .inr (.inl (0, 16))
  | 3 => .inr (.inl (0, 32))
  | 4 => .inl (1, [none, some (b + 5), some (b + 6), some (b + 7), some (b + 8)])
  | 5 => .inr (.inl (0, 232))
  | 6 => .inr (.inl (0, 232))
  | 7 => .inr (.inl (0, 232))
  | 8 => .inr (.inl (0, 32))
  | 9 => .inl (2, [none, some (b + 10), some (b + 11), some (b + 12)])
  | 10 => .inr (.inl (0, 192))
  | 11 => .inr (.inl (0, 192))
  | 12 => .inr (.inl (0, 192))
  | _ => .inr (.inl (0, 16))
def zrestSh : Nat → zTm
  | 0 => .inl (7, [some 230, none])
  | 1 => .inr (.inl (3, 90))
  | 2 => .inr (.inr (5, [237, 239, 241, 243]))
  | 3 => .inl (5, [some 233, some 234])
  | 4 => .inr (.inl (0, 16))
  | 5 => .inr (.inl (0, 32))
  | 6 => .inl (4, [some 236, none])
  | _ => .inr (.inl (2, 232))
def zsh (a : Nat) : zTm :=
  if a = 0 then .inl (8, [some 1, some 17, some 115, some 131, none, some 229, some 231, some 232, some 235])
  else if a < 17 then zbookSh 1 (a - 1)
  else if a = 17 then .inl (3, [some 18, none, none])
  else if a = 18 then .inr (.inr (4, [19, 35, 51, 67, 83, 99]))
  else if a < 115 then zbookSh (19 + 16 * ((a - 19) / 16)) ((a - 19) % 16)
  else if a < 131 then zbookSh 115 (a - 115)
  else if a = 131 then .inl (3, [some 132, none, none])
  else if a = 132 then .inr (.inr (4, [133, 149, 165, 181, 197, 213]))
  else if a < 229 then zbookSh (133 + 16 * ((a - 133) / 16)) ((a - 133) % 16)
  else if a < 237 then zrestSh (a - 229)
  else if a < 245 then (if (a - 237) % 2 = 0 then .inl (6, [some (a + 1), none, none]) else .inr (.inl (1, 24)))
  else .inr (.inr (0, []))
def zcell (S : zS) (a : Nat) : va_E := match zsh a with
  | .inl (ci, fl) => .inr (ci, fl.mapIdx fun k o => match o with | some r => .ref r | none => .int (S.1 a k))
  | .inr (.inl (t, n)) => if t = 1 then .inl (1, n, .inr (.inl (S.2 a))) else .inl (t, n, .inl (S.1 a))
  | .inr (.inr (t, ids)) => .inl (t, ids.length, .inr (.inr (.inr (.inr (fun j => ids[j]?)))))
def zcells (S : zS) : List va_E := (List.range 245).map (zcell S)
/-- a field of a place: its class, and the reference in it, if it is one -/
def zfd (a k : Nat) : Option (Nat × Option Nat) := match zsh a with
  | .inl (ci, fl) => (fl[k]?).map fun o => (ci, o)
  | _ => none
def zar (a : Nat) : Option (Nat × Nat) := match zsh a with
  | .inr (.inl x) => some x
  | _ => none
def zra (a : Nat) : Option (Nat × List Nat) := match zsh a with
  | .inr (.inr x) => some x
  | _ => none
def zput (S : zS) (a k : Nat) (x : Int32) : zS := (fun a' k' => if a' = a ∧ k' = k then x else S.1 a' k', S.2)
def zputL (S : zS) (a k : Nat) (x : Int64) : zS := (S.1, fun a' k' => if a' = a ∧ k' = k then x else S.2 a' k')
/-- n items of a from sp on come to b from dp on -/
def zcpy (S : zS) (a sp b dp n : Nat) : zS := (fun a' k' => if a' = b ∧ dp ≤ k' ∧ k' < dp + n then S.1 a (sp + (k' - dp)) else S.1 a' k', S.2)
def zcpyL (S : zS) (a sp b dp n : Nat) : zS := (S.1, fun a' k' => if a' = b ∧ dp ≤ k' ∧ k' < dp + n then S.2 a (sp + (k' - dp)) else S.2 a' k')
theorem zc_at (S : zS) {a : Nat} (h : a < 245) : (zcells S)[a]? = some (zcell S a) := by simp [zcells, List.getElem?_map, List.getElem?_range, h]
theorem zc_set {S S' : zS} {a : Nat} {e : va_E} (h1 : zcell S' a = e) (h2 : ∀ k, k ≠ a → zcell S' k = zcell S k) : (zcells S).set a e = zcells S' := by
  apply List.ext_getElem?
  intro j
  by_cases hj : a = j
  · subst hj
    by_cases hl : a < 245
    · rw [List.getElem?_set_self (by simpa [zcells] using hl), zc_at S' hl, h1]
    · simp [zcells, List.getElem?_set, hl]
  · rw [List.getElem?_set_ne hj]
    by_cases hl : j < 245
    · rw [zc_at S hl, zc_at S' hl, h2 j (Ne.symm hj)]
    · simp [zcells, hl]
theorem zcell_ext {S S' : zS} {a : Nat} (h1 : S'.1 a = S.1 a) (h2 : S'.2 a = S.2 a) : zcell S' a = zcell S a := by
  unfold zcell
  rw [h1, h2]
theorem zfd_sh {a k ci : Nat} {o : Option Nat} (h : zfd a k = some (ci, o)) : ∃ fl, zsh a = .inl (ci, fl) ∧ fl[k]? = some o := by
  unfold zfd at h
  split at h
  next ci' fl e =>
    obtain ⟨o', h1, h2⟩ := Option.map_eq_some_iff.mp h
    cases h2
    exact ⟨fl, e, h1⟩
  next => cases h
theorem zar_sh {a : Nat} {x : Nat × Nat} (h : zar a = some x) : zsh a = .inr (.inl x) := by
  unfold zar at h
  split at h
  next x' e => cases h; exact e
  next => cases h
theorem zra_sh {a : Nat} {x : Nat × List Nat} (h : zra a = some x) : zsh a = .inr (.inr x) := by
  unfold zra at h
  split at h
  next x' e => cases h; exact e
  next => cases h
theorem zput_ne (S : zS) {a k a' : Nat} (x : Int32) (h : a' ≠ a) : (zput S a k x).1 a' = S.1 a' := by
  funext j
  simp [zput, h]
theorem zputL_ne (S : zS) {a k a' : Nat} (x : Int64) (h : a' ≠ a) : (zputL S a k x).2 a' = S.2 a' := by
  funext j
  simp [zputL, h]
theorem zput_arr (S : zS) (a k : Nat) (x : Int32) : (zput S a k x).1 a = upd (S.1 a) k x := by
  funext j
  simp [zput, upd]
theorem zputL_arr (S : zS) (a k : Nat) (x : Int64) : (zputL S a k x).2 a = vp_updL (S.2 a) k x := by
  funext j
  simp [zputL, vp_updL]
theorem zset_o {S : zS} {a k ci : Nat} {fl : List (Option Nat)} (x : Int32) (hs : zsh a = .inl (ci, fl)) (hk : fl[k]? = some none) : (zcells S).set a (.inr (ci, (fl.mapIdx fun k o => match o with | some r => Value.ref r | none => .int (S.1 a k)).set k (.int x))) = zcells (zput S a k x) := by
  refine zc_set ?_ (fun j hj => zcell_ext (zput_ne S x hj) rfl)
  unfold zcell
  rw [hs]
  simp only
  congr 2
  apply List.ext_getElem?
  intro j
  rw [List.getElem?_set, List.getElem?_mapIdx, List.getElem?_mapIdx]
  by_cases hj : k = j
  · subst hj
    have hl : k < fl.length := (List.getElem?_eq_some_iff.mp hk).1
    have hk2 : fl[k] = none := by have := List.getElem?_eq_getElem hl; rw [hk] at this; exact (Option.some.inj this).symm
    simp [hk2, hl, zput]
  · rw [if_neg hj]
    congr 1
    funext o
    cases o with
    | some r => rfl
    | none => simp [zput, Ne.symm hj]
theorem zset_a {S : zS} {a k t n : Nat} (x : Int32) (hs : zsh a = .inr (.inl (t, n))) (ht : t ≠ 1) : (zcells S).set a (.inl (t, n, .inl (upd (S.1 a) k x))) = zcells (zput S a k x) := by
  refine zc_set ?_ (fun j hj => zcell_ext (zput_ne S x hj) rfl)
  unfold zcell
  rw [hs]
  simp only [if_neg ht, zput_arr]
theorem zset_l {S : zS} {a k n : Nat} (x : Int64) (hs : zsh a = .inr (.inl (1, n))) : (zcells S).set a (.inl (1, n, .inr (.inl (vp_updL (S.2 a) k x)))) = zcells (zputL S a k x) := by
  refine zc_set ?_ (fun j hj => zcell_ext rfl (zputL_ne S x hj))
  unfold zcell
  rw [hs]
  simp only [if_pos, zputL_arr]
theorem zset_c {S : zS} {a b sp dp n N : Nat} (hs : zsh b = .inr (.inl (0, N))) : (zcells S).set b (.inl (0, N, .inl (va_cpy (S.1 a) (S.1 b) sp dp n))) = zcells (zcpy S a sp b dp n) := by
  refine zc_set ?_ (fun j hj => zcell_ext (by funext k; simp [zcpy, hj]) rfl)
  unfold zcell
  rw [hs]
  have e : (zcpy S a sp b dp n).1 b = va_cpy (S.1 a) (S.1 b) sp dp n := by funext k; simp [zcpy, va_cpy]
  simp only [e]
  rfl
theorem zset_cl {S : zS} {a b sp dp n N : Nat} (hs : zsh b = .inr (.inl (1, N))) : (zcells S).set b (.inl (1, N, .inr (.inl (va_cpy (S.2 a) (S.2 b) sp dp n)))) = zcells (zcpyL S a sp b dp n) := by
  refine zc_set ?_ (fun j hj => zcell_ext rfl (by funext k; simp [zcpyL, hj]))
  unfold zcell
  rw [hs]
  have e : (zcpyL S a sp b dp n).2 b = va_cpy (S.2 a) (S.2 b) sp dp n := by funext k; simp [zcpyL, va_cpy]
  simp only [e, if_pos]
theorem nI_toNat {n : Nat} (h : n < 2147483648) : (nI n).toNatClampNeg = n := by
  show (nI n).toInt.toNat = n
  rw [nI_toInt h]
  omega
theorem vp_in_n {j n : Nat} (h : j < n) (hn : n < 2147483648) : vp_in (nI j) n := vp_in_nI h (by omega)
section ZS
variable {C : zCx} {τ : Nat → ClassId} {ι : Nat → Nat} {R : Room} {own : String} {cc : ByteArray} {nL kc ks pc : Nat} {lv : List (Nat × Value)} {st : List Value} {S : zS}
theorem zs_getr (hC : zOK C τ R own cc nL) {index ci a k r : Nat} (hdg : decode cc pc = .ok (.getfield index, 3)) (hf : zFl own index ci k) (hz : zfd a k = some (ci, some r)) (ha : a < 245) (kk : zR C τ ι nL kc ks (pc + 3) lv (.ref r :: st) (zcells S)) : zR C τ ι nL kc ks pc lv (.ref a :: st) (zcells S) := by
  obtain ⟨fl, h1, h2⟩ := zfd_sh hz
  exact zr_getf hC hdg hf ((zc_at S ha).trans (by unfold zcell; rw [h1])) (by rw [List.getElem?_mapIdx, h2]; rfl) kk
theorem zs_geti (hC : zOK C τ R own cc nL) {index ci a k : Nat} (hdg : decode cc pc = .ok (.getfield index, 3)) (hf : zFl own index ci k) (hz : zfd a k = some (ci, none)) (ha : a < 245) (kk : zR C τ ι nL kc ks (pc + 3) lv (.int (S.1 a k) :: st) (zcells S)) : zR C τ ι nL kc ks pc lv (.ref a :: st) (zcells S) := by
  obtain ⟨fl, h1, h2⟩ := zfd_sh hz
  exact zr_getf hC hdg hf ((zc_at S ha).trans (by unfold zcell; rw [h1])) (by rw [List.getElem?_mapIdx, h2]; rfl) kk
theorem zs_puti (hC : zOK C τ R own cc nL) {index ci a k : Nat} {x : Int32} (hdg : decode cc pc = .ok (.putfield index, 3)) (hf : zFl own index ci k) (hp : zFp ci k false .int) (hz : zfd a k = some (ci, none)) (ha : a < 245) (kk : zR C τ ι nL kc ks (pc + 3) lv st (zcells (zput S a k x))) : zR C τ ι nL kc ks pc lv (.int x :: .ref a :: st) (zcells S) := by
  obtain ⟨fl, h1, h2⟩ := zfd_sh hz
  refine zr_puti hC hdg hf hp ((zc_at S ha).trans (by unfold zcell; rw [h1])) (by rw [List.length_mapIdx]; exact (List.getElem?_eq_some_iff.mp h2).1) ?_
  rw [zset_o x h1 h2]
  exact kk
theorem zs_putz (hC : zOK C τ R own cc nL) {index ci a k : Nat} {x : Int32} (hdg : decode cc pc = .ok (.putfield index, 3)) (hf : zFl own index ci k) (hp : zFp ci k false .boolean) (hz : zfd a k = some (ci, none)) (ha : a < 245) (h01 : x = 0 ∨ x = 1) (kk : zR C τ ι nL kc ks (pc + 3) lv st (zcells (zput S a k x))) : zR C τ ι nL kc ks pc lv (.int x :: .ref a :: st) (zcells S) := by
  obtain ⟨fl, h1, h2⟩ := zfd_sh hz
  refine zr_putz hC hdg hf hp ((zc_at S ha).trans (by unfold zcell; rw [h1])) (by rw [List.length_mapIdx]; exact (List.getElem?_eq_some_iff.mp h2).1) h01 ?_
  rw [zset_o x h1 h2]
  exact kk
theorem zc_arr {a t n : Nat} (hz : zar a = some (t, n)) (ht : t ≠ 1) (ha : a < 245) : (zcells S)[a]? = some (.inl (t, n, .inl (S.1 a))) := (zc_at S ha).trans (by unfold zcell; rw [zar_sh hz]; simp only [if_neg ht])
theorem zc_arl {a n : Nat} (hz : zar a = some (1, n)) (ha : a < 245) : (zcells S)[a]? = some (.inl (1, n, .inr (.inl (S.2 a)))) := (zc_at S ha).trans (by unfold zcell; rw [zar_sh hz]; simp only [if_pos])
theorem zs_iald (hC : zOK C τ R own cc nL) {a n j : Nat} {i : Int32} (hdg : decode cc pc = .ok (.iaload, 1)) (hz : zar a = some (0, n)) (hn : n ≤ 5000) (ha : a < 245) (hi : i = nI j) (hj : j < n) (kk : zR C τ ι nL kc ks (pc + 1) lv (.int (S.1 a j) :: st) (zcells S)) : zR C τ ι nL kc ks pc lv (.int i :: .ref a :: st) (zcells S) := by
  subst hi
  refine zr_iald hC hdg (zc_arr hz (by decide) ha) (vp_in_n hj (by omega)) ?_
  rw [nI_toNat (by omega)]
  exact kk
theorem zs_zald (hC : zOK C τ R own cc nL) {a n j : Nat} {i : Int32} (hdg : decode cc pc = .ok (.baload, 1)) (hz : zar a = some (2, n)) (hn : n ≤ 5000) (ha : a < 245) (hi : i = nI j) (hj : j < n) (kk : zR C τ ι nL kc ks (pc + 1) lv (.int (S.1 a j) :: st) (zcells S)) : zR C τ ι nL kc ks pc lv (.int i :: .ref a :: st) (zcells S) := by
  subst hi
  refine zr_zald hC hdg (zc_arr hz (by decide) ha) (vp_in_n hj (by omega)) ?_
  rw [nI_toNat (by omega)]
  exact kk
theorem zs_cald (hC : zOK C τ R own cc nL) {a n j : Nat} {i : Int32} (hdg : decode cc pc = .ok (.caload, 1)) (hz : zar a = some (3, n)) (hn : n ≤ 5000) (ha : a < 245) (hi : i = nI j) (hj : j < n) (kk : zR C τ ι nL kc ks (pc + 1) lv (.int (S.1 a j) :: st) (zcells S)) : zR C τ ι nL kc ks pc lv (.int i :: .ref a :: st) (zcells S) := by
  subst hi
  refine zr_cald hC hdg (zc_arr hz (by decide) ha) (vp_in_n hj (by omega)) ?_
  rw [nI_toNat (by omega)]
  exact kk
theorem zs_lald (hC : zOK C τ R own cc nL) {a n j : Nat} {i : Int32} (hdg : decode cc pc = .ok (.laload, 1)) (hz : zar a = some (1, n)) (hn : n ≤ 5000) (ha : a < 245) (hi : i = nI j) (hj : j < n) (kk : zR C τ ι nL kc ks (pc + 1) lv (.long (S.2 a j) :: st) (zcells S)) : zR C τ ι nL kc ks pc lv (.int i :: .ref a :: st) (zcells S) := by
  subst hi
  refine zr_lald hC hdg (zc_arl hz ha) (vp_in_n hj (by omega)) ?_
  rw [nI_toNat (by omega)]
  exact kk
theorem zs_iast (hC : zOK C τ R own cc nL) {a n j : Nat} {i x : Int32} (hdg : decode cc pc = .ok (.iastore, 1)) (hz : zar a = some (0, n)) (hn : n ≤ 5000) (ha : a < 245) (hi : i = nI j) (hj : j < n) (kk : zR C τ ι nL kc ks (pc + 1) lv st (zcells (zput S a j x))) : zR C τ ι nL kc ks pc lv (.int x :: .int i :: .ref a :: st) (zcells S) := by
  subst hi
  refine zr_iast hC hdg (zc_arr hz (by decide) ha) (vp_in_n hj (by omega)) ?_
  rw [nI_toNat (by omega), zset_a x (zar_sh hz) (by decide)]
  exact kk
theorem zs_zast (hC : zOK C τ R own cc nL) {a n j : Nat} {i x : Int32} (hdg : decode cc pc = .ok (.bastore, 1)) (hz : zar a = some (2, n)) (hn : n ≤ 5000) (ha : a < 245) (hi : i = nI j) (hj : j < n) (h01 : x = 0 ∨ x = 1) (kk : zR C τ ι nL kc ks (pc + 1) lv st (zcells (zput S a j x))) : zR C τ ι nL kc ks pc lv (.int x :: .int i :: .ref a :: st) (zcells S) := by
  subst hi
  refine zr_zast hC hdg (zc_arr hz (by decide) ha) (vp_in_n hj (by omega)) ?_
  rw [show vp_nar .boolean x = x by rcases h01 with rfl | rfl <;> decide +kernel, nI_toNat (by omega), zset_a x (zar_sh hz) (by decide)]
  exact kk
theorem zs_cast (hC : zOK C τ R own cc nL) {a n j : Nat} {i x : Int32} (hdg : decode cc pc = .ok (.castore, 1)) (hz : zar a = some (3, n)) (hn : n ≤ 5000) (ha : a < 245) (hi : i = nI j) (hj : j < n) (hx : vp_nar .char x = x) (kk : zR C τ ι nL kc ks (pc + 1) lv st (zcells (zput S a j x))) : zR C τ ι nL kc ks pc lv (.int x :: .int i :: .ref a :: st) (zcells S) := by
  subst hi
  refine zr_cast hC hdg (zc_arr hz (by decide) ha) (vp_in_n hj (by omega)) ?_
  rw [hx, nI_toNat (by omega), zset_a x (zar_sh hz) (by decide)]
  exact kk
theorem zs_last (hC : zOK C τ R own cc nL) {a n j : Nat} {i : Int32} {x : Int64} (hdg : decode cc pc = .ok (.lastore, 1)) (hz : zar a = some (1, n)) (hn : n ≤ 5000) (ha : a < 245) (hi : i = nI j) (hj : j < n) (kk : zR C τ ι nL kc ks (pc + 1) lv st (zcells (zputL S a j x))) : zR C τ ι nL kc ks pc lv (.long x :: .int i :: .ref a :: st) (zcells S) := by
  subst hi
  refine zr_last hC hdg (zc_arl hz ha) (vp_in_n hj (by omega)) ?_
  rw [nI_toNat (by omega), zset_l x (zar_sh hz)]
  exact kk
theorem zs_aald (hC : zOK C τ R own cc nL) {a t j x : Nat} {ids : List Nat} {i : Int32} (hdg : decode cc pc = .ok (.aaload, 1)) (hz : zra a = some (t, ids)) (ht : t = 4 ∨ t = 5) (hn : ids.length ≤ 5000) (ha : a < 245) (hi : i = nI j) (hj : ids[j]? = some x) (kk : zR C τ ι nL kc ks (pc + 1) lv (.ref x :: st) (zcells S)) : zR C τ ι nL kc ks pc lv (.int i :: .ref a :: st) (zcells S) := by
  subst hi
  have hl : j < ids.length := (List.getElem?_eq_some_iff.mp hj).1
  exact zr_aald hC hdg ht ((zc_at S ha).trans (by unfold zcell; rw [zra_sh hz])) (vp_in_n hl (by omega)) (by rw [nI_toNat (by omega)]; exact hj) kk
theorem zs_alen (hC : zOK C τ R own cc nL) {a t n : Nat} (hdg : decode cc pc = .ok (.arraylength, 1)) (hz : zar a = some (t, n)) (ht : t < 4) (ha : a < 245) (kk : zR C τ ι nL kc ks (pc + 1) lv (.int (nI n) :: st) (zcells S)) : zR C τ ι nL kc ks pc lv (.ref a :: st) (zcells S) := by
  by_cases h1 : t = 1
  · subst h1
    exact zr_alen hC hdg ht (zc_arl hz ha) kk
  · exact zr_alen hC hdg ht (zc_arr hz h1 ha) kk
theorem zs_copyi {d mc ms : Nat} (hC : zOK C τ (zrm d mc ms) own cc nL) (hd : 1 ≤ d) {index a b n0 n1 sp dp n : Nat} {isp idp inn : Int32} (hdg : decode cc pc = .ok (.invokestatic index, 3)) (hlink : Cond.methodLink own index arraycopyName ∈ zT) (hz0 : zar a = some (0, n0)) (hz1 : zar b = some (0, n1)) (ha : a < 245) (hb : b < 245) (hn0 : n0 ≤ 5000) (hn1 : n1 ≤ 5000) (e1 : isp = nI sp) (e2 : idp = nI dp) (e3 : inn = nI n) (h4 : sp + n ≤ n0) (h5 : dp + n ≤ n1) (kk : zR C τ ι nL kc ks (pc + 3) lv [] (zcells (zcpy S a sp b dp n))) : zR C τ ι nL kc ks pc lv [.int inn, .int idp, .ref b, .int isp, .ref a] (zcells S) := by
  subst e1 e2 e3
  have hp : ∀ {q : Nat}, q < 2147483648 → ¬ nI q < 0 := fun {q} hq => by rw [Int32.lt_iff_toInt_lt, nI_toInt hq]; simp
  refine zr_copyi hC hd hdg hlink (zc_arr hz0 (by decide) ha) (zc_arr hz1 (by decide) hb) (hp (by omega)) (hp (by omega)) (hp (by omega)) (by rw [nI_toNat (by omega), nI_toNat (by omega)]; exact h4) (by rw [nI_toNat (by omega), nI_toNat (by omega)]; exact h5) rfl ?_
  rw [nI_toNat (by omega), nI_toNat (by omega), nI_toNat (by omega), zset_c (zar_sh hz1)]
  exact kk
theorem zs_copyl {d mc ms : Nat} (hC : zOK C τ (zrm d mc ms) own cc nL) (hd : 1 ≤ d) {index a b n0 n1 sp dp n : Nat} {isp idp inn : Int32} (hdg : decode cc pc = .ok (.invokestatic index, 3)) (hlink : Cond.methodLink own index arraycopyName ∈ zT) (hz0 : zar a = some (1, n0)) (hz1 : zar b = some (1, n1)) (ha : a < 245) (hb : b < 245) (hn0 : n0 ≤ 5000) (hn1 : n1 ≤ 5000) (e1 : isp = nI sp) (e2 : idp = nI dp) (e3 : inn = nI n) (h4 : sp + n ≤ n0) (h5 : dp + n ≤ n1) (kk : zR C τ ι nL kc ks (pc + 3) lv [] (zcells (zcpyL S a sp b dp n))) : zR C τ ι nL kc ks pc lv [.int inn, .int idp, .ref b, .int isp, .ref a] (zcells S) := by
  subst e1 e2 e3
  have hp : ∀ {q : Nat}, q < 2147483648 → ¬ nI q < 0 := fun {q} hq => by rw [Int32.lt_iff_toInt_lt, nI_toInt hq]; simp
  refine zr_copyl hC hd hdg hlink (zc_arl hz0 ha) (zc_arl hz1 hb) (hp (by omega)) (hp (by omega)) (hp (by omega)) (by rw [nI_toNat (by omega), nI_toNat (by omega)]; exact h4) (by rw [nI_toNat (by omega), nI_toNat (by omega)]; exact h5) rfl ?_
  rw [nI_toNat (by omega), nI_toNat (by omega), nI_toNat (by omega), zset_cl (zar_sh hz1)]
  exact kk
end ZS
/-- a contract over states -/
abbrev zSp : Type := List Value → zS → (Option Value → zS → Prop) → Prop
def zLs (Sp : zSp) : List Value → List va_E → (Option Value → List va_E → Prop) → Prop := fun av w Q => ∃ S, w = zcells S ∧ Sp av S (fun r S' => Q r (zcells S'))
def zM (y : MethodName) (bytes : ByteArray) (maxL : Nat) (ret : Option FieldType) (d : Nat) (Sp : zSp) : Prop := zMet y bytes maxL ret d (zLs Sp)
theorem zM.of {y : MethodName} {bytes : ByteArray} {maxL d : Nat} {ret : Option FieldType} {Sp : zSp} (hy : plainName y.cls = true) (h18 : maxL ≤ 18) (hn : ∀ av S Q, Sp av S Q → (lg_sl av).length ≤ maxL)
    (body : ∀ (C : zCx) (τ : Nat → ClassId) (ι : Nat → Nat) (av : List Value) (S : zS) (Q : Option Value → zS → Prop) (Qr : Option Value → List va_E → Prop), Sp av S Q → (∀ r S', Q r S' → Qr r (zcells S')) → zOK C τ (zrm d 0 0) y.cls bytes maxL → zRet C τ ι ret Qr → zR C τ ι maxL 0 0 0 (lv_args 0 av) [] (zcells S)) : zM y bytes maxL ret d Sp := by
  refine zMet.of hy h18 (fun av w Qr ⟨S, _, h⟩ => hn av S _ h) (fun C τ ι av w Qr ⟨S, hw, h⟩ hC hE => ?_)
  subst hw
  exact body C τ ι av S _ Qr h (fun _ _ h => h) hC hE
section ZK
variable {C : zCx} {τ : Nat → ClassId} {ι : Nat → Nat} {own : String} {cc : ByteArray} {nL kc ks pc d mc ms : Nat} {lv : List (Nat × Value)} {S : zS}
theorem zs_callV (hC : zOK C τ (zrm d mc ms) own cc nL) {y : MethodName} {bytes : ByteArray} {maxL d' n index b ci : Nat} {ret : Option FieldType} {Sp : zSp} (As rest : List Value) (hdg : decode cc pc = .ok (.invokevirtual index, 3)) (hlink : Cond.methodLink own index y ∈ zT) (hm : zMv y bytes maxL ret n) (hM : zM y bytes maxL ret d' Sp) (hd : d' + 1 ≤ d) (hkc : kc ≤ mc) (hks : ks ≤ ms) (hn : As.length = n) {fl} (he : zsh b = .inl (ci, fl)) (hb : b < 245) (hcl : (vwCl[ci]?).map (fun q => q.1) = some y.cls) (hrest : (rest.map fun v => v.category).sum ≤ 8) {st0 : List Value} (hst : st0 = As.reverse ++ .ref b :: rest)
    (kk : Sp (.ref b :: As) S (fun r S' => zR C τ ι nL kc ks (pc + 3) lv (r.toList ++ rest) (zcells S'))) : zR C τ ι nL kc ks pc lv st0 (zcells S) :=
  zr_callV hC (As := As) (rest := rest) hdg hlink hm hM hd hkc hks hn ((zc_at S hb).trans (by unfold zcell; rw [he])) hcl hrest ⟨S, rfl, kk⟩ hst
theorem zs_callS (hC : zOK C τ (zrm d mc ms) own cc nL) {y : MethodName} {bytes : ByteArray} {maxL d' n index : Nat} {ret : Option FieldType} {Sp : zSp} (As rest : List Value) (hdg : decode cc pc = .ok (.invokestatic index, 3)) (hlink : Cond.methodLink own index y ∈ zT) (hm : zMs y bytes maxL ret n) (hM : zM y bytes maxL ret d' Sp) (hd : d' + 1 ≤ d) (hkc : kc ≤ mc) (hks : ks ≤ ms) (hn : As.length = n) (hrest : (rest.map fun v => v.category).sum ≤ 8) {st0 : List Value} (hst : st0 = As.reverse ++ rest)
    (kk : Sp As S (fun r S' => zR C τ ι nL kc ks (pc + 3) lv (r.toList ++ rest) (zcells S'))) : zR C τ ι nL kc ks pc lv st0 (zcells S) :=
  zr_callS hC (As := As) (rest := rest) hdg hlink hm hM hd hkc hks hn hrest ⟨S, rfl, kk⟩ hst
theorem zs_callSN (hC : zOK C τ (zrm d mc ms) own cc nL) {y : MethodName} {bytes : ByteArray} {maxL d' n index : Nat} {host : String} {ret : Option FieldType} {Sp : zSp} (As rest : List Value) (hdg : decode cc pc = .ok (.invokestatic index, 3)) (hlink : Cond.methodLinkNest own index y host ∈ zNest) (hm : zMs y bytes maxL ret n) (hM : zM y bytes maxL ret d' Sp) (hd : d' + 1 ≤ d) (hkc : kc ≤ mc) (hks : ks ≤ ms) (hn : As.length = n) (hrest : (rest.map fun v => v.category).sum ≤ 8) {st0 : List Value} (hst : st0 = As.reverse ++ rest)
    (kk : Sp As S (fun r S' => zR C τ ι nL kc ks (pc + 3) lv (r.toList ++ rest) (zcells S'))) : zR C τ ι nL kc ks pc lv st0 (zcells S) :=
  zr_callSN hC (As := As) (rest := rest) hdg hlink hm hM hd hkc hks hn hrest ⟨S, rfl, kk⟩ hst
end ZK
