/-! THE LIST OF CELLS IN A CONSTRUCTOR: what was there, the object's own cell e at b, the new cells L -/
def zN (w : List va_E) (b : Nat) (e : va_E) (L : List va_E) : List va_E := w.set b e ++ L
theorem zN_len {w : List va_E} {b : Nat} {e : va_E} {L : List va_E} : (zN w b e L).length = w.length + L.length := by
  unfold zN; rw [List.length_append, List.length_set]
theorem zN_0 {w : List va_E} {b : Nat} {e : va_E} (h : w[b]? = some e) : zN w b e [] = w := by
  unfold zN
  rw [List.append_nil]
  apply List.ext_getElem?
  intro k
  by_cases q : b = k
  · subst q
    rw [List.getElem?_set_self (List.getElem?_eq_some_iff.mp h).1, h]
  · rw [List.getElem?_set_ne q]
theorem zN_at {w : List va_E} {b : Nat} {e : va_E} {L : List va_E} (h : b < w.length) : (zN w b e L)[b]? = some e := by
  unfold zN
  rw [List.getElem?_append_left (by rw [List.length_set]; exact h), List.getElem?_set_self h]
theorem zN_new {w : List va_E} {b : Nat} {e : va_E} {L : List va_E} {j : Nat} : (zN w b e L)[w.length + j]? = L[j]? := by
  unfold zN
  rw [List.getElem?_append_right (by rw [List.length_set]; omega), List.length_set, Nat.add_sub_cancel_left]
theorem zN_push {w : List va_E} {b : Nat} {e : va_E} {L M : List va_E} : zN w b e L ++ M = zN w b e (L ++ M) := List.append_assoc _ _ _
theorem zN_set {w : List va_E} {b : Nat} {e e' : va_E} {L : List va_E} (h : b < w.length) : (zN w b e L).set b e' = zN w b e' L := by
  unfold zN
  rw [List.set_append_left _ _ (by rw [List.length_set]; exact h), List.set_set]
theorem zN_setn {w : List va_E} {b : Nat} {e x : va_E} {L : List va_E} {j : Nat} : (zN w b e L).set (w.length + j) x = zN w b e (L.set j x) := by
  unfold zN
  rw [List.set_append_right _ _ (by rw [List.length_set]; omega), List.length_set, Nat.add_sub_cancel_left]
/-- references lie below n -/
theorem zeb_o {n ci : Nat} {fs : List Value} (h : ∀ v ∈ fs, zvb n v) : zeb n (.inr (ci, fs)) := ⟨fun t m f he => by (cases he), fun c f he v hv => by
  obtain ⟨-, rfl⟩ := Prod.mk.inj (Sum.inr.inj he)
  exact h v hv⟩
abbrev zai (n : Nat) : va_E := .inl (0, n, .inl (fun _ => 0))
abbrev zaI (n : Nat) (f : Nat → Int32) : va_E := .inl (0, n, .inl f)
abbrev zal (n : Nat) : va_E := .inl (1, n, .inr (.inl (fun _ => 0)))
abbrev zab (n : Nat) : va_E := .inl (2, n, .inl (fun _ => 0))
abbrev zac (n : Nat) : va_E := .inl (3, n, .inl (fun _ => 0))
theorem zeb_i {n t m : Nat} {f : Nat → Int32} : zeb n (.inl (t, m, .inl f)) := ⟨fun t m f he => by (cases he), fun c f he => by (cases he)⟩
theorem zeb_l {n t m : Nat} {f : Nat → Int64} : zeb n (.inl (t, m, .inr (.inl f))) := ⟨fun t m f he => by (cases he), fun c f he => by (cases he)⟩
theorem zeb_q {n t m : Nat} {f : Nat → Option Nat} (h : ∀ j x, j < m → f j = some x → x < n) : zeb n (zqa t m f) := ⟨fun t' m' f' he => by
  obtain ⟨-, he⟩ := Prod.mk.inj (Sum.inl.inj he)
  obtain ⟨rfl, he⟩ := Prod.mk.inj he
  cases he
  exact h, fun c f he => by (cases he)⟩
/-- all stays below what there is -/
def zNB (w : List va_E) (b : Nat) (e : va_E) (L : List va_E) : Prop := b < w.length ∧ zBd w.length w ∧ zeb (w.length + L.length) e ∧ ∀ x ∈ L, zeb (w.length + L.length) x
theorem zNB.bd {w : List va_E} {b : Nat} {e : va_E} {L : List va_E} (h : zNB w b e L) : zBd (zN w b e L).length (zN w b e L) := by
  rw [zN_len]
  intro x hx
  rcases List.mem_append.mp hx with q | q
  · exact (h.2.1.up (Nat.le_add_right _ _)).set h.2.2.1 x q
  · exact h.2.2.2 x q
theorem zNB.start {w : List va_E} {b : Nat} {e : va_E} (h : w[b]? = some e) (hw : zBd w.length w) : zNB w b e [] := ⟨(List.getElem?_eq_some_iff.mp h).1, hw, hw e (List.mem_of_getElem? h), fun x hx => by cases hx⟩
theorem zNB.push {w : List va_E} {b : Nat} {e x : va_E} {L : List va_E} (h : zNB w b e L) (hx : zeb (w.length + (L.length + 1)) x) : zNB w b e (L ++ [x]) := by
  have hl : (L ++ [x]).length = L.length + 1 := by simp
  refine ⟨h.1, h.2.1, ?_, fun y hy => ?_⟩
  · rw [hl]; exact h.2.2.1.up (by omega)
  · rw [hl]
    rcases List.mem_append.mp hy with q | q
    · exact (h.2.2.2 y q).up (by omega)
    · rw [List.mem_singleton.mp q]; exact hx
theorem zNB.own {w : List va_E} {b ci k x : Nat} {fs : List Value} {L : List va_E} (h : zNB w b (.inr (ci, fs)) L) (hx : x < w.length + L.length) : zNB w b (.inr (ci, fs.set k (.ref x))) L := ⟨h.1, h.2.1, zeb_o (fun v hv => by
  rcases List.mem_or_eq_of_mem_set hv with q | q
  · exact h.2.2.1.2 ci fs rfl v q
  · rw [q]; exact hx), h.2.2.2⟩
/-- after a call on the new cell j: its cell is y, the cells M have come -/
theorem zNB.call {w : List va_E} {b j : Nat} {e y : va_E} {L M : List va_E} (h : zNB w b e L) (hy : zeb (w.length + (L.length + M.length)) y) (hM : ∀ x ∈ M, zeb (w.length + (L.length + M.length)) x) : zNB w b e (L.set j y ++ M) := by
  have hl : (L.set j y ++ M).length = L.length + M.length := by simp
  refine ⟨h.1, h.2.1, ?_, fun x hx => ?_⟩
  · rw [hl]; exact h.2.2.1.up (by omega)
  · rw [hl]
    rcases List.mem_append.mp hx with q | q
    · rcases List.mem_or_eq_of_mem_set q with q | q
      · exact (h.2.2.2 x q).up (by omega)
      · rw [q]; exact hy
    · exact hM x q
/-- a constructor: of class ci, with fs at first, its cell then, the cells that have come -/
def zIni (ci : Nat) (fs : List Value) (ob : Nat → va_E) (Lx : Nat → List va_E) : List Value → List va_E → (List va_E → Prop) → Prop := fun av w Qr => ∃ b, av = [.ref b] ∧ w[b]? = some (.inr (ci, fs)) ∧ zBd w.length w ∧ Qr (zN w b (ob w.length) (Lx w.length))
section ZF
variable {C : zCx} {τ : Nat → ClassId} {ι : Nat → Nat} {own : String} {cc : ByteArray} {nL kc ks pc d mc ms : Nat} {lv : List (Nat × Value)} {st : List Value} {w : List va_E} {b : Nat} {e : va_E} {L : List va_E} {Q0 : List va_E → Prop} {ι0 : Nat → Nat} {n0 mcq msq : Nat}
/-- an object comes -/
theorem zo_new (hC : zOK C τ (zrm d mc ms) own cc nL) {index ci N : Nat} {fs : List Value} (hdg : decode cc pc = .ok (.new index, 3)) (hN : zNw1 own index ci N fs) (hno : ∀ v ∈ fs, ∀ a, v ≠ .ref a) (hkc : kc + 1 ≤ mc) (hks : ks + N ≤ ms) (hB : zNB w b e L) (hag : ∀ k, k < w.length → ι k = ι0 k) (hl : ∀ q ∈ lv, zvb (w.length + L.length) q.2) (hst : ∀ v ∈ st, zvb (w.length + L.length) v)
    (kk : ∀ ι', (∀ k, k < w.length → ι' k = ι0 k) → zNB w b e (L ++ [.inr (ci, fs)]) → zR C τ ι' nL (kc + 1) (ks + N) (pc + 3) lv (.ref (w.length + L.length) :: st) (zN w b e (L ++ [.inr (ci, fs)]))) : zR C τ ι nL kc ks pc lv st (zN w b e L) := by
  refine zr_new hC hdg hN hno hkc hks hB.bd (by rw [zN_len]; exact hl) (by rw [zN_len]; exact hst) (fun ι' h => ?_)
  rw [zN_len, zN_push]
  refine kk ι' (fun k hk => (h k (by rw [zN_len]; omega)).trans (hag k hk)) (hB.push (zeb_o (fun v hv => ?_)))
  cases v <;> first | trivial | exact absurd rfl (hno _ hv _)
theorem zo_newa (hC : zOK C τ (zrm d mc ms) own cc nL) {atype : ArrayType} {t N : Nat} {n : Int32} {a0 : vp_A} (hdg : decode cc pc = .ok (.newarray atype, 2)) (ht4 : t < 4) (hty : newarray.typeOf atype = zty t) (harr : Cond.arrayClass (newarray.typeOf atype) ∈ zT) (ha : ∀ cA : ClassId, vp_cell cA a0 = arrV cA N (fun _ => defaultValue (zty t))) (hz : ∀ ι2, zca ι2 τ (.inl (t, a0)) = .inl (τ t, a0)) (hn : ¬ n < 0) (hN : n.toNatClampNeg = N) (hbytes : N * componentBytes (zty t) ≤ 536870912) (hkc : kc + 1 ≤ mc) (hks : ks + N ≤ ms) (hB : zNB w b e L) (he : zeb (w.length + (L.length + 1)) (.inl (t, a0))) (hag : ∀ k, k < w.length → ι k = ι0 k) (hl : ∀ q ∈ lv, zvb (w.length + L.length) q.2) (hst : ∀ v ∈ st, zvb (w.length + L.length) v)
    (kk : ∀ ι', (∀ k, k < w.length → ι' k = ι0 k) → zNB w b e (L ++ [.inl (t, a0)]) → zR C τ ι' nL (kc + 1) (ks + N) (pc + 2) lv (.ref (w.length + L.length) :: st) (zN w b e (L ++ [.inl (t, a0)]))) : zR C τ ι nL kc ks pc lv (.int n :: st) (zN w b e L) := by
  refine zr_newa hC hdg ht4 hty harr ha hz hn hN hbytes hkc hks hB.bd (by rw [zN_len]; exact hl) (by rw [zN_len]; exact hst) (fun ι' h => ?_)
  rw [zN_len, zN_push]
  exact kk ι' (fun k hk => (h k (by rw [zN_len]; omega)).trans (hag k hk)) (hB.push he)
/-- a final field of the object's own -/
theorem zo_put (hC : zOK C τ (zrm d mc ms) own cc nL) (hO : zRetN C τ ι0 n0 mcq msq Q0) {index ci k x : Nat} {fs : List Value} {ty : FieldType} (hdg : decode cc pc = .ok (.putfield index, 3)) (hf : zFl own index ci k) (hp : zFp ci k true ty) (hty2 : (∃ n, ty = .object n) ∨ ∃ t, ty = .array t) (hown2 : ∃ T N, vwCl[ci]? = some (own, T, N)) (hl0 : k < fs.length) (hx : x < w.length + L.length) (hB : zNB w b (.inr (ci, fs)) L)
    (kk : zNB w b (.inr (ci, fs.set k (.ref x))) L → zR C τ ι nL kc ks (pc + 3) lv st (zN w b (.inr (ci, fs.set k (.ref x))) L)) : zR C τ ι nL kc ks pc lv (.ref x :: .ref b :: st) (zN w b (.inr (ci, fs)) L) := by
  have hnm : C.2.2.2.2.2.2.2.2.1.name = "<init>" := by
    obtain ⟨p, l, e, R', s, m, args, below, meth, c, D, A, H0, Q⟩ := C
    exact hO.2.2.2.1
  refine zr_putF hC hnm hdg hf hp hty2 hown2 (zN_at hB.1) hl0 ?_
  rw [zN_set hB.1]
  exact kk (hB.own hx)
end ZF
