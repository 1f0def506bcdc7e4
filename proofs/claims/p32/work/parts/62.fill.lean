/-! THE CONSTRUCTORS of keys, book; filling an array in any list of cells -/
def flN (f : Nat → Int32) (x : Int32) (i : Nat) : Nat → Int32 := fun k => if k < i then x else f k
theorem flN_0 (f : Nat → Int32) (x : Int32) : flN f x 0 = f := funext fun k => if_neg (Nat.not_lt_zero k)
theorem flN_s (f : Nat → Int32) (x : Int32) (i : Nat) : upd (flN f x i) i x = flN f x (i + 1) := funext fun k => by
  by_cases q : k = i
  · subst q; rw [pk_us]; exact (if_pos (Nat.lt_succ_self k)).symm
  · rw [pk_un q]
    unfold flN
    by_cases h : k < i
    · rw [if_pos h, if_pos (by omega)]
    · rw [if_neg h, if_neg (by omega)]
set_option maxHeartbeats 1000000 in
theorem lF {C : zCx} {τ : Nat → ClassId} {ι : Nat → Nat} (hC : zOK C τ (zrm 0 0 0) yJ7_fill_53178.cls cJ7_fill_53178 4) {a n : Nat} {f : Nat → Int32} {x : Int32} {w : List va_E} (hn : n ≤ 5000) (ha : a < w.length) (k : ∀ lv, zR C τ ι 4 0 0 20 lv [] (w.set a (zaI n (flN f x n)))) : ∀ d i, i + d = n → zR C τ ι 4 0 0 5 [(0, .ref a), (1, .int x), (2, .int (nI i)), (3, .int (nI n))] [] (w.set a (zaI n (flN f x i))) := by
  intro d
  induction d with
  | zero =>
    intro i hi
    have hi : i = n := by omega
    subst hi
    refine zr_iload_n hC dJ7_fill_53178_5 rfl ?_
    refine zr_iload_n hC dJ7_fill_53178_6 rfl ?_
    refine zr_icmp_ge hC dJ7_fill_53178_7 (tgt := 20) (by decide) (fun c_7 => ?_) (fun c => absurd c (by intro h; exact h (nI_le (Nat.le_refl _) (by omega))))
    exact k _
  | succ d ih =>
    intro i hi
    refine zr_iload_n hC dJ7_fill_53178_5 rfl ?_
    refine zr_iload_n hC dJ7_fill_53178_6 rfl ?_
    refine zr_icmp_ge hC dJ7_fill_53178_7 (tgt := 20) (by decide) (fun c => absurd c (nI_ge (by omega) (by omega))) (fun c_7 => ?_)
    refine zr_aload_n hC dJ7_fill_53178_10 rfl ?_
    refine zr_iload_n hC dJ7_fill_53178_11 rfl ?_
    refine zr_iload_n hC dJ7_fill_53178_12 rfl ?_
    refine zr_iast hC dJ7_fill_53178_13 (List.getElem?_set_self ha) (vp_in_n (show i < n by omega) (by omega)) ?_
    rw [nI_toNat (by omega), List.set_set, flN_s]
    refine zn_iinc hC dJ7_fill_53178_14 rfl (by decide) (zk_inc _ 1) ?_
    refine zr_goto hC dJ7_fill_53178_17 (tgt := 5) (by decide) ?_
    exact zR_sub [(0, .ref a), (1, .int x), (2, .int (nI (i + 1))), (3, .int (nI n))] ⟨rfl, rfl, rfl, rfl, trivial⟩ (ih (i + 1) (by omega))
def spF : List Value → List va_E → (Option Value → List va_E → Prop) → Prop := fun av w Qr => ∃ (a n : Nat) (f : Nat → Int32) (x : Int32), av = [.ref a, .int x] ∧ w[a]? = some (zaI n f) ∧ n ≤ 5000 ∧ Qr none (w.set a (zaI n (flN f x n)))
set_option maxHeartbeats 1000000 in
theorem tF : zMet yJ7_fill_53178 cJ7_fill_53178 4 none 0 spF := by
  refine zMet.of (by decide) (by decide) (fun av w Qr h => by obtain ⟨a, n, f, x, rfl, -⟩ := h; exact Nat.le_of_ble_eq_true rfl) (fun C τ ι av w Qr h hC hE => ?_)
  obtain ⟨a, n, f, x, rfl, hw, hn, hQ⟩ := h
  have ha : a < w.length := (List.getElem?_eq_some_iff.mp hw).1
  show zR C τ ι _ 0 0 0 [(0, .ref a), (1, .int x)] [] _
  refine zk_iconst hC dJ7_fill_53178_0 (v := nI 0) (by decide +kernel) ?_
  refine zr_istore_n hC dJ7_fill_53178_1 (by decide) ?_
  refine zr_aload_n hC dJ7_fill_53178_2 rfl ?_
  refine zr_alen hC dJ7_fill_53178_3 (by decide) hw ?_
  refine zr_istore_n hC dJ7_fill_53178_4 (by decide) ?_
  refine zR_sub [(0, .ref a), (1, .int x), (2, .int (nI 0)), (3, .int (nI n))] ⟨rfl, rfl, rfl, rfl, trivial⟩ ?_
  have h0 := lF hC (ι := ι) (f := f) (x := x) hn ha (fun lv => zr_vreturn hC hE dJ7_fill_53178_20 hQ) n 0 (by omega)
  have e : w.set a (zaI n f) = w := by
    have := zN_0 hw
    unfold zN at this
    rwa [List.append_nil] at this
  rw [flN_0, e] at h0
  exact h0
section ZH
variable {C : zCx} {τ : Nat → ClassId} {ι : Nat → Nat} {own : String} {cc : ByteArray} {nL kc ks pc d mc ms : Nat} {lv : List (Nat × Value)} {st : List Value} {w : List va_E} {b : Nat} {e : va_E} {L : List va_E} {Q0 : List va_E → Prop} {ι0 : Nat → Nat} {n0 mcq msq : Nat}
def zGood (ob : Nat → va_E) (Lx : Nat → List va_E) : Prop := ∀ N, zeb (N + (Lx N).length) (ob N) ∧ ∀ x ∈ Lx N, zeb (N + (Lx N).length) x
theorem zo_end {w : List va_E} {b j : Nat} {e y : va_E} {L M : List va_E} : zN (zN w b e L) (w.length + j) y M = zN w b e (L.set j y ++ M) := by
  show (zN w b e L).set (w.length + j) y ++ M = _
  rw [zN_setn, zN_push]
theorem zNB.ini {ob : Nat → va_E} {Lx : Nat → List va_E} {j : Nat} (hB : zNB w b e L) (hG : zGood ob Lx) : zNB w b e (L.set j (ob (w.length + L.length)) ++ Lx (w.length + L.length)) := by
  obtain ⟨h1, h2⟩ := hG (w.length + L.length)
  refine hB.call (by rw [← Nat.add_assoc]; exact h1) (fun x hx => by rw [← Nat.add_assoc]; exact h2 x hx)
theorem zo_ini (hC : zOK C τ (zrm d mc ms) own cc nL) (hO : zRetN C τ ι0 n0 mcq msq Q0) {y : MethodName} {bytes : ByteArray} {maxL d' index j ci mc' ms' : Nat} {fs : List Value} {ob : Nat → va_E} {Lx : Nat → List va_E} {rest : List Value} (hdg : decode cc pc = .ok (.invokespecial index, 3)) (hlink : Cond.methodLink own index y ∈ zT) (hm : zMi y bytes maxL 0) (hM : zMetN y bytes maxL d' mc' ms' (zIni ci fs ob Lx)) (hG : zGood ob Lx) (hd : d' + 1 ≤ d) (hkc : kc + mc' ≤ mc) (hks : ks + ms' ≤ ms) (hrest : (rest.map fun v => v.category).sum ≤ 8) (hB : zNB w b e L) (hj : L[j]? = some (.inr (ci, fs))) (hag : ∀ k, k < w.length → ι k = ι0 k) (hl : ∀ q ∈ lv, zvb (w.length + L.length) q.2) (hst : ∀ v ∈ rest, zvb (w.length + L.length) v)
    (kk : ∀ ι', (∀ k, k < w.length → ι' k = ι0 k) → zNB w b e (L.set j (ob (w.length + L.length)) ++ Lx (w.length + L.length)) → zR C τ ι' nL (kc + mc') (ks + ms') (pc + 3) lv rest (zN w b e (L.set j (ob (w.length + L.length)) ++ Lx (w.length + L.length)))) : zR C τ ι nL kc ks pc lv (.ref (w.length + j) :: rest) (zN w b e L) := by
  refine zr_callI hC hO hdg hlink hm hM hd hkc hks hrest (by rw [zN_len]; exact hl) (by rw [zN_len]; exact hst) ⟨_, rfl, zN_new.trans hj, hB.bd, fun ι' h => ?_⟩
  rw [zo_end, zN_len]
  exact kk ι' (fun k hk => (h k (by rw [zN_len]; omega)).trans (hag k hk)) (hB.ini hG)
theorem zo_iniN (hC : zOK C τ (zrm d mc ms) own cc nL) (hO : zRetN C τ ι0 n0 mcq msq Q0) {y : MethodName} {bytes : ByteArray} {host : String} {maxL d' index j ci mc' ms' : Nat} {fs : List Value} {ob : Nat → va_E} {Lx : Nat → List va_E} {rest : List Value} (hdg : decode cc pc = .ok (.invokespecial index, 3)) (hlink : Cond.methodLinkNest own index y host ∈ zNest) (hm : zMi y bytes maxL 0) (hM : zMetN y bytes maxL d' mc' ms' (zIni ci fs ob Lx)) (hG : zGood ob Lx) (hd : d' + 1 ≤ d) (hkc : kc + mc' ≤ mc) (hks : ks + ms' ≤ ms) (hrest : (rest.map fun v => v.category).sum ≤ 8) (hB : zNB w b e L) (hj : L[j]? = some (.inr (ci, fs))) (hag : ∀ k, k < w.length → ι k = ι0 k) (hl : ∀ q ∈ lv, zvb (w.length + L.length) q.2) (hst : ∀ v ∈ rest, zvb (w.length + L.length) v)
    (kk : ∀ ι', (∀ k, k < w.length → ι' k = ι0 k) → zNB w b e (L.set j (ob (w.length + L.length)) ++ Lx (w.length + L.length)) → zR C τ ι' nL (kc + mc') (ks + ms') (pc + 3) lv rest (zN w b e (L.set j (ob (w.length + L.length)) ++ Lx (w.length + L.length)))) : zR C τ ι nL kc ks pc lv (.ref (w.length + j) :: rest) (zN w b e L) := by
  refine zr_callIN hC hO hdg hlink hm hM hd hkc hks hrest (by rw [zN_len]; exact hl) (by rw [zN_len]; exact hst) ⟨_, rfl, zN_new.trans hj, hB.bd, fun ι' h => ?_⟩
  rw [zo_end, zN_len]
  exact kk ι' (fun k hk => (h k (by rw [zN_len]; omega)).trans (hag k hk)) (hB.ini hG)
/-- a new array is filled -/
theorem zo_fill (hC : zOK C τ (zrm d mc ms) own cc nL) {index j n : Nat} {f : Nat → Int32} {x : Int32} {rest : List Value} (hdg : decode cc pc = .ok (.invokestatic index, 3)) (hlink : Cond.methodLink own index yJ7_fill_53178 ∈ zT) (hd : 1 ≤ d) (hkc : kc ≤ mc) (hks : ks ≤ ms) (hrest : (rest.map fun v => v.category).sum ≤ 8) (hB : zNB w b e L) (hj : L[j]? = some (zaI n f)) (hn : n ≤ 5000)
    (kk : zNB w b e (L.set j (zaI n (flN f x n))) → zR C τ ι nL kc ks (pc + 3) lv rest (zN w b e (L.set j (zaI n (flN f x n))))) : zR C τ ι nL kc ks pc lv (.int x :: .ref (w.length + j) :: rest) (zN w b e L) := by
  refine zr_callS hC (As := [.ref (w.length + j), .int x]) hdg hlink mtJ7_fill_53178 tF hd hkc hks rfl hrest ⟨_, _, _, _, rfl, zN_new.trans hj, hn, ?_⟩ rfl
  rw [zN_setn]
  have h2 := hB.call (j := j) (y := zaI n (flN f x n)) (M := []) zeb_i (fun x hx => by cases hx)
  rw [List.append_nil] at h2
  exact kk h2
end ZH
