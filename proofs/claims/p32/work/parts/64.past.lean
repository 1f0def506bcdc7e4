/-! THE CONSTRUCTOR of what may be undone: six books -/
theorem zl2 {n k b : Nat} {x : Int32} (h : b < n) : ∀ q ∈ ([(0, .ref b), (1, .int x)] : List (Nat × Value)), zvb (n + k) q.2 := fun q hq => by
  rcases List.mem_cons.mp hq with rfl | hq
  · exact Nat.lt_of_lt_of_le h (Nat.le_add_right _ _)
  · obtain rfl := List.mem_singleton.mp hq
    exact True.intro
theorem zs2i {n k j : Nat} {x : Int32} (hj : j < k) : ∀ v ∈ ([.int x, .ref (n + j)] : List Value), zvb (n + k) v := fun q hq => by
  rcases List.mem_cons.mp hq with rfl | hq
  · exact True.intro
  · obtain rfl := List.mem_singleton.mp hq
    exact Nat.add_lt_add_left hj n
theorem zs3i {n k j i : Nat} {x : Int32} (hj : j < k) (hi : i < k) : ∀ v ∈ ([.ref (n + i), .int x, .ref (n + j)] : List Value), zvb (n + k) v := fun q hq => by
  rcases List.mem_cons.mp hq with rfl | hq
  · exact Nat.add_lt_add_left hi n
  · exact zs2i hj q hq
abbrev bk00 : va_E := .inr (0, [.null, .null, .null, .int 0, .int 0, .int 0, .int 0, .int 0, .null, .null, .null])
/-- a book at m -/
def bk (m : Nat) : List va_E := obX0_init (m + 1) :: LxX0_init (m + 1)
def bks (m : Nat) : Nat → List va_E
  | 0 => []
  | t + 1 => bks m t ++ bk (m + 16 * t)
theorem bks_len (m : Nat) : ∀ t, (bks m t).length = 16 * t
  | 0 => rfl
  | t + 1 => by
    unfold bks
    rw [List.length_append, bks_len m t]
    show 16 * t + 16 = _
    omega
def pf (n t : Nat) : Nat → Option Nat := fun j => if j < t then some (n + 1 + 16 * j) else none
theorem pf_0 (n : Nat) : pf n 0 = fun _ => none := funext fun j => if_neg (Nat.not_lt_zero j)
theorem pf_s (n t : Nat) : va_up (pf n t) t (some (n + 1 + 16 * t)) = pf n (t + 1) := funext fun j => by
  by_cases q : j = t
  · subst q; rw [va_up_self]; exact (if_pos (Nat.lt_succ_self j)).symm
  · rw [va_up_ne _ _ q]
    unfold pf
    by_cases h : j < t
    · rw [if_pos h, if_pos (by omega)]
    · rw [if_neg h, if_neg (by omega)]
abbrev obX3_init (n : Nat) : va_E := .inr (3, [.ref n, .int 0, .int 0])
abbrev LxX3_init (n : Nat) : List va_E := zqa 4 6 (pf n 6) :: bks (n + 1) 6
section ZI
variable {C : zCx} {τ : Nat → ClassId} {ι : Nat → Nat} {own : String} {cc : ByteArray} {nL kc ks pc d mc ms : Nat} {lv : List (Nat × Value)} {st : List Value} {w : List va_E} {b : Nat} {e : va_E} {L : List va_E} {Q0 : List va_E → Prop} {ι0 : Nat → Nat} {n0 mcq msq : Nat}
theorem zo_anewa (hC : zOK C τ (zrm d mc ms) own cc nL) (hO : zRetN C τ ι0 n0 mcq msq Q0) {index t N : Nat} {Cn : String} {n : Int32} (hdg : decode cc pc = .ok (.anewarray index, 3)) (ht : (t = 4 ∧ Cn = RX0) ∨ (t = 5 ∧ Cn = RX6)) (hcl : Cond.classLink own index Cn ∈ zT) (hn : ¬ n < 0) (hN : n.toNatClampNeg = N) (hbytes : N * 4 ≤ 536870912) (hkc : kc + 1 ≤ mc) (hks : ks + N ≤ ms) (hB : zNB w b e L) (hag : ∀ k, k < w.length → ι k = ι0 k) (hl : ∀ q ∈ lv, zvb (w.length + L.length) q.2) (hst : ∀ v ∈ st, zvb (w.length + L.length) v)
    (kk : ∀ ι', (∀ k, k < w.length → ι' k = ι0 k) → zNB w b e (L ++ [zqa t N (fun _ => none)]) → zR C τ ι' nL (kc + 1) (ks + N) (pc + 3) lv (.ref (w.length + L.length) :: st) (zN w b e (L ++ [zqa t N (fun _ => none)]))) : zR C τ ι nL kc ks pc lv (.int n :: st) (zN w b e L) := by
  refine zr_anewa hC hO hdg ht hcl hn hN hbytes hkc hks hB.bd (by rw [zN_len]; exact hl) (by rw [zN_len]; exact hst) (fun ι' h => ?_)
  rw [zN_len, zN_push]
  exact kk ι' (fun k hk => (h k (by rw [zN_len]; omega)).trans (hag k hk)) (hB.push (zeb_q (fun j x _ hf => by cases hf)))
/-- a place of a new array of references is filled -/
theorem zo_aast (hC : zOK C τ (zrm d mc ms) own cc nL) {j i x t n ci : Nat} {f : Nat → Option Nat} {fs : List Value} (hdg : decode cc pc = .ok (.aastore, 1)) (ht : (t = 4 ∧ ci = 0) ∨ (t = 5 ∧ ci = 6)) (hB : zNB w b e L) (he : L[j]? = some (zqa t n f)) (hv : L[x]? = some (.inr (ci, fs))) (hi : i < n) (hn : n < 1000)
    (kk : zNB w b e (L.set j (zqa t n (va_up f i (some (w.length + x))))) → zR C τ ι nL kc ks (pc + 1) lv st (zN w b e (L.set j (zqa t n (va_up f i (some (w.length + x))))))) : zR C τ ι nL kc ks pc lv (.ref (w.length + x) :: .int (nI i) :: .ref (w.length + j) :: st) (zN w b e L) := by
  refine zr_aast hC hdg ht (zN_new.trans he) (zN_new.trans hv) (vp_in_n hi (by omega)) ?_
  rw [nI_toNat (by omega), zN_setn]
  have hx : x < L.length := (List.getElem?_eq_some_iff.mp hv).1
  have h2 := hB.call (j := j) (y := zqa t n (va_up f i (some (w.length + x)))) (M := []) (zeb_q (fun k y hk hf => by
    by_cases q : k = i
    · subst q; rw [va_up_self] at hf; cases hf; exact Nat.add_lt_add_left (by simpa using hx) _
    · rw [va_up_ne _ _ q] at hf
      have h3 := (hB.2.2.2 _ (List.mem_of_getElem? he)).1 t n f rfl k y hk hf
      simpa using h3)) (fun x hx => by cases hx)
  rw [List.append_nil] at h2
  exact kk h2
end ZI
set_option maxHeartbeats 1000000 in
theorem l3_init {C : zCx} {τ : Nat → ClassId} (hC : zOK C τ (zrm 3 97 8538) yX3_init.cls cX3_init 2) {w : List va_E} {b : Nat} {Qr : List va_E → Prop} {ι0 : Nat → Nat} (hE : zRetN C τ ι0 w.length 97 8538 Qr) (hQ : Qr (zN w b (obX3_init w.length) (LxX3_init w.length))) : ∀ (d t : Nat) (ι : Nat → Nat), t + d = 6 → (∀ k, k < w.length → ι k = ι0 k) → zNB w b (obX3_init w.length) (zqa 4 6 (pf w.length t) :: bks (w.length + 1) t) → zR C τ ι 2 (1 + 16 * t) (6 + 1422 * t) 15 [(0, .ref b), (1, .int (nI t))] [] (zN w b (obX3_init w.length) (zqa 4 6 (pf w.length t) :: bks (w.length + 1) t)) := by
  intro d
  induction d with
  | zero =>
    intro t ι ht hag hB
    obtain rfl : t = 6 := by omega
    refine zr_iload_n hC dX3_init_15 rfl ?_
    refine zk_bipush hC dX3_init_16 (v := nI 6) (by decide +kernel) ?_
    refine zr_icmp_ge hC dX3_init_18 (tgt := 40) (by decide) (fun c_18 => ?_) (fun c => absurd c (not_not_intro (nI_le (Nat.le_refl _) (by decide))))
    exact zr_vretN hC hE hag (by decide) (by decide) dX3_init_40 hQ
  | succ d ih =>
    intro t ι ht hag hB
    have hlen : (zqa 4 6 (pf w.length t) :: bks (w.length + 1) t).length = 1 + 16 * t := by rw [List.length_cons, bks_len]; omega
    generalize hLe : zqa 4 6 (pf w.length t) :: bks (w.length + 1) t = L at *
    have hj0 : L[0]? = some (zqa 4 6 (pf w.length t)) := by rw [← hLe]; rfl
    refine zr_iload_n hC dX3_init_15 rfl ?_
    refine zk_bipush hC dX3_init_16 (v := nI 6) (by decide +kernel) ?_
    refine zr_icmp_ge hC dX3_init_18 (tgt := 40) (by decide) (fun c => absurd c (nI_ge (by omega) (by decide))) (fun c_18 => ?_)
    refine zr_aload_n hC dX3_init_21 rfl ?_
    refine zr_getf hC dX3_init_22 fl_X3_11 (zN_at hB.1) (v := .ref (w.length + 0)) rfl ?_
    refine zr_iload_n hC dX3_init_25 rfl ?_
    refine zo_new hC dX3_init_26 nw_X3_9 (by simp) (by omega) (by omega) hB hag (zl2 hB.1) (zs2i (by omega)) (fun ι hag hB => ?_)
    refine zr_dup hC dX3_init_29 rfl ?_
    refine zo_ini hC hE dX3_init_30 ml_X3_17 mtX0_init tX0_init gX0_init (by decide) (by omega) (by omega) (by simp [Value.category]) hB (by simp) hag (zl2 hB.1) (zs3i (by simp) (by simp)) (fun ι hag hB => ?_)
    have eL : (L ++ [bk00]).set L.length (obX0_init (w.length + (L ++ [bk00]).length)) ++ LxX0_init (w.length + (L ++ [bk00]).length) = L ++ bk (w.length + 1 + 16 * t) := by
      rw [List.set_append_right _ _ (Nat.le_refl _), Nat.sub_self, List.length_append, hlen]
      show (L ++ [obX0_init (w.length + (1 + 16 * t + 1))]) ++ LxX0_init (w.length + (1 + 16 * t + 1)) = L ++ (obX0_init (w.length + 1 + 16 * t + 1) :: LxX0_init (w.length + 1 + 16 * t + 1))
      rw [show w.length + (1 + 16 * t + 1) = w.length + 1 + 16 * t + 1 by omega, List.append_assoc]
      rfl
    rw [eL] at hB ⊢
    refine zo_aast hC dX3_init_33 (Or.inl ⟨rfl, rfl⟩) hB (f := pf w.length t) (n := 6) (by rw [List.getElem?_append_left (by omega)]; exact hj0) (fs := [.ref (w.length + 1 + 16 * t + 1), .ref (w.length + 1 + 16 * t + 1 + 3), .ref (w.length + 1 + 16 * t + 1 + 8), .int 0, .int 0, .int 0, .int 0, .int (nI 1), .ref (w.length + 1 + 16 * t + 1 + 12), .ref (w.length + 1 + 16 * t + 1 + 13), .ref (w.length + 1 + 16 * t + 1 + 14)]) (by rw [List.getElem?_append_right (Nat.le_refl _), Nat.sub_self]; rfl) (by omega) (by decide) (fun hB => ?_)
    have e2 : (L ++ bk (w.length + 1 + 16 * t)).set 0 (zqa 4 6 (va_up (pf w.length t) t (some (w.length + L.length)))) = zqa 4 6 (pf w.length (t + 1)) :: bks (w.length + 1) (t + 1) := by
      rw [hlen, show w.length + (1 + 16 * t) = w.length + 1 + 16 * t by omega, pf_s, ← hLe]
      rfl
    rw [e2] at hB ⊢
    refine zn_iinc hC dX3_init_34 rfl (by decide) (zk_inc _ 1) ?_
    refine zr_goto hC dX3_init_37 (tgt := 15) (by decide) ?_
    have i2 := ih (t + 1) ι (by omega) hag hB
    rw [show 1 + 16 * (t + 1) = 1 + 16 * t + 1 + 15 by omega, show 6 + 1422 * (t + 1) = 6 + 1422 * t + 11 + 1411 by omega] at i2
    exact zR_sub [(0, .ref b), (1, .int (nI (t + 1)))] ⟨rfl, rfl, trivial⟩ i2
