/-! CELLS THAT COME: the judgement zR while the list of cells grows; a place's address is told when it comes -/
def zvb (n : Nat) : Value → Prop
  | .ref a => a < n
  | _ => True
def zeb (n : Nat) (e : va_E) : Prop := (∀ t m f, e = .inl (t, m, .inr (.inr (.inr (.inr f)))) → ∀ j x, j < m → f j = some x → x < n) ∧ ∀ ci fs, e = .inr (ci, fs) → ∀ v ∈ fs, zvb n v
def zBd (n : Nat) (w : List va_E) : Prop := ∀ e ∈ w, zeb n e
theorem zvb.up {n n' : Nat} {v : Value} (h : zvb n v) (hn : n ≤ n') : zvb n' v := by
  cases v <;> first | trivial | exact Nat.lt_of_lt_of_le h hn
theorem zeb.up {n n' : Nat} {e : va_E} (h : zeb n e) (hn : n ≤ n') : zeb n' e := ⟨fun t m f he j x hj hf => Nat.lt_of_lt_of_le (h.1 t m f he j x hj hf) hn, fun ci fs he v hv => (h.2 ci fs he v hv).up hn⟩
theorem zBd.up {n n' : Nat} {w : List va_E} (h : zBd n w) (hn : n ≤ n') : zBd n' w := fun e he => (h e he).up hn
theorem zBd.push {n : Nat} {w : List va_E} {e : va_E} (h : zBd n w) (he : zeb n e) : zBd n (w ++ [e]) := fun x hx => by
  rcases List.mem_append.mp hx with q | q
  · exact h x q
  · rw [List.mem_singleton.mp q]; exact he
theorem zBd.set {n k : Nat} {w : List va_E} {e : va_E} (h : zBd n w) (he : zeb n e) : zBd n (w.set k e) := fun x hx => by
  rcases List.mem_or_eq_of_mem_set hx with q | q
  · exact h x q
  · rw [q]; exact he
theorem zcv_ag {ι ι' : Nat → Nat} {n : Nat} (h : ∀ k, k < n → ι' k = ι k) {v : Value} (hv : zvb n v) : zcv ι' v = zcv ι v := by
  cases v <;> first | rfl | (show Value.ref _ = Value.ref _; rw [h _ hv])
theorem zca_ag {ι ι' : Nat → Nat} {τ : Nat → ClassId} {n : Nat} (h : ∀ k, k < n → ι' k = ι k) {e : va_E} (he : zeb n e) : zca ι' τ e = zca ι τ e := by
  rcases e with ⟨t, m, x⟩ | ⟨ci, fs⟩
  · rcases x with x | x | x | x | f
    · rfl
    · rfl
    · rfl
    · rfl
    · rw [zca_q, zca_q]
      have e1 : (fun j => if j < m then (f j).map ι' else none) = fun j => if j < m then (f j).map ι else none := funext fun j => by
        by_cases hj : j < m
        · rw [if_pos hj, if_pos hj]
          cases hf : f j with
          | none => rfl
          | some x => show some (ι' x) = some (ι x); rw [h x (he.1 t m f rfl j x hj hf)]
        · rw [if_neg hj, if_neg hj]
      rw [e1]
  · rw [zca_o, zca_o, List.map_congr_left (fun v hv => zcv_ag h (he.2 ci fs rfl v hv))]
theorem zW_ag {ι ι' : Nat → Nat} {τ : Nat → ClassId} {w : List va_E} (h : ∀ k, k < w.length → ι' k = ι k) (hw : zBd w.length w) : zW ι' τ w = zW ι τ w := by
  apply List.ext_getElem?
  intro k
  simp only [zW, List.getElem?_mapIdx]
  cases hk : w[k]? with
  | none => rfl
  | some e =>
    have hl : k < w.length := (List.getElem?_eq_some_iff.mp hk).1
    show some (ι' k, zca ι' τ e) = some (ι k, zca ι τ e)
    rw [h k hl, zca_ag h (hw e (List.mem_of_getElem? hk))]
theorem zW_push {ι ι' : Nat → Nat} {τ : Nat → ClassId} {w : List va_E} {e : va_E} (h : ∀ k, k < w.length → ι' k = ι k) (hw : zBd w.length w) : zW ι' τ (w ++ [e]) = zW ι τ w ++ [(ι' w.length, zca ι' τ e)] := by
  rw [← zW_ag h hw]
  unfold zW
  rw [List.mapIdx_append]
  simp
theorem zlv_ag {ι ι' : Nat → Nat} {n : Nat} (h : ∀ k, k < n → ι' k = ι k) {lv : List (Nat × Value)} (hl : ∀ q ∈ lv, zvb n q.2) : zlv ι' lv = zlv ι lv := List.map_congr_left (fun q hq => by rw [zcv_ag h (hl q hq)])
theorem zst_ag {ι ι' : Nat → Nat} {n : Nat} (h : ∀ k, k < n → ι' k = ι k) {st : List Value} (hl : ∀ v ∈ st, zvb n v) : st.map (zcv ι') = st.map (zcv ι) := List.map_congr_left (fun q hq => zcv_ag h (hl q hq))
def zext (ι : Nat → Nat) (n q : Nat) : Nat → Nat := fun k => if k = n then q else ι k
theorem zext_ag {ι : Nat → Nat} {n q : Nat} : ∀ k, k < n → zext ι n q k = ι k := fun k hk => if_neg (by omega)
theorem zext_at {ι : Nat → Nat} {n q : Nat} : zext ι n q n = q := if_pos rfl
/-- what a 'new' wants to know of its class -/
def zNw1 (own : String) (index ci N : Nat) (fs : List Value) : Prop := ∃ (Cn : String) (T : u_T) (ty : Nat → FieldType), vwCl[ci]? = some (Cn, T, N) ∧ (∀ w ∈ u_ws Cn T N, w ∈ zT) ∧ (∀ k, k < N → parseFieldDescriptor (T k).2.2.1 = some (ty k)) ∧ (∀ j, j < N → defaultValue (ty j) = vp_V fs j) ∧ Cond.classLink own index Cn ∈ zT ∧ Cond.instantiable Cn N ∈ zT ∧ Cond.initialized Cn ∈ zT
theorem znoref {ι : Nat → Nat} {fs : List Value} (h : ∀ v ∈ fs, ∀ a, v ≠ .ref a) : fs.map (zcv ι) = fs := by
  have e : fs.map (zcv ι) = fs.map id := List.map_congr_left (fun v hv => by cases v <;> first | rfl | exact absurd rfl (h _ hv _))
  rw [e, List.map_id]
section ZG
variable {C : zCx} {τ : Nat → ClassId} {ι : Nat → Nat} {own : String} {cc : ByteArray} {nL kc ks pc d mc ms : Nat} {lv : List (Nat × Value)} {st : List Value} {w : List va_E}
theorem zr_new (hC : zOK C τ (zrm d mc ms) own cc nL) {index ci N : Nat} {fs : List Value} (hdg : decode cc pc = .ok (.new index, 3)) (hN : zNw1 own index ci N fs) (hno : ∀ v ∈ fs, ∀ a, v ≠ .ref a) (hkc : kc + 1 ≤ mc) (hks : ks + N ≤ ms) (hw : zBd w.length w) (hl : ∀ q ∈ lv, zvb w.length q.2) (hst : ∀ v ∈ st, zvb w.length v)
    (kk : ∀ ι', (∀ k, k < w.length → ι' k = ι k) → zR C τ ι' nL (kc + 1) (ks + N) (pc + 3) lv (.ref w.length :: st) (w ++ [.inr (ci, fs)])) : zR C τ ι nL kc ks pc lv st w := by
  obtain ⟨Cn, T, ty, hc, hin, hty, hdef, hcl, hinst, hini⟩ := hN
  obtain ⟨p, l, e, R', s, m, args, below, meth, c, D, A, H0, Q⟩ := C
  obtain ⟨hx, hb, hml, hown, hts, hK, hNw, hR, hlk, hA⟩ := hC
  subst hR
  intro H locs ls hP hD hS hlv
  refine va_new (ci := ci) (fs := fs) hx hb hts hin ty hty hown (hts _ hcl) (hts _ hinst) (hts _ hini) hK hP hD hS hA hc hdef (by exact hkc) (by exact hks) hdg (fun q H1 hP1 hD1 hS1 => ?_)
  have hag : ∀ k, k < w.length → zext ι w.length q k = ι k := zext_ag
  have e1 : zW (zext ι w.length q) τ (w ++ [.inr (ci, fs)]) = zW ι τ w ++ [(q, .inr (ci, fs))] := by
    rw [zW_push hag hw, zext_at, zca_o, znoref hno]
  have k1 := kk (zext ι w.length q) hag H1 locs ls (by rw [e1]; exact hP1) (by rw [e1]; exact hD1) hS1 (by rw [zlv_ag hag hl]; exact hlv)
  have e2 : (Value.ref w.length :: st).map (zcv (zext ι w.length q)) = .ref q :: st.map (zcv ι) := by
    rw [List.map_cons, zst_ag hag hst]
    show Value.ref (zext ι w.length q w.length) :: _ = _
    rw [zext_at]
  rw [e2] at k1
  exact k1
theorem zr_newa (hC : zOK C τ (zrm d mc ms) own cc nL) {atype : ArrayType} {t N : Nat} {n : Int32} {a0 : vp_A} (hdg : decode cc pc = .ok (.newarray atype, 2)) (ht4 : t < 4) (hty : newarray.typeOf atype = zty t) (harr : Cond.arrayClass (newarray.typeOf atype) ∈ zT) (ha : ∀ cA : ClassId, vp_cell cA a0 = arrV cA N (fun _ => defaultValue (zty t))) (hz : ∀ ι2, zca ι2 τ (.inl (t, a0)) = .inl (τ t, a0)) (hn : ¬ n < 0) (hN : n.toNatClampNeg = N) (hbytes : N * componentBytes (zty t) ≤ 536870912) (hkc : kc + 1 ≤ mc) (hks : ks + N ≤ ms) (hw : zBd w.length w) (hl : ∀ q ∈ lv, zvb w.length q.2) (hst : ∀ v ∈ st, zvb w.length v)
    (kk : ∀ ι', (∀ k, k < w.length → ι' k = ι k) → zR C τ ι' nL (kc + 1) (ks + N) (pc + 2) lv (.ref w.length :: st) (w ++ [.inl (t, a0)])) : zR C τ ι nL kc ks pc lv (.int n :: st) w := by
  obtain ⟨p, l, e, R', s, m, args, below, meth, c, D, A, H0, Q⟩ := C
  obtain ⟨hx, hb, hml, hown, hts, hK, hNw, hR, hlk, hA⟩ := hC
  subst hR
  intro H locs ls hP hD hS hlv
  refine va_newa hx hb (hts _ harr) hty hK hP hD hS hA ha hn hN hbytes (by exact hkc) (by exact hks) hdg (fun q cA H1 hK1 hP1 hD1 hS1 => ?_)
  have e0 : cA = τ t := by
    have h2 : va_RA s cA (zty t) := (hK1.2 6 (cA, zty t) rfl).2
    rcases (by omega : t = 0 ∨ t = 1 ∨ t = 2 ∨ t = 3) with rfl | rfl | rfl | rfl
    · exact Option.some.inj ((show s.vm.findClass _ = some cA from h2).symm.trans (show s.vm.findClass _ = some (τ 0) from (hK.2 0 (τ 0, .int) rfl).2))
    · exact Option.some.inj ((show s.vm.findClass _ = some cA from h2).symm.trans (show s.vm.findClass _ = some (τ 1) from (hK.2 1 (τ 1, .long) rfl).2))
    · exact Option.some.inj ((show s.vm.findClass _ = some cA from h2).symm.trans (show s.vm.findClass _ = some (τ 2) from (hK.2 2 (τ 2, .boolean) rfl).2))
    · exact Option.some.inj ((show s.vm.findClass _ = some cA from h2).symm.trans (show s.vm.findClass _ = some (τ 3) from (hK.2 3 (τ 3, .char) rfl).2))
  subst e0
  have hag : ∀ k, k < w.length → zext ι w.length q k = ι k := zext_ag
  have e1 : zW (zext ι w.length q) τ (w ++ [.inl (t, a0)]) = zW ι τ w ++ [(q, .inl (τ t, a0))] := by
    rw [zW_push hag hw, zext_at, hz]
  have k1 := kk (zext ι w.length q) hag H1 locs ls (by rw [e1]; exact hP1) (by rw [e1]; exact hD1) hS1 (by rw [zlv_ag hag hl]; exact hlv)
  have e2 : (Value.ref w.length :: st).map (zcv (zext ι w.length q)) = .ref q :: st.map (zcv ι) := by
    rw [List.map_cons, zst_ag hag hst]
    show Value.ref (zext ι w.length q w.length) :: _ = _
    rw [zext_at]
  rw [e2] at k1
  exact k1
end ZG
