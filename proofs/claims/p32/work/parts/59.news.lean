/-! NEW OBJECTS, new arrays of references; the words for them -/
theorem zT_d {w : Cond} (h : w ∈ lw_tbl) (g : goodWord w = true) : w ∈ zT := List.mem_filter.mpr ⟨h, g⟩
theorem oI_i : Cond.instanceMethod objectInit ∈ zT := zT_d (by decide +kernel) (by decide +kernel)
theorem oI_c : Cond.code objectInit ⟨#[0xb1]⟩ 1 none ∈ zT := zT_d (by decide +kernel) (by decide +kernel)
theorem aw_int : Cond.arrayClass .int ∈ zT := zT_d (by decide +kernel) (by decide +kernel)
theorem aw_long : Cond.arrayClass .long ∈ zT := zT_d (by decide +kernel) (by decide +kernel)
theorem aw_bool : Cond.arrayClass .boolean ∈ zT := zT_d (by decide +kernel) (by decide +kernel)
theorem aw_char : Cond.arrayClass .char ∈ zT := zT_d (by decide +kernel) (by decide +kernel)
theorem zAO_lw {args : Array Value} {s : State} (h : ∀ w ∈ lw_tbl, w.before args s = true) : zAO s := ⟨va_AO.of (h (.arrayOver (.object RX0)) (by decide +kernel)), va_AO.of (h (.arrayOver (.object RX6)) (by decide +kernel))⟩
theorem nw_X8_9 : zNw1 RX8 9 0 11 [.null, .null, .null, .int 0, .int 0, .int 0, .int 0, .int 0, .null, .null, .null] := ⟨RX0, TX0, tyX0, rfl, iX0, tyX0_ok, fun j hj => (by rcases (by omega : j = 0 ∨ j = 1 ∨ j = 2 ∨ j = 3 ∨ j = 4 ∨ j = 5 ∨ j = 6 ∨ j = 7 ∨ j = 8 ∨ j = 9 ∨ j = 10) with rfl | rfl | rfl | rfl | rfl | rfl | rfl | rfl | rfl | rfl | rfl <;> rfl), zT_d (by decide +kernel) (by decide +kernel), zT_d (by decide +kernel) (by decide +kernel), zT_d (by decide +kernel) (by decide +kernel)⟩
theorem nw_X8_16 : zNw1 RX8 16 3 3 [.null, .int 0, .int 0] := ⟨RX3, TX3, tyX3, rfl, iX3, tyX3_ok, fun j hj => (by rcases (by omega : j = 0 ∨ j = 1 ∨ j = 2) with rfl | rfl | rfl <;> rfl), zT_d (by decide +kernel) (by decide +kernel), zT_d (by decide +kernel) (by decide +kernel), zT_d (by decide +kernel) (by decide +kernel)⟩
theorem nw_X8_29 : zNw1 RX8 29 7 2 [.null, .int 0] := ⟨RX7, TX7, tyX7, rfl, iX7, tyX7_ok, fun j hj => (by rcases (by omega : j = 0 ∨ j = 1) with rfl | rfl <;> rfl), zT_d (by decide +kernel) (by decide +kernel), zT_d (by decide +kernel) (by decide +kernel), zT_d (by decide +kernel) (by decide +kernel)⟩
theorem nw_X8_42 : zNw1 RX8 42 5 2 [.null, .null] := ⟨RX5, TX5, tyX5, rfl, iX5, tyX5_ok, fun j hj => (by rcases (by omega : j = 0 ∨ j = 1) with rfl | rfl <;> rfl), zT_d (by decide +kernel) (by decide +kernel), zT_d (by decide +kernel) (by decide +kernel), zT_d (by decide +kernel) (by decide +kernel)⟩
theorem nw_X8_49 : zNw1 RX8 49 4 2 [.null, .int 0] := ⟨RX4, TX4, tyX4, rfl, iX4, tyX4_ok, fun j hj => (by rcases (by omega : j = 0 ∨ j = 1) with rfl | rfl <;> rfl), zT_d (by decide +kernel) (by decide +kernel), zT_d (by decide +kernel) (by decide +kernel), zT_d (by decide +kernel) (by decide +kernel)⟩
theorem nw_X8_36 : zNw1 RX8 36 6 3 [.null, .int 0, .int 0] := ⟨RX6, TX6, tyX6, rfl, iX6, tyX6_ok, fun j hj => (by rcases (by omega : j = 0 ∨ j = 1 ∨ j = 2) with rfl | rfl | rfl <;> rfl), zT_d (by decide +kernel) (by decide +kernel), zT_d (by decide +kernel) (by decide +kernel), zT_d (by decide +kernel) (by decide +kernel)⟩
theorem nw_X0_9 : zNw1 RX0 9 5 2 [.null, .null] := ⟨RX5, TX5, tyX5, rfl, iX5, tyX5_ok, fun j hj => (by rcases (by omega : j = 0 ∨ j = 1) with rfl | rfl <;> rfl), zT_d (by decide +kernel) (by decide +kernel), zT_d (by decide +kernel) (by decide +kernel), zT_d (by decide +kernel) (by decide +kernel)⟩
theorem nw_X0_18 : zNw1 RX0 18 1 5 [.int 0, .null, .null, .null, .null] := ⟨RX1, TX1, tyX1, rfl, iX1, tyX1_ok, fun j hj => (by rcases (by omega : j = 0 ∨ j = 1 ∨ j = 2 ∨ j = 3 ∨ j = 4) with rfl | rfl | rfl | rfl | rfl <;> rfl), zT_d (by decide +kernel) (by decide +kernel), zT_d (by decide +kernel) (by decide +kernel), zT_d (by decide +kernel) (by decide +kernel)⟩
theorem nw_X0_25 : zNw1 RX0 25 2 4 [.int 0, .null, .null, .null] := ⟨RX2, TX2, tyX2, rfl, iX2, tyX2_ok, fun j hj => (by rcases (by omega : j = 0 ∨ j = 1 ∨ j = 2 ∨ j = 3) with rfl | rfl | rfl | rfl <;> rfl), zT_d (by decide +kernel) (by decide +kernel), zT_d (by decide +kernel) (by decide +kernel), zT_d (by decide +kernel) (by decide +kernel)⟩
theorem nw_X3_9 : zNw1 RX3 9 0 11 [.null, .null, .null, .int 0, .int 0, .int 0, .int 0, .int 0, .null, .null, .null] := ⟨RX0, TX0, tyX0, rfl, iX0, tyX0_ok, fun j hj => (by rcases (by omega : j = 0 ∨ j = 1 ∨ j = 2 ∨ j = 3 ∨ j = 4 ∨ j = 5 ∨ j = 6 ∨ j = 7 ∨ j = 8 ∨ j = 9 ∨ j = 10) with rfl | rfl | rfl | rfl | rfl | rfl | rfl | rfl | rfl | rfl | rfl <;> rfl), zT_d (by decide +kernel) (by decide +kernel), zT_d (by decide +kernel) (by decide +kernel), zT_d (by decide +kernel) (by decide +kernel)⟩
abbrev zqa (t n : Nat) (f : Nat → Option Nat) : va_E := .inl (t, n, .inr (.inr (.inr (.inr f))))
section ZE
variable {C : zCx} {τ : Nat → ClassId} {ι : Nat → Nat} {own : String} {cc : ByteArray} {nL kc ks pc d mc ms : Nat} {lv : List (Nat × Value)} {st : List Value} {w : List va_E} {Qr : List va_E → Prop}
theorem zr_anewa (hC : zOK C τ (zrm d mc ms) own cc nL) {ι0 : Nat → Nat} {n0 mcq msq : Nat} {Q0 : List va_E → Prop} (hO : zRetN C τ ι0 n0 mcq msq Q0) {index t N : Nat} {Cn : String} {n : Int32} (hdg : decode cc pc = .ok (.anewarray index, 3)) (ht : (t = 4 ∧ Cn = RX0) ∨ (t = 5 ∧ Cn = RX6)) (hcl : Cond.classLink own index Cn ∈ zT) (hn : ¬ n < 0) (hN : n.toNatClampNeg = N) (hbytes : N * 4 ≤ 536870912) (hkc : kc + 1 ≤ mc) (hks : ks + N ≤ ms) (hw : zBd w.length w) (hl : ∀ q ∈ lv, zvb w.length q.2) (hst : ∀ v ∈ st, zvb w.length v)
    (kk : ∀ ι', (∀ k, k < w.length → ι' k = ι k) → zR C τ ι' nL (kc + 1) (ks + N) (pc + 3) lv (.ref w.length :: st) (w ++ [zqa t N (fun _ => none)])) : zR C τ ι nL kc ks pc lv (.int n :: st) w := by
  obtain ⟨p, l, e, R', s, m, args, below, meth, c, D, A, H0, Q⟩ := C
  obtain ⟨hx, hb, hml, hown, hts, hK, hNw, hR, hlk, hA⟩ := hC
  obtain ⟨-, -, -, -, hO⟩ := hO
  subst hR
  intro H locs ls hP hD hS hlv
  refine va_newq hx hb hown (hts _ hcl) (by rcases ht with ⟨-, rfl⟩ | ⟨-, rfl⟩; exact hO.1; exact hO.2) hK hP hD hS hA hn hN hbytes (by exact hkc) (by exact hks) hdg (fun q cA H1 hK1 hP1 hD1 hS1 => ?_)
  have e0 : cA = τ t := by
    have h2 : va_RA s cA (.object Cn) := (hK1.2 6 (cA, .object Cn) rfl).2
    rcases ht with ⟨rfl, rfl⟩ | ⟨rfl, rfl⟩
    · obtain ⟨k1, c1, a1, a2, a3, a4⟩ := h2
      obtain ⟨k2, c2, b1, b2, b3, b4⟩ := (show va_RA s (τ 4) (.object RX0) from (hK.2 4 (τ 4, .object RX0) rfl).2)
      exact Option.some.inj (a4.symm.trans b4)
    · obtain ⟨k1, c1, a1, a2, a3, a4⟩ := h2
      obtain ⟨k2, c2, b1, b2, b3, b4⟩ := (show va_RA s (τ 5) (.object RX6) from (hK.2 5 (τ 5, .object RX6) rfl).2)
      exact Option.some.inj (a4.symm.trans b4)
  subst e0
  have hag : ∀ k, k < w.length → zext ι w.length q k = ι k := zext_ag
  have e1 : zW (zext ι w.length q) τ (w ++ [zqa t N (fun _ => none)]) = zW ι τ w ++ [(q, .inl (τ t, N, .inr (.inr (.inr (.inr (fun _ => none))))))] := by
    rw [zW_push hag hw, zext_at, zca_q]
    have e3 : (fun j => if j < N then (none : Option Nat).map (zext ι w.length q) else none) = fun _ => none := funext fun j => by split <;> rfl
    rw [e3]
  have k1 := kk (zext ι w.length q) hag H1 locs ls (by rw [e1]; exact hP1) (by rw [e1]; exact hD1) hS1 (by rw [zlv_ag hag hl]; exact hlv)
  have e2 : (Value.ref w.length :: st).map (zcv (zext ι w.length q)) = .ref q :: st.map (zcv ι) := by
    rw [List.map_cons, zst_ag hag hst]
    show Value.ref (zext ι w.length q w.length) :: _ = _
    rw [zext_at]
  rw [e2] at k1
  exact k1
theorem zr_aast (hC : zOK C τ (zrm d mc ms) own cc nL) {a t n x ci : Nat} {f : Nat → Option Nat} {i : Int32} {fs : List Value} (hdg : decode cc pc = .ok (.aastore, 1)) (ht : (t = 4 ∧ ci = 0) ∨ (t = 5 ∧ ci = 6)) (he : w[a]? = some (zqa t n f)) (hv : w[x]? = some (.inr (ci, fs))) (hi : vp_in i n) (kk : zR C τ ι nL kc ks (pc + 1) lv st (w.set a (zqa t n (va_up f i.toNatClampNeg (some x))))) : zR C τ ι nL kc ks pc lv (.ref x :: .int i :: .ref a :: st) w := by
  obtain ⟨p, l, e, R', s, m, args, below, meth, c, D, A, H0, Q⟩ := C
  obtain ⟨hx, hb, hml, hown, hts, hK, hNw, hR, hlk, hA⟩ := hC
  subst hR
  intro H locs ls hP hD hS hl
  have hlt : i.toNatClampNeg < n := Nat.not_le.mp fun q => hi (Or.inr q)
  have go : ∀ (r : vw_C), vwCl[ci]? = some r → (ztys τ)[t]? = some (τ t, .object r.1) → W p l e (zrm d mc ms) s m args below meth c H locs kc ks Q (F0 m pc ls (.ref (ι x) :: .int i :: .ref (ι a) :: st.map (zcv ι))) := fun r hr htt => by
    refine va_astq hx hb hK hP hD hS a t x ci (zW_get he) htt (zW_get hv) hr hi hdg (fun H1 locs1 hP1 hD1 hS1 => ?_)
    have e1 : (ι a, (Sum.inl (τ t, n, .inr (.inr (.inr (.inr (va_up (fun j => if j < n then (f j).map ι else none) i.toNatClampNeg (some (ι x))))))) : va_E)) = (ι a, zca ι τ (zqa t n (va_up f i.toNatClampNeg (some x)))) := by
      rw [zca_q]
      have e2 : va_up (fun j => if j < n then (f j).map ι else none) i.toNatClampNeg (some (ι x)) = fun j => if j < n then (va_up f i.toNatClampNeg (some x) j).map ι else none := funext fun j => by
        by_cases q : j = i.toNatClampNeg
        · rw [q, va_up_self, va_up_self, if_pos hlt]; rfl
        · rw [va_up_ne _ _ q, va_up_ne _ _ q]
      rw [e2]
    rw [e1, zW_set] at hP1 hD1
    exact kk H1 locs1 ls hP1 hD1 hS1 hl
  rcases ht with ⟨rfl, rfl⟩ | ⟨rfl, rfl⟩
  · exact go _ rfl rfl
  · exact go _ rfl rfl
end ZE
