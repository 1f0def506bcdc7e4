/-! CONSTRUCTORS: what they do, told over lists of cells that grow -/
def zAO (s : State) : Prop := va_AO RX0 s ∧ va_AO RX6 s
theorem zAO.moved {u U : State} (hvm : u.vm.Alike U.vm) (h : zAO u) : zAO U := ⟨va_AO.moved hvm h.1, va_AO.moved hvm h.2⟩
def zPcN (D : va_G) (ι : Nat → Nat) (τ : Nat → ClassId) (av : List Value) (w : List va_E) (sz : Nat) : Array Value → State → Prop := va_Pc (av.map (zcv ι)) (fun U => U.heap.size = sz ∧ zB D ι τ w (fun _ => True) U ∧ zAO U)
def zQcN (D : va_G) (ι : Nat → Nat) (n0 : Nat) (τ : Nat → ClassId) (Qr : List va_E → Prop) (A : Nat → Prop) : Array Value → State → Outcome → State → Prop := fun _ st o t => (∃ (w' : List va_E) (ι' : Nat → Nat), (∀ k, k < n0 → ι' k = ι k) ∧ o = .returned none ∧ Qr w' ∧ zB D ι' τ w' A t) ∧ va_F A st t
def zMetN (y : MethodName) (bytes : ByteArray) (maxL d mc ms : Nat) (Sp : List Value → List va_E → (List va_E → Prop) → Prop) : Prop :=
  maxL ≤ 18 ∧ ∀ (l : Launch) (D : va_G) (ι : Nat → Nat) (τ : Nat → ClassId) (av : List Value) (w : List va_E) (sz : Nat) (Qr : List va_E → Prop), Sp av w Qr →
    Met l y (.code y bytes maxL none :: zT) (zrm d mc ms) (zPcN D ι τ av w sz) (zQcN D ι w.length τ Qr (va_A (zW ι τ w) sz)) mc ms (va_A (zW ι τ w) sz)
def zRetN : zCx → (Nat → ClassId) → (Nat → Nat) → Nat → Nat → Nat → (List va_E → Prop) → Prop
  | (_, _, _, _, s, _, args, below, meth, _, D, A, H0, Q), τ, ι, n0, mc, ms, Qr => Q = MQ below (zQcN D ι n0 τ Qr A) args s mc ms A ∧ meth.sig.returnType = none ∧ H0 = s.heap ∧ meth.name = "<init>" ∧ zAO s
set_option maxHeartbeats 1000000 in
theorem zMetN.of {y : MethodName} {bytes : ByteArray} {maxL d mc ms : Nat} {Sp : List Value → List va_E → (List va_E → Prop) → Prop} (hy : plainName y.cls = true) (hyn : y.name = "<init>") (h18 : maxL ≤ 18) (hn : ∀ av w Qr, Sp av w Qr → (lg_sl av).length ≤ maxL)
    (body : ∀ (C : zCx) (τ : Nat → ClassId) (ι : Nat → Nat) (av : List Value) (w : List va_E) (Qr : List va_E → Prop), Sp av w Qr → zOK C τ (zrm d mc ms) y.cls bytes maxL → zRetN C τ ι w.length mc ms Qr → zR C τ ι maxL 0 0 0 (lv_args 0 av) [] w) : zMetN y bytes maxL d mc ms Sp := by
  refine ⟨h18, fun l D ι τ av w sz Qr hSp => ?_⟩
  refine Met.ofW (cc := bytes) (maxL := maxL) (ret := none) hy rfl ?_
  intro p e s m args below meth c s₁ B hml hv
  obtain ⟨rfl, hsz, ⟨hP, hK, hD0, hN⟩, hO⟩ := hv
  subst hsz
  have hts := atoms_spec (ws := (.code y bytes maxL none :: zT)) B.pre
  have hD := hD0.self (sz := s.heap.size)
  have hA : ∀ q : Nat, s.heap.size ≤ q → va_A (zW ι τ w) s.heap.size q := fun q h => Or.inr h
  have hl := lv_entry (av.map (zcv ι)) (n := maxL) (by rw [zlg]; exact hn av w Qr hSp)
  rw [lg_entry_eq]
  rw [zlv_args] at hl
  exact body (p, l, e, (headSpec (.code y bytes maxL none :: zT) (zrm d mc ms)).room, s, m, (av.map (zcv ι)).toArray, below, meth, c, D, va_A (zW ι τ w) s.heap.size, s.heap, MQ below (zQcN D ι w.length τ Qr (va_A (zW ι τ w) s.heap.size)) (av.map (zcv ι)).toArray s mc ms (va_A (zW ι τ w) s.heap.size)) τ ι av w Qr hSp
    ⟨B.exec, B.bytes, hml, findClass_of_methodNamed B.named, fun w hw => hts w (List.mem_cons_of_mem _ hw), hK, hN, rfl, B.notSynchronized, hA⟩ ⟨rfl, B.returns, rfl, (name_of_methodNamed B.named B.method).1.trans hyn, hO⟩ s.heap [] _ hP hD va_S.rf hl
section ZD
variable {C : zCx} {τ : Nat → ClassId} {ι : Nat → Nat} {own : String} {cc : ByteArray} {nL kc ks pc d mc ms : Nat} {lv : List (Nat × Value)} {st : List Value} {w : List va_E} {Qr : List va_E → Prop}
theorem zr_vretN (hC : zOK C τ (zrm d mc ms) own cc nL) {ι0 : Nat → Nat} {n0 : Nat} (hE : zRetN C τ ι0 n0 mc ms Qr) (hag : ∀ k, k < n0 → ι k = ι0 k) (hkc : kc ≤ mc) (hks : ks ≤ ms) (hdg : decode cc pc = .ok (.return_, 1)) (hq : Qr w) : zR C τ ι nL kc ks pc lv [] w := by
  obtain ⟨p, l, e, R', s, m, args, below, meth, c, D, A, H0, Q⟩ := C
  obtain ⟨hx, hb, hml, hown, hts, hK, hN, hR, hlk, hA⟩ := hC
  obtain ⟨rfl, hr, rfl, hnm, hO⟩ := hE
  intro H locs ls hP hD hS hl
  refine W.widen (k := mc) (n := ms) hkc hks ?_
  exact W.vret hx hb hr (fun t ht hW => ⟨⟨w, ι, hag, rfl, hq, by rw [ht]; exact hP, va_K.moved hW.alike hK, hD, zNw_moved hW hN⟩, hS.F ht⟩) hS.2.2 hdg
theorem zPcN_blind {D : va_G} {av : List Value} {sz : Nat} : FrameBlind (zPcN D ι τ av w sz) := by
  intro a U g mk q
  obtain ⟨q0, q1, ⟨qP, qK, qD, qN⟩, qO⟩ := q
  exact ⟨q0, q1, ⟨qP, va_K.moved (u := U) (U := U.calling g mk a) (Vm.Alike.refl U.vm) qK, qD, zNw_vm (u := U) (U := U.calling g mk a) rfl qN⟩, zAO.moved (u := U) (U := U.calling g mk a) (Vm.Alike.refl U.vm) qO⟩
theorem zr_backN {p : Program} {l : Launch} {e : Env} {R : Room} {s : State} {m : MethodId} {args : Array Value} {below : List Frame} {meth : Method} {c : Code} {D : va_G} {A : Nat → Prop} {H0 : Heap} {Q : State → Prop} {H : Heap} {locs : List Loc} {ls : Array Slot} {a : Array Value} {rest st0 : List Value} {mc' ms' : Nat}
    (hr : va_Run p l e R s m args below meth c H locs kc ks mc' ms' (F0 m pc ls st0) (rest.map (zcv ι)) (zQcN D ι w.length τ Qr (va_A (zW ι τ w) H.size) a) (va_A (zW ι τ w) H.size)) (hP : va_P D vwCl (zW ι τ w) H) (hD : va_D A (zW ι τ w)) (hS : va_S A H0 H locs) (hA : ∀ q, H0.size ≤ q → A q) (hl : lv_has ls nL (zlv ι lv)) (hlb : ∀ q ∈ lv, zvb w.length q.2) (hsb : ∀ v ∈ rest, zvb w.length v)
    (kk : ∀ w', Qr w' → ∀ ι', (∀ k, k < w.length → ι' k = ι k) → zR (p, l, e, R, s, m, args, below, meth, c, D, A, H0, Q) τ ι' nL (kc + mc') (ks + ms') (pc + 3) lv rest w') : W p l e R s m args below meth c H locs kc ks Q (F0 m pc ls st0) := by
  have hF : ∀ q, va_A (zW ι τ w) H.size q → A q := by
    intro q hq
    rcases hq with ⟨k, e, hk⟩ | hq
    · exact hD.2 k (q, e) hk
    · exact hA q (Nat.le_trans hS.1 hq)
  intro T hT X
  obtain ⟨v, st₀, t, T', L, h0, X', hL, e1, e2, ⟨⟨w', ι', hag, hv, hq, hP1, hK1, hD1, hN1⟩, hz, hk⟩, st⟩ := hr T hT X
  cases hv
  rw [h0] at hz hk
  have hS' : va_S A H0 T'.heap (locs ++ L) := by
    refine ⟨Nat.le_trans hS.1 (by rw [e1]; exact hz), fun q h1 h2 => ?_, fun q hq => ?_⟩
    · rw [e1, hk q (Nat.lt_of_lt_of_le h1 hS.1) (fun z => h2 (hF q z))]
      exact hS.2.1 q h1 h2
    · rcases List.mem_append.mp hq with h | h
      · exact hS.2.2 q h
      · exact hF _ (hL q h)
  have k2 := kk w' hq ι' hag T'.heap (locs ++ L) ls (by rw [e1]; exact hP1) (hD1.weaken (fun k q _ h => hF q.1 h)) hS' (by rw [zlv_ag hag hlb]; exact hl)
  rw [zst_ag hag hsb] at k2
  obtain ⟨t2, a1, b1⟩ := k2 T' rfl X'
  exact ⟨t2, st t2 a1, b1⟩
theorem zr_callI (hC : zOK C τ (zrm d mc ms) own cc nL) {ι0 : Nat → Nat} {n0 mcq msq : Nat} {Q0 : List va_E → Prop} (hO : zRetN C τ ι0 n0 mcq msq Q0) {y : MethodName} {bytes : ByteArray} {maxL d' index b mc' ms' : Nat} {Sp} {rest : List Value} (hdg : decode cc pc = .ok (.invokespecial index, 3)) (hlink : Cond.methodLink own index y ∈ zT) (hm : zMi y bytes maxL 0) (hM : zMetN y bytes maxL d' mc' ms' Sp) (hd : d' + 1 ≤ d) (hkc : kc + mc' ≤ mc) (hks : ks + ms' ≤ ms) (hrest : (rest.map fun v => v.category).sum ≤ 8) (hlb : ∀ q ∈ lv, zvb w.length q.2) (hsb : ∀ v ∈ rest, zvb w.length v)
    (kk : Sp [.ref b] w (fun w' => ∀ ι', (∀ k, k < w.length → ι' k = ι k) → zR C τ ι' nL (kc + mc') (ks + ms') (pc + 3) lv rest w')) : zR C τ ι nL kc ks pc lv (.ref b :: rest) w := by
  obtain ⟨p, l, e, R', s, m, args, below, meth, c, D, A, H0, Q⟩ := C
  obtain ⟨hx, hb, hml, hown, hts, hK, hN, hR, hlk, hA⟩ := hC
  obtain ⟨-, -, -, -, hO⟩ := hO
  subst hR
  intro H locs ls hP hD hS hl
  obtain ⟨h18, hM⟩ := hM
  have hM' := hM l D ι τ [.ref b] w H.size _ kk
  obtain ⟨hcode, hini, hins, hnm, hd1, hd2, hd3⟩ := hm
  have cw : CallB (zrm d mc ms) s args own index y bytes maxL none (.code y bytes maxL none :: zT) (zrm d' mc' ms') mc' ms' 0 ∧ y.name = "<init>" ∧ (Cond.instanceMethod y).before args s = true := ⟨callB_of 0 hts (zT_in hcode) rfl rfl rfl (hts _ hini) (hts _ hlink) ⟨hd1, hd2, hd3⟩ ⟨hd, by show 8 + (maxL + 11) + 37 * d' ≤ 37 * d; omega⟩, hnm, hts _ hins⟩
  exact zr_backN (va_runI (As := []) (rest := rest.map (zcv ι)) (b := ι b) ⟨hx, hb, hml, hown, hts⟩ hM' cw ⟨zPcN_blind, fun U hU hW => ⟨rfl, by rw [hU], ⟨by rw [hU]; exact hP, va_K.moved hW.alike hK, hD.weaken (fun _ _ _ _ => trivial), zNw_moved hW hN⟩, zAO.moved hW.alike hO⟩⟩ rfl rfl hl.1 rfl (by show 2 * 0 + _ ≤ 8; rw [zcats]; omega) hdg ⟨by exact hkc, by exact hks⟩) hP hD hS hA hl hlb hsb (fun w' h => h)
theorem zr_callIN (hC : zOK C τ (zrm d mc ms) own cc nL) {ι0 : Nat → Nat} {n0 mcq msq : Nat} {Q0 : List va_E → Prop} (hO : zRetN C τ ι0 n0 mcq msq Q0) {y : MethodName} {bytes : ByteArray} {host : String} {maxL d' index b mc' ms' : Nat} {Sp} {rest : List Value} (hdg : decode cc pc = .ok (.invokespecial index, 3)) (hlink : Cond.methodLinkNest own index y host ∈ zNest) (hm : zMi y bytes maxL 0) (hM : zMetN y bytes maxL d' mc' ms' Sp) (hd : d' + 1 ≤ d) (hkc : kc + mc' ≤ mc) (hks : ks + ms' ≤ ms) (hrest : (rest.map fun v => v.category).sum ≤ 8) (hlb : ∀ q ∈ lv, zvb w.length q.2) (hsb : ∀ v ∈ rest, zvb w.length v)
    (kk : Sp [.ref b] w (fun w' => ∀ ι', (∀ k, k < w.length → ι' k = ι k) → zR C τ ι' nL (kc + mc') (ks + ms') (pc + 3) lv rest w')) : zR C τ ι nL kc ks pc lv (.ref b :: rest) w := by
  obtain ⟨p, l, e, R', s, m, args, below, meth, c, D, A, H0, Q⟩ := C
  obtain ⟨hx, hb, hml, hown, hts, hK, hN, hR, hlk, hA⟩ := hC
  obtain ⟨-, -, -, -, hO⟩ := hO
  subst hR
  intro H locs ls hP hD hS hl
  obtain ⟨h18, hM⟩ := hM
  have hM' := hM l D ι τ [.ref b] w H.size _ kk
  obtain ⟨hcode, hini, hins, hnm, hd1, hd2, hd3⟩ := hm
  have cw : va_CN (zrm d mc ms) s args own index y host bytes maxL none (.code y bytes maxL none :: zT) (zrm d' mc' ms') mc' ms' 0 ∧ y.name = "<init>" ∧ (Cond.instanceMethod y).before args s = true := ⟨va_cnB 0 hts (zT_in hcode) rfl rfl rfl (hN _ hlink) (hts _ hini) ⟨hd1, hd2, hd3⟩ ⟨hd, by show 8 + (maxL + 11) + 37 * d' ≤ 37 * d; omega⟩, hnm, hts _ hins⟩
  exact zr_backN (va_runIN (As := []) (rest := rest.map (zcv ι)) (b := ι b) ⟨hx, hb, hml, hown, hts⟩ hM' cw ⟨zPcN_blind, fun U hU hW => ⟨rfl, by rw [hU], ⟨by rw [hU]; exact hP, va_K.moved hW.alike hK, hD.weaken (fun _ _ _ _ => trivial), zNw_moved hW hN⟩, zAO.moved hW.alike hO⟩⟩ rfl rfl hl.1 rfl (by show 2 * 0 + _ ≤ 8; rw [zcats]; omega) hdg ⟨by exact hkc, by exact hks⟩) hP hD hS hA hl hlb hsb (fun w' h => h)
/-- Object's own constructor -/
theorem zr_objI (hC : zOK C τ (zrm d mc ms) own cc nL) (hd1 : 1 ≤ d) {index a : Nat} (hdg : decode cc pc = .ok (.invokespecial index, 3)) (hlink : Cond.methodLink own index objectInit ∈ zT) (hins : Cond.instanceMethod objectInit ∈ zT) (hcode : Cond.code objectInit ⟨#[0xb1]⟩ 1 none ∈ zT) (kk : zR C τ ι nL kc ks (pc + 3) lv [] w) : zR C τ ι nL kc ks pc lv [.ref a] w := by
  obtain ⟨p, l, e, R', s, m, args, below, meth, c, D, A, H0, Q⟩ := C
  obtain ⟨hx, hb, hml, hown, hts, hK, hN, hR, hlk, hA⟩ := hC
  subst hR
  intro H locs ls hP hD hS hl
  exact W.objInit hx hb hown (hts _ hlink) (hts _ hins) (hts _ hcode) rfl (by rw [hml]; exact hl.1) rfl hdg (by exact hd1) (by show 2 * 0 + 0 + 12 ≤ 37 * d; omega) (kk H locs ls hP hD hS hl)
end ZD
