/-! THE LAW: its own words, its calls, its end (the first rows: the kit's skeleton) -/
def R_law : String := "KeyTreesLaw"
def lw_P (b : Addr) (xs : List Int32) (args : Array Value) (s : State) : Prop := args = #[.ref b] ∧ s.IntsAt b xs ∧ xs.length ≤ 260 ∧ (Jvm.Cond.and given_1 narrow_1).before args s = true
def lw_Q (_ : Array Value) (s : State) (o : Outcome) (t : State) : Prop := o = .returned (some (.int 1)) ∧ Framed s o t [] 600000 7302250
def lw_Z (below : List Frame) (a : Array Value) (s : State) : State → Prop := fun t => ∃ o, t.status = .running ∧ Ended t below o ∧ lw_Q a s o t
/-- the law's own end, with 1 on the stack, nothing written that was there before, its room as the claim has it -/
theorem lw_ret {p : Program} {l : Launch} {e : Env} {s : State} {m : MethodId} {below : List Frame} {meth : Method} {c : Code} {b : Nat} (hx : p.tables.exec = Jvm.exec) (hb : c.code = code) (hr : meth.sig.returnType = ret) (hlocks : meth.locks = false) {pc : Nat} {H : Heap} {ls : Array Slot} (hdg : decode code pc = .ok (.ireturn, 1)) : W p l e room_1 s m #[Value.ref b] below meth c H [] 600000 7302250 (lw_Z below #[Value.ref b] s) (F0 m pc ls [.int 1]) := by
  intro T hT X
  obtain ⟨fs, hret, hrun, hended, hW, hframe⟩ := X.leave (v := some (.int 1)) (hlocks := hlocks) (fun h => by rw [hr] at h; cases h)
  have hmeth' : T.vm.method? m = some meth := X.method'
  refine ⟨T.setFrames fs, ?_, .returned (some (.int 1)), hrun, hended, rfl, ⟨_, rfl⟩, hW, hframe⟩
  jvm_step X.here [X.here.top, hx, hb, hdg, hmeth', hr, ret, narrow_b1]
  (try refine ⟨rfl, ?_⟩); (try refine ⟨rfl, ?_⟩)
  first | (intro acts; rw [hret _ acts rfl rfl rfl]) | rw [hret _ _ rfl rfl rfl]
  exact Steps.refl _
/-- what holds at the law's entry: the machine, the code, the tables' words (any of lw_tbl by 'hts w (by decide +kernel)'), the script of L ints xs at the cell b, what the Statement gives of the start (any of its parts by flat_of_before) -/
def lw_At (p : Program) (s : State) (m : MethodId) (meth : Method) (c : Code) (b L : Nat) (xs : Nat → Int32) : Prop :=
  p.tables.exec = Jvm.exec ∧ c.code = code ∧ meth.sig.returnType = ret ∧ c.maxLocals = 6 ∧ s.vm.findClass R_law = some m.cls ∧ (∀ w ∈ lw_tbl, w.before #[Value.ref b] s = true) ∧ va_X b L xs s s.heap ∧ b < s.heap.size ∧ meth.locks = false ∧ (Jvm.Cond.and given_1 narrow_1).before #[Value.ref b] s = true
/-- the law's own end is what its body comes to -/
def zLw : zCx → Prop
  | (_, _, _, R, s, _, args, below, meth, _, _, A, H0, Q) => ∃ b, args = #[Value.ref b] ∧ R = room_1 ∧ meth.sig.returnType = ret ∧ Q = lw_Z below #[Value.ref b] s ∧ H0 = s.heap ∧ A = fun q => s.heap.size ≤ q
section ZL
variable {C : zCx} {τ : Nat → ClassId} {ι : Nat → Nat} {kc ks pc : Nat} {lv : List (Nat × Value)} {st : List Value} {w : List va_E} {L : Nat} {xs : Nat → Int32}
theorem zl_callV (hC : zOK C τ room_1 RL cL_law 6) {y : MethodName} {bytes : ByteArray} {maxL d' n index b ci : Nat} {ret : Option FieldType} {Sp : zSp} {S : zS} (As rest : List Value) (hdg : decode cL_law pc = .ok (.invokevirtual index, 3)) (hlink : Cond.methodLink RL index y ∈ zT) (hm : zMv y bytes maxL ret n) (hM : zM y bytes maxL ret d' Sp) (hd : d' + 1 ≤ 12) (hkc : kc ≤ 600000) (hks : ks ≤ 7302250) (hn : As.length = n) {fl} (he : zsh b = .inl (ci, fl)) (hb0 : b < 245) (hcl : (vwCl[ci]?).map (fun q => q.1) = some y.cls) (hrest : (rest.map fun v => v.category).sum ≤ 8) {st0 : List Value} (hst : st0 = As.reverse ++ .ref b :: rest)
    (kk : Sp (.ref b :: As) S (fun r S' => zR C τ ι 6 kc ks (pc + 3) lv (r.toList ++ rest) (zcells S'))) : zR C τ ι 6 kc ks pc lv st0 (zcells S) := by
  subst hst
  obtain ⟨p, l, e, R', s, m, args, below, meth, c, D, A, H0, Q⟩ := C
  obtain ⟨hx, hb, hml, hown, hts, hK, hN, hR, hlk, hA⟩ := hC
  subst hR
  intro H locs ls hP hD hS hl
  obtain ⟨h18, hM⟩ := hM
  have hM' := hM l D ι τ (.ref b :: As) (zcells S) H.size _ ⟨S, rfl, kk⟩
  obtain ⟨hcode, hini, hins, hsel, hd1, hd2, hd3⟩ := hm
  obtain ⟨q, hq, hq1⟩ := Option.map_eq_some_iff.mp hcl
  have h448 : room_1.locals = 448 := rfl
  have cw : CallW room_1 s args RL y.cls index y bytes maxL ret (.code y bytes maxL ret :: zT) (zrm d' 0 0) 0 0 n := ⟨callB_of n hts (zT_in hcode) rfl rfl rfl (hts _ hini) (hts _ hlink) ⟨hd1, hd2, hd3⟩ ⟨hd, by rw [h448]; show 8 + (maxL + 11) + 37 * d' ≤ 448; omega⟩, hts _ hins, hts _ hsel⟩
  have he' : (zcells S)[b]? = some (zcell S b) := zc_at S hb0
  have he2 : ∃ fs, zcell S b = .inr (ci, fs) := by unfold zcell; rw [he]; exact ⟨_, rfl⟩
  obtain ⟨fs, hfs⟩ := he2
  rw [hfs] at he'
  refine zr_back (va_runV (As := As.map (zcv ι)) (rest := rest.map (zcv ι)) (b := ι b) ⟨hx, hb, hml, hown, hts⟩ hM' cw ⟨zPc_blind, ?_, fun U hU hW => ⟨rfl, by rw [hU], by rw [hU]; exact hP, va_K.moved hW.alike hK, hD.weaken (fun _ _ _ _ => trivial), zNw_moved hW hN⟩⟩ rfl (by simpa using hn) hl.1 ?_ (by show 2 * 0 + _ ≤ 8; rw [zcats]; omega) hdg ⟨by show kc + 0 ≤ 600000; omega, by show ks + 0 ≤ 7302250; omega⟩) hP hD hS hA hl (fun r w' h => h)
  · rw [← hq1]
    exact va_recv hK hP hq (zW_get he')
  · simp [List.map_reverse, zcv]
theorem zl_callS (hC : zOK C τ room_1 RL cL_law 6) {y : MethodName} {bytes : ByteArray} {maxL d' n index : Nat} {ret : Option FieldType} {Sp : zSp} {S : zS} (As rest : List Value) (hdg : decode cL_law pc = .ok (.invokestatic index, 3)) (hlink : Cond.methodLink RL index y ∈ zT) (hm : zMs y bytes maxL ret n) (hM : zM y bytes maxL ret d' Sp) (hd : d' + 1 ≤ 12) (hkc : kc ≤ 600000) (hks : ks ≤ 7302250) (hn : As.length = n) (hrest : (rest.map fun v => v.category).sum ≤ 8) {st0 : List Value} (hst : st0 = As.reverse ++ rest)
    (kk : Sp As S (fun r S' => zR C τ ι 6 kc ks (pc + 3) lv (r.toList ++ rest) (zcells S'))) : zR C τ ι 6 kc ks pc lv st0 (zcells S) := by
  subst hst
  obtain ⟨p, l, e, R', s, m, args, below, meth, c, D, A, H0, Q⟩ := C
  obtain ⟨hx, hb, hml, hown, hts, hK, hN, hR, hlk, hA⟩ := hC
  subst hR
  intro H locs ls hP hD hS hl
  obtain ⟨h18, hM⟩ := hM
  have hM' := hM l D ι τ As (zcells S) H.size _ ⟨S, rfl, kk⟩
  obtain ⟨hcode, hini, hins, hd1, hd2, hd3⟩ := hm
  have h448 : room_1.locals = 448 := rfl
  have cw : CallB room_1 s args RL index y bytes maxL ret (.code y bytes maxL ret :: zT) (zrm d' 0 0) 0 0 n ∧ (Cond.static y).before args s = true := ⟨callB_of n hts (zT_in hcode) rfl rfl rfl (hts _ hini) (hts _ hlink) ⟨hd1, hd2, hd3⟩ ⟨hd, by rw [h448]; show 8 + (maxL + 11) + 37 * d' ≤ 448; omega⟩, hts _ hins⟩
  refine zr_back (va_runS (As := As.map (zcv ι)) (rest := rest.map (zcv ι)) ⟨hx, hb, hml, hown, hts⟩ hM' cw ⟨zPc_blind, fun U hU hW => ⟨rfl, by rw [hU], by rw [hU]; exact hP, va_K.moved hW.alike hK, hD.weaken (fun _ _ _ _ => trivial), zNw_moved hW hN⟩⟩ rfl (by simpa using hn) hl.1 ?_ (by show 2 * 0 + _ ≤ 8; rw [zcats]; omega) hdg ⟨by show kc + 0 ≤ 600000; omega, by show ks + 0 ≤ 7302250; omega⟩) hP hD hS hA hl (fun r w' h => h)
  simp [List.map_reverse]
theorem zl_callSS (hC : zOK C τ room_1 RL cL_law 6) (hX : zSc C ι L xs) {y : MethodName} {bytes : ByteArray} {maxL d' n index : Nat} {ret : Option FieldType} {Sp : zSpS} {S : zS} (As rest : List Value) (hdg : decode cL_law pc = .ok (.invokestatic index, 3)) (hlink : Cond.methodLink RL index y ∈ zT) (hm : zMs y bytes maxL ret n) (hM : zMS y bytes maxL ret d' Sp) (hd : d' + 1 ≤ 12) (hkc : kc ≤ 600000) (hks : ks ≤ 7302250) (hn : As.length = n) (hrest : (rest.map fun v => v.category).sum ≤ 8) {st0 : List Value} (hst : st0 = As.reverse ++ rest)
    (kk : Sp L xs As S (fun r S' => zR C τ ι 6 kc ks (pc + 3) lv (r.toList ++ rest) (zcells S'))) : zR C τ ι 6 kc ks pc lv st0 (zcells S) := by
  subst hst
  obtain ⟨p, l, e, R', s, m, args, below, meth, c, D, A, H0, Q⟩ := C
  obtain ⟨hx, hb, hml, hown, hts, hK, hN, hR, hlk, hA⟩ := hC
  subst hR
  intro H locs ls hP hD hS hl
  obtain ⟨h18, hM⟩ := hM
  have hM' := hM l D ι τ As (zcells S) H.size _ L xs ⟨S, rfl, kk⟩
  obtain ⟨hcode, hini, hins, hd1, hd2, hd3⟩ := hm
  obtain ⟨hX1, hX2⟩ := hX.at (τ := τ) (w := zcells S) hD hS
  have h448 : room_1.locals = 448 := rfl
  have cw : CallB room_1 s args RL index y bytes maxL ret (.code y bytes maxL ret :: zT) (zrm d' 0 0) 0 0 n ∧ (Cond.static y).before args s = true := ⟨callB_of n hts (zT_in hcode) rfl rfl rfl (hts _ hini) (hts _ hlink) ⟨hd1, hd2, hd3⟩ ⟨hd, by rw [h448]; show 8 + (maxL + 11) + 37 * d' ≤ 448; omega⟩, hts _ hins⟩
  refine zr_back (va_runS (As := As.map (zcv ι)) (rest := rest.map (zcv ι)) ⟨hx, hb, hml, hown, hts⟩ hM' cw ⟨zPcS_blind, fun U hU hW => ⟨rfl, by rw [hU], ⟨by rw [hU]; exact hP, va_K.moved hW.alike hK, hD.weaken (fun _ _ _ _ => trivial), zNw_moved hW hN⟩, by rw [hU]; exact va_X.moved hW.alike hX1, hX2⟩⟩ rfl (by simpa using hn) hl.1 ?_ (by show 2 * 0 + _ ≤ 8; rw [zcats]; omega) hdg ⟨by show kc + 0 ≤ 600000; omega, by show ks + 0 ≤ 7302250; omega⟩) hP hD hS hA hl (fun r w' h => h)
  simp [List.map_reverse]
theorem zl_end (hC : zOK C τ room_1 RL cL_law 6) (hE : zLw C) (hkc : kc ≤ 600000) (hks : ks ≤ 7302250) (hdg : decode cL_law pc = .ok (.ireturn, 1)) : zR C τ ι 6 kc ks pc lv [.int 1] w := by
  obtain ⟨p, l, e, R', s, m, args, below, meth, c, D, A, H0, Q⟩ := C
  obtain ⟨hx, hb, hml, hown, hts, hK, hN, hR, hlk, hA⟩ := hC
  obtain ⟨b, rfl, rfl, hr, rfl, rfl, rfl⟩ := hE
  intro H locs ls hP hD hS hl
  refine va_forget (fun q hq => hS.2.2 q hq) ?_
  refine W.widen (k := 600000) (n := 7302250) hkc hks ?_
  exact lw_ret hx hb hr hlk hdg
/-- behind a constructor's call: the callee's end is the caller's next step -/
theorem zl_backN {p : Program} {l : Launch} {e : Env} {R : Room} {s : State} {m : MethodId} {args : Array Value} {below : List Frame} {meth : Method} {c : Code} {D : va_G} {A : Nat → Prop} {H0 : Heap} {Q : State → Prop} {H : Heap} {locs : List Loc} {ls : Array Slot} {a : Array Value} {rest st0 : List Value} {mc' ms' : Nat} {Qr : List va_E → Prop}
    (hr : va_Run p l e R s m args below meth c H locs kc ks mc' ms' (F0 m pc ls st0) rest (zQcN D ι w.length τ Qr (va_A (zW ι τ w) H.size) a) (va_A (zW ι τ w) H.size)) (hD : va_D A (zW ι τ w)) (hS : va_S A H0 H locs) (hA : ∀ q, H0.size ≤ q → A q)
    (kk : ∀ w', Qr w' → ∀ ι', (∀ k, k < w.length → ι' k = ι k) → ∀ (H1 : Heap) (locs1 : List Loc), va_P D vwCl (zW ι' τ w') H1 → va_D A (zW ι' τ w') → va_S A H0 H1 locs1 → W p l e R s m args below meth c H1 locs1 (kc + mc') (ks + ms') Q (F0 m (pc + 3) ls rest)) : W p l e R s m args below meth c H locs kc ks Q (F0 m pc ls st0) := by
  have hF : ∀ q, va_A (zW ι τ w) H.size q → A q := by
    intro q hq
    rcases hq with ⟨k, e, hk⟩ | hq
    · exact hD.2 k (q, e) hk
    · exact hA q (Nat.le_trans hS.1 hq)
  intro T hT X
  obtain ⟨v, st₀, t, T', L, h0, X', hL, e1, e2, ⟨⟨w', ι', hag, hv, hq, hP1, hK1, hD1, hN1⟩, hz, hk⟩, st⟩ := hr T hT X
  cases hv
  rw [h0] at hz hk
  have hS' : va_S A H0 T'.heap (locs ++ L) := by
    refine ⟨Nat.le_trans hS.1 (by rw [e1]; exact hz), fun q h1 h2 => ?_, fun q hq => ?_⟩
    · rw [e1, hk q (Nat.lt_of_lt_of_le h1 hS.1) (fun z => h2 (hF q z))]
      exact hS.2.1 q h1 h2
    · rcases List.mem_append.mp hq with h | h
      · exact hS.2.2 q h
      · exact hF _ (hL q h)
  obtain ⟨t2, a1, b1⟩ := kk w' hq ι' hag T'.heap (locs ++ L) (by rw [e1]; exact hP1) (hD1.weaken (fun k q _ h => hF q.1 h)) hS' T' rfl X'
  exact ⟨t2, st t2 a1, b1⟩
theorem zl_callI {p : Program} {l : Launch} {e : Env} {s : State} {m : MethodId} {args : Array Value} {below : List Frame} {meth : Method} {c : Code} {D : va_G} {A : Nat → Prop} {H0 : Heap} {Q : State → Prop} {H : Heap} {locs : List Loc} {ls : Array Slot} {rest : List Value} {y : MethodName} {bytes : ByteArray} {maxL d' index b mc' ms' : Nat} {Sp : List Value → List va_E → (List va_E → Prop) → Prop} (Qr : List va_E → Prop)
    (hC : zOK (p, l, e, room_1, s, m, args, below, meth, c, D, A, H0, Q) τ room_1 RL cL_law 6) (hO : zAO s) (hP : va_P D vwCl (zW ι τ w) H) (hD : va_D A (zW ι τ w)) (hS : va_S A H0 H locs) (hls : ls.size = 6) (hdg : decode cL_law pc = .ok (.invokespecial index, 3)) (hlink : Cond.methodLink RL index y ∈ zT) (hm : zMi y bytes maxL 0) (hM : zMetN y bytes maxL d' mc' ms' Sp) (hd : d' + 1 ≤ 12) (hkc : kc + mc' ≤ 600000) (hks : ks + ms' ≤ 7302250) (hrest : (rest.map fun v => v.category).sum ≤ 8) (hSp : Sp [.ref b] w Qr)
    (kk : ∀ w', Qr w' → ∀ ι', (∀ k, k < w.length → ι' k = ι k) → ∀ (H1 : Heap) (locs1 : List Loc), va_P D vwCl (zW ι' τ w') H1 → va_D A (zW ι' τ w') → va_S A H0 H1 locs1 → W p l e room_1 s m args below meth c H1 locs1 (kc + mc') (ks + ms') Q (F0 m (pc + 3) ls rest)) : W p l e room_1 s m args below meth c H locs kc ks Q (F0 m pc ls (.ref (ι b) :: rest)) := by
  obtain ⟨hx, hb, hml, hown, hts, hK, hN, hR, hlk, hA⟩ := hC
  obtain ⟨h18, hM⟩ := hM
  have hM' := hM l D ι τ [.ref b] w H.size Qr hSp
  obtain ⟨hcode, hini, hins, hnm, hd1, hd2, hd3⟩ := hm
  have h448 : room_1.locals = 448 := rfl
  have cw : CallB room_1 s args RL index y bytes maxL none (.code y bytes maxL none :: zT) (zrm d' mc' ms') mc' ms' 0 ∧ y.name = "<init>" ∧ (Cond.instanceMethod y).before args s = true := ⟨callB_of 0 hts (zT_in hcode) rfl rfl rfl (hts _ hini) (hts _ hlink) ⟨hd1, hd2, hd3⟩ ⟨hd, by rw [h448]; show 8 + (maxL + 11) + 37 * d' ≤ 448; omega⟩, hnm, hts _ hins⟩
  exact zl_backN (va_runI (As := []) (rest := rest) (b := ι b) ⟨hx, hb, hml, hown, hts⟩ hM' cw ⟨zPcN_blind, fun U hU hW => ⟨rfl, by rw [hU], ⟨by rw [hU]; exact hP, va_K.moved hW.alike hK, hD.weaken (fun _ _ _ _ => trivial), zNw_moved hW hN⟩, zAO.moved hW.alike hO⟩⟩ rfl rfl hls rfl (by show 2 * 0 + _ ≤ 8; omega) hdg ⟨by exact hkc, by exact hks⟩) hD hS hA kk
end ZL

theorem cls_known {args : Array Value} {s : State} (hT : ∀ w ∈ zT, w.before args s = true) : ∃ (dC : Nat → ClassId) (dI : Nat → Nat → Nat), ∀ (k : Nat) (q : vw_C), vwCl[k]? = some q → u_Kn s q.1 q.2.1 q.2.2 (dC k) (dI k) := by
  have h0 := u_known (C := RX0) (T := TX0) (N := 11) (n := 11) hT iX0 (hT _ (zT_d (by decide +kernel) (by decide +kernel)))
  have h1 := u_known (C := RX1) (T := TX1) (N := 5) (n := 5) hT iX1 (hT _ (zT_d (by decide +kernel) (by decide +kernel)))
  have h2 := u_known (C := RX2) (T := TX2) (N := 4) (n := 4) hT iX2 (hT _ (zT_d (by decide +kernel) (by decide +kernel)))
  have h3 := u_known (C := RX3) (T := TX3) (N := 3) (n := 3) hT iX3 (hT _ (zT_d (by decide +kernel) (by decide +kernel)))
  have h4 := u_known (C := RX4) (T := TX4) (N := 2) (n := 2) hT iX4 (hT _ (zT_d (by decide +kernel) (by decide +kernel)))
  have h5 := u_known (C := RX5) (T := TX5) (N := 2) (n := 2) hT iX5 (hT _ (zT_d (by decide +kernel) (by decide +kernel)))
  have h6 := u_known (C := RX6) (T := TX6) (N := 3) (n := 3) hT iX6 (hT _ (zT_d (by decide +kernel) (by decide +kernel)))
  have h7 := u_known (C := RX7) (T := TX7) (N := 2) (n := 2) hT iX7 (hT _ (zT_d (by decide +kernel) (by decide +kernel)))
  have h8 := u_known (C := RX8) (T := TX8) (N := 9) (n := 9) hT iX8 (hT _ (zT_d (by decide +kernel) (by decide +kernel)))
  have h : ∀ k : Nat, ∃ (cC : ClassId) (iS : Nat → Nat), ∀ q : vw_C, vwCl[k]? = some q → u_Kn s q.1 q.2.1 q.2.2 cC iS := by
    intro k
    match k with
    | 0 => obtain ⟨a, i, h⟩ := h0; exact ⟨a, i, fun q hq => by cases hq; exact h⟩
    | 1 => obtain ⟨a, i, h⟩ := h1; exact ⟨a, i, fun q hq => by cases hq; exact h⟩
    | 2 => obtain ⟨a, i, h⟩ := h2; exact ⟨a, i, fun q hq => by cases hq; exact h⟩
    | 3 => obtain ⟨a, i, h⟩ := h3; exact ⟨a, i, fun q hq => by cases hq; exact h⟩
    | 4 => obtain ⟨a, i, h⟩ := h4; exact ⟨a, i, fun q hq => by cases hq; exact h⟩
    | 5 => obtain ⟨a, i, h⟩ := h5; exact ⟨a, i, fun q hq => by cases hq; exact h⟩
    | 6 => obtain ⟨a, i, h⟩ := h6; exact ⟨a, i, fun q hq => by cases hq; exact h⟩
    | 7 => obtain ⟨a, i, h⟩ := h7; exact ⟨a, i, fun q hq => by cases hq; exact h⟩
    | 8 => obtain ⟨a, i, h⟩ := h8; exact ⟨a, i, fun q hq => by cases hq; exact h⟩
    | k + 9 => obtain ⟨a, i, -⟩ := h0; exact ⟨a, i, fun q hq => absurd (List.getElem?_eq_some_iff.mp hq).1 (by show ¬ k + 9 < 9; omega)⟩
  exact ⟨fun k => (h k).choose, fun k => (h k).choose_spec.choose, fun k q hq => (h k).choose_spec.choose_spec q hq⟩
theorem ty_prim {args : Array Value} {s : State} {ty : FieldType} (h : (Cond.arrayClass ty).before args s = true) : ∃ c, ArrOfT s c ty ∧ s.vm.findClass ("[" ++ ty.toString) = some c := by
  obtain ⟨cA, kA, comp, h1, h2, h3⟩ := Cond.arrayClass_spec h
  exact ⟨cA, fun n z => ⟨fun k h => (by cases h), kA, h2, comp, h3⟩, h1⟩
theorem ty_obj {s : State} {Cn : String} (h : va_AO Cn s) : ∃ c, ArrOfT s c (.object Cn) ∧ va_RA s c (.object Cn) := by
  obtain ⟨comp, c, k, h1, -, h3, h4, h5⟩ := Cond.arrayOver_spec h
  exact ⟨c, fun n z => ⟨fun k h => (by cases h), k, h3, comp, h4⟩, k, comp, h3, h4, h1, h5⟩
theorem ty_known {args : Array Value} {s : State} (hT : ∀ w ∈ zT, w.before args s = true) (hO : zAO s) : ∃ τ : Nat → ClassId, ∀ (k : Nat) (q : ClassId × FieldType), (ztys τ)[k]? = some q → ArrOfT s q.1 q.2 ∧ va_RA s q.1 q.2 := by
  obtain ⟨c0, a0, b0⟩ := ty_prim (hT _ aw_int)
  obtain ⟨c1, a1, b1⟩ := ty_prim (hT _ aw_long)
  obtain ⟨c2, a2, b2⟩ := ty_prim (hT _ aw_bool)
  obtain ⟨c3, a3, b3⟩ := ty_prim (hT _ aw_char)
  obtain ⟨c4, a4, b4⟩ := ty_obj hO.1
  obtain ⟨c5, a5, b5⟩ := ty_obj hO.2
  refine ⟨fun k => match k with | 0 => c0 | 1 => c1 | 2 => c2 | 3 => c3 | 4 => c4 | _ => c5, fun k q hq => ?_⟩
  match k with
  | 0 => cases hq; exact ⟨a0, b0⟩
  | 1 => cases hq; exact ⟨a1, b1⟩
  | 2 => cases hq; exact ⟨a2, b2⟩
  | 3 => cases hq; exact ⟨a3, b3⟩
  | 4 => cases hq; exact ⟨a4, b4⟩
  | 5 => cases hq; exact ⟨a5, b5⟩
  | k + 6 => exact absurd (List.getElem?_eq_some_iff.mp hq).1 (by show ¬ k + 6 < 6; omega)
theorem zNw_of {args : Array Value} {s : State} (hts : ∀ w ∈ lw_tbl, w.before args s = true) : zNw s := by
  intro w hw
  have h1 := hts w (zNest_lw w hw)
  simp only [zNest, List.mem_cons, List.mem_nil_iff, or_false] at hw
  rcases hw with rfl | rfl | rfl | rfl | rfl | rfl | rfl | rfl | rfl | rfl <;> exact va_Nw.of rfl h1
abbrev fs8 : List Value := [.null, .null, .null, .null, .int 0, .null, .null, .null, .null]
theorem zl_new {p : Program} {l : Launch} {e : Env} {s : State} {m : MethodId} {args : Array Value} {below : List Frame} {meth : Method} {c : Code} {D : va_G} {A : Nat → Prop} {H0 : Heap} {Q : State → Prop} {H : Heap} {locs : List Loc} {ls : Array Slot} {rest : List Value} {τ : Nat → ClassId} {ι : Nat → Nat} {kc ks pc : Nat} {w : List va_E}
    (hC : zOK (p, l, e, room_1, s, m, args, below, meth, c, D, A, H0, Q) τ room_1 RL cL_law 6) {index ci N : Nat} {fs : List Value} (hdg : decode cL_law pc = .ok (.new index, 3)) (hN : zNw1 RL index ci N fs) (hno : ∀ v ∈ fs, ∀ a, v ≠ .ref a) (hkc : kc + 1 ≤ 600000) (hks : ks + N ≤ 7302250) (hw : zBd w.length w) (hP : va_P D vwCl (zW ι τ w) H) (hD : va_D A (zW ι τ w)) (hS : va_S A H0 H locs)
    (kk : ∀ ι', (∀ k, k < w.length → ι' k = ι k) → ∀ H1, va_P D vwCl (zW ι' τ (w ++ [.inr (ci, fs)])) H1 → va_D A (zW ι' τ (w ++ [.inr (ci, fs)])) → va_S A H0 H1 locs → W p l e room_1 s m args below meth c H1 locs (kc + 1) (ks + N) Q (F0 m (pc + 3) ls (.ref (ι' w.length) :: rest))) : W p l e room_1 s m args below meth c H locs kc ks Q (F0 m pc ls rest) := by
  obtain ⟨Cn, T, ty, hc, hin, hty, hdef, hcl, hinst, hini⟩ := hN
  obtain ⟨hx, hb, hml, hown, hts, hK, hNw, hR, hlk, hA⟩ := hC
  refine va_new (ci := ci) (fs := fs) hx hb hts hin ty hty hown (hts _ hcl) (hts _ hinst) (hts _ hini) hK hP hD hS hA hc hdef (by exact hkc) (by exact hks) hdg (fun q H1 hP1 hD1 hS1 => ?_)
  have hag : ∀ k, k < w.length → zext ι w.length q k = ι k := zext_ag
  have e1 : zW (zext ι w.length q) τ (w ++ [.inr (ci, fs)]) = zW ι τ w ++ [(q, .inr (ci, fs))] := by
    rw [zW_push hag hw, zext_at, zca_o, znoref hno]
  have k1 := kk (zext ι w.length q) hag H1 (by rw [e1]; exact hP1) (by rw [e1]; exact hD1) hS1
  rw [zext_at] at k1
  exact k1
theorem nw_L_9 : zNw1 RL 9 8 9 fs8 := ⟨RX8, TX8, tyX8, rfl, iX8, tyX8_ok, fun j hj => (by rcases (by omega : j = 0 ∨ j = 1 ∨ j = 2 ∨ j = 3 ∨ j = 4 ∨ j = 5 ∨ j = 6 ∨ j = 7 ∨ j = 8) with rfl | rfl | rfl | rfl | rfl | rfl | rfl | rfl | rfl <;> rfl), zT_d (by decide +kernel) (by decide +kernel), zT_d (by decide +kernel) (by decide +kernel), zT_d (by decide +kernel) (by decide +kernel)⟩
