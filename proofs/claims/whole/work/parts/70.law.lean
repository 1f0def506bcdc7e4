/-! THE LAW: its own words, the script's cell, its calls, its end (the first rows: the kit's skeleton) -/
def R_law : String := "KeyTreesLaw"
def lw_P (b : Addr) (xs : List Int32) (args : Array Value) (s : State) : Prop := args = #[.ref b] ∧ s.IntsAt b xs ∧ xs.length ≤ 3072 ∧ (Jvm.Cond.and given_1 narrow_1).before args s = true
def lw_Q (_ : Array Value) (s : State) (o : Outcome) (t : State) : Prop := o = .returned (some (.int 1)) ∧ Framed s o t [] 600000 7302250
def lw_Z (below : List Frame) (a : Array Value) (s : State) : State → Prop := fun t => ∃ o, t.status = .running ∧ Ended t below o ∧ lw_Q a s o t
/-- the law's own end, with 1 on the stack, nothing written that was there before, its room as the claim has it -/
theorem lw_ret {p : Program} {l : Launch} {e : Env} {s : State} {m : MethodId} {below : List Frame} {meth : Method} {c : Code} {b : Nat} (hx : p.tables.exec = Jvm.exec) (hb : c.code = code) (hr : meth.sig.returnType = ret) (hlocks : meth.locks = false) {pc : Nat} {H : Heap} {ls : Array Slot} (hdg : decode code pc = .ok (.ireturn, 1)) : W p l e room_1 s m #[Value.ref b] below meth c H [] 600000 7302250 (lw_Z below #[Value.ref b] s) (F0 m pc ls [.int 1]) := by
  intro T hT X
  obtain ⟨fs, hret, hrun, hended, hW, hframe⟩ := X.leave (v := some (.int 1)) (hlocks := hlocks) (fun h => by rw [hr] at h; cases h)
  have hmeth' : T.vm.method? m = some meth := X.method'
  refine ⟨T.setFrames fs, ?_, .returned (some (.int 1)), hrun, hended, rfl, ⟨_, rfl⟩, hW, hframe⟩
  jvm_step X.here [X.here.top, hx, hb, hdg, hmeth', hr, ret, narrow_b1]
  (try refine ⟨rfl, ?_⟩); (try refine ⟨rfl, ?_⟩)
  first | (intro acts; rw [hret _ acts rfl rfl rfl]) | rw [hret _ _ rfl rfl rfl]
  exact Steps.refl _
/-- what holds at the law's entry: the machine, the code, the tables' words (any of lw_tbl by 'hts w (by decide +kernel)'), the script of L ints xs at the cell b, what the Statement gives of the start (any of its parts by flat_of_before) -/
def lw_At (p : Program) (s : State) (m : MethodId) (meth : Method) (c : Code) (b L : Nat) (xs : Nat → Int32) : Prop :=
  p.tables.exec = Jvm.exec ∧ c.code = code ∧ meth.sig.returnType = ret ∧ c.maxLocals = 4 ∧ s.vm.findClass R_law = some m.cls ∧ (∀ w ∈ lw_tbl, w.before #[Value.ref b] s = true) ∧ va_X b L xs s s.heap ∧ b < s.heap.size ∧ meth.locks = false ∧ (Jvm.Cond.and given_1 narrow_1).before #[Value.ref b] s = true
/-- the script lies at the place 260, apart from all cells -/
def zSc : zCx → (Nat → Nat) → Nat → (Nat → Int32) → Prop
  | (_, _, _, _, s, _, _, _, _, _, _, A, H0, _), ι, L, xs => va_X (ι 260) L xs s H0 ∧ ι 260 < H0.size ∧ ¬ A (ι 260)
/-- the law's own end is what its body comes to -/
def zLw : zCx → Prop
  | (_, _, _, R, s, _, args, below, meth, _, _, A, H0, Q) => ∃ b, args = #[Value.ref b] ∧ R = room_1 ∧ meth.sig.returnType = ret ∧ Q = lw_Z below #[Value.ref b] s ∧ H0 = s.heap ∧ A = fun q => s.heap.size ≤ q
section ZL
variable {C : zCx} {τ : Nat → ClassId} {ι : Nat → Nat} {kc ks pc : Nat} {lv : List (Nat × Value)} {st : List Value} {w : List va_E} {L : Nat} {xs : Nat → Int32}
theorem zl_sld (hC : zOK C τ room_1 RL cL_law 4) (hX : zSc C ι L xs) {i : Int32} (hin : vp_in i L) (hdg : decode cL_law pc = .ok (.iaload, 1)) (kk : zR C τ ι 4 kc ks (pc + 1) lv (.int (xs i.toNatClampNeg) :: st) w) : zR C τ ι 4 kc ks pc lv (.int i :: .ref 260 :: st) w := by
  obtain ⟨p, l, e, R, s, m, args, below, meth, c, D, A, H0, Q⟩ := C
  obtain ⟨hx, hb, -⟩ := hC
  obtain ⟨h1, h2, h3⟩ := hX
  intro H locs ls hP hD hS hl
  exact va_sld hx hb h1 h2 h3 hS hin hdg (kk H locs ls hP hD hS hl)
theorem zl_ld (hC : zOK C τ room_1 RL cL_law 4) (hX : zSc C ι L xs) {i : Nat} (hi : i < L) (hL : L ≤ 3072) (hdg : decode cL_law pc = .ok (.iaload, 1)) (kk : zR C τ ι 4 kc ks (pc + 1) lv (.int (xs i) :: st) w) : zR C τ ι 4 kc ks pc lv (.int (nI i) :: .ref 260 :: st) w := by
  refine zl_sld hC hX (vp_in_n hi (by omega)) hdg ?_
  rw [nI_toNat (by omega)]
  exact kk
theorem zl_slen (hC : zOK C τ room_1 RL cL_law 4) (hX : zSc C ι L xs) (hdg : decode cL_law pc = .ok (.arraylength, 1)) (kk : zR C τ ι 4 kc ks (pc + 1) lv (.int (nI L) :: st) w) : zR C τ ι 4 kc ks pc lv (.ref 260 :: st) w := by
  obtain ⟨p, l, e, R, s, m, args, below, meth, c, D, A, H0, Q⟩ := C
  obtain ⟨hx, hb, -⟩ := hC
  obtain ⟨h1, h2, h3⟩ := hX
  intro H locs ls hP hD hS hl
  exact va_slen hx hb h1 h2 h3 hS hdg (kk H locs ls hP hD hS hl)
theorem zl_callV (hC : zOK C τ room_1 RL cL_law 4) {y : MethodName} {bytes : ByteArray} {maxL d' n index b ci : Nat} {ret : Option FieldType} {Sp : zSp} {S : zS} (As rest : List Value) (hdg : decode cL_law pc = .ok (.invokevirtual index, 3)) (hlink : Cond.methodLink RL index y ∈ zT) (hm : zMv y bytes maxL ret n) (hM : zM y bytes maxL ret d' Sp) (hd : d' + 1 ≤ 12) (hkc : kc ≤ 600000) (hks : ks ≤ 7302250) (hn : As.length = n) {fl} (he : zsh b = .inl (ci, fl)) (hb0 : b < 260) (hcl : (vwCl[ci]?).map (fun q => q.1) = some y.cls) (hrest : (rest.map fun v => v.category).sum ≤ 8) {st0 : List Value} (hst : st0 = As.reverse ++ .ref b :: rest)
    (kk : Sp (.ref b :: As) S (fun r S' => zR C τ ι 4 kc ks (pc + 3) lv (r.toList ++ rest) (zcells S'))) : zR C τ ι 4 kc ks pc lv st0 (zcells S) := by
  subst hst
  obtain ⟨p, l, e, R', s, m, args, below, meth, c, D, A, H0, Q⟩ := C
  obtain ⟨hx, hb, hml, hown, hts, hK, hN, hR, hlk, hA⟩ := hC
  subst hR
  intro H locs ls hP hD hS hl
  obtain ⟨h18, hM⟩ := hM
  have hM' := hM l D ι τ (.ref b :: As) (zcells S) H.size _ ⟨S, rfl, kk⟩
  obtain ⟨hcode, hini, hins, hsel, hd1, hd2, hd3⟩ := hm
  obtain ⟨q, hq, hq1⟩ := Option.map_eq_some_iff.mp hcl
  have h448 : room_1.locals = 448 := rfl
  have cw : CallW room_1 s args RL y.cls index y bytes maxL ret (.code y bytes maxL ret :: zT) (zrm d' 0 0) 0 0 n := ⟨callB_of n hts (zT_in hcode) rfl rfl rfl (hts _ hini) (hts _ hlink) ⟨hd1, hd2, hd3⟩ ⟨hd, by rw [h448]; show 8 + (maxL + 11) + 37 * d' ≤ 448; omega⟩, hts _ hins, hts _ hsel⟩
  have he' : (zcells S)[b]? = some (zcell S b) := zc_at S hb0
  have he2 : ∃ fs, zcell S b = .inr (ci, fs) := by unfold zcell; rw [he]; exact ⟨_, rfl⟩
  obtain ⟨fs, hfs⟩ := he2
  rw [hfs] at he'
  refine zr_back (va_runV (As := As.map (zcv ι)) (rest := rest.map (zcv ι)) (b := ι b) ⟨hx, hb, hml, hown, hts⟩ hM' cw ⟨zPc_blind, ?_, fun U hU hW => ⟨rfl, by rw [hU], by rw [hU]; exact hP, va_K.moved hW.alike hK, hD.weaken (fun _ _ _ _ => trivial), zNw_moved hW hN⟩⟩ rfl (by simpa using hn) hl.1 ?_ (by show 2 * 0 + _ ≤ 8; rw [zcats]; omega) hdg ⟨by show kc + 0 ≤ 600000; omega, by show ks + 0 ≤ 7302250; omega⟩) hP hD hS hA hl (fun r w' h => h)
  · rw [← hq1]
    exact va_recv hK hP hq (zW_get he')
  · simp [List.map_reverse, zcv]
theorem zl_end (hC : zOK C τ room_1 RL cL_law 4) (hE : zLw C) (hkc : kc ≤ 600000) (hks : ks ≤ 7302250) (hdg : decode cL_law pc = .ok (.ireturn, 1)) : zR C τ ι 4 kc ks pc lv [.int 1] w := by
  obtain ⟨p, l, e, R', s, m, args, below, meth, c, D, A, H0, Q⟩ := C
  obtain ⟨hx, hb, hml, hown, hts, hK, hN, hR, hlk, hA⟩ := hC
  obtain ⟨b, rfl, rfl, hr, rfl, rfl, rfl⟩ := hE
  intro H locs ls hP hD hS hl
  refine va_forget (fun q hq => hS.2.2 q hq) ?_
  refine W.widen (k := 600000) (n := 7302250) hkc hks ?_
  exact lw_ret hx hb hr hlk hdg
/-- behind a constructor's call: the callee's end is the caller's next step -/
theorem zl_backN {p : Program} {l : Launch} {e : Env} {R : Room} {s : State} {m : MethodId} {args : Array Value} {below : List Frame} {meth : Method} {c : Code} {D : va_G} {A : Nat → Prop} {H0 : Heap} {Q : State → Prop} {H : Heap} {locs : List Loc} {ls : Array Slot} {a : Array Value} {rest st0 : List Value} {mc' ms' : Nat} {Qr : List va_E → Prop}
    (hr : va_Run p l e R s m args below meth c H locs kc ks mc' ms' (F0 m pc ls st0) rest (zQcN D ι w.length τ Qr (va_A (zW ι τ w) H.size) a) (va_A (zW ι τ w) H.size)) (hD : va_D A (zW ι τ w)) (hS : va_S A H0 H locs) (hA : ∀ q, H0.size ≤ q → A q)
    (kk : ∀ w', Qr w' → ∀ ι', (∀ k, k < w.length → ι' k = ι k) → ∀ (H1 : Heap) (locs1 : List Loc), va_P D vwCl (zW ι' τ w') H1 → va_D A (zW ι' τ w') → va_S A H0 H1 locs1 → W p l e R s m args below meth c H1 locs1 (kc + mc') (ks + ms') Q (F0 m (pc + 3) ls rest)) : W p l e R s m args below meth c H locs kc ks Q (F0 m pc ls st0) := by
  have hF : ∀ q, va_A (zW ι τ w) H.size q → A q := by
    intro q hq
    rcases hq with ⟨k, e, hk⟩ | hq
    · exact hD.2 k (q, e) hk
    · exact hA q (Nat.le_trans hS.1 hq)
  intro T hT X
  obtain ⟨v, st₀, t, T', L, h0, X', hL, e1, e2, ⟨⟨w', ι', hag, hv, hq, hP1, hK1, hD1, hN1⟩, hz, hk⟩, st⟩ := hr T hT X
  cases hv
  rw [h0] at hz hk
  have hS' : va_S A H0 T'.heap (locs ++ L) := by
    refine ⟨Nat.le_trans hS.1 (by rw [e1]; exact hz), fun q h1 h2 => ?_, fun q hq => ?_⟩
    · rw [e1, hk q (Nat.lt_of_lt_of_le h1 hS.1) (fun z => h2 (hF q z))]
      exact hS.2.1 q h1 h2
    · rcases List.mem_append.mp hq with h | h
      · exact hS.2.2 q h
      · exact hF _ (hL q h)
  obtain ⟨t2, a1, b1⟩ := kk w' hq ι' hag T'.heap (locs ++ L) (by rw [e1]; exact hP1) (hD1.weaken (fun k q _ h => hF q.1 h)) hS' T' rfl X'
  exact ⟨t2, st t2 a1, b1⟩
theorem zl_callI {p : Program} {l : Launch} {e : Env} {s : State} {m : MethodId} {args : Array Value} {below : List Frame} {meth : Method} {c : Code} {D : va_G} {A : Nat → Prop} {H0 : Heap} {Q : State → Prop} {H : Heap} {locs : List Loc} {ls : Array Slot} {rest : List Value} {y : MethodName} {bytes : ByteArray} {maxL d' index b mc' ms' : Nat} {Sp : List Value → List va_E → (List va_E → Prop) → Prop} (Qr : List va_E → Prop)
    (hC : zOK (p, l, e, room_1, s, m, args, below, meth, c, D, A, H0, Q) τ room_1 RL cL_law 4) (hO : zAO s) (hP : va_P D vwCl (zW ι τ w) H) (hD : va_D A (zW ι τ w)) (hS : va_S A H0 H locs) (hls : ls.size = 4) (hdg : decode cL_law pc = .ok (.invokespecial index, 3)) (hlink : Cond.methodLink RL index y ∈ zT) (hm : zMi y bytes maxL 0) (hM : zMetN y bytes maxL d' mc' ms' Sp) (hd : d' + 1 ≤ 12) (hkc : kc + mc' ≤ 600000) (hks : ks + ms' ≤ 7302250) (hrest : (rest.map fun v => v.category).sum ≤ 8) (hSp : Sp [.ref b] w Qr)
    (kk : ∀ w', Qr w' → ∀ ι', (∀ k, k < w.length → ι' k = ι k) → ∀ (H1 : Heap) (locs1 : List Loc), va_P D vwCl (zW ι' τ w') H1 → va_D A (zW ι' τ w') → va_S A H0 H1 locs1 → W p l e room_1 s m args below meth c H1 locs1 (kc + mc') (ks + ms') Q (F0 m (pc + 3) ls rest)) : W p l e room_1 s m args below meth c H locs kc ks Q (F0 m pc ls (.ref (ι b) :: rest)) := by
  obtain ⟨hx, hb, hml, hown, hts, hK, hN, hR, hlk, hA⟩ := hC
  obtain ⟨h18, hM⟩ := hM
  have hM' := hM l D ι τ [.ref b] w H.size Qr hSp
  obtain ⟨hcode, hini, hins, hnm, hd1, hd2, hd3⟩ := hm
  have h448 : room_1.locals = 448 := rfl
  have cw : CallB room_1 s args RL index y bytes maxL none (.code y bytes maxL none :: zT) (zrm d' mc' ms') mc' ms' 0 ∧ y.name = "<init>" ∧ (Cond.instanceMethod y).before args s = true := ⟨callB_of 0 hts (zT_in hcode) rfl rfl rfl (hts _ hini) (hts _ hlink) ⟨hd1, hd2, hd3⟩ ⟨hd, by rw [h448]; show 8 + (maxL + 11) + 37 * d' ≤ 448; omega⟩, hnm, hts _ hins⟩
  exact zl_backN (va_runI (As := []) (rest := rest) (b := ι b) ⟨hx, hb, hml, hown, hts⟩ hM' cw ⟨zPcN_blind, fun U hU hW => ⟨rfl, by rw [hU], ⟨by rw [hU]; exact hP, va_K.moved hW.alike hK, hD.weaken (fun _ _ _ _ => trivial), zNw_moved hW hN⟩, zAO.moved hW.alike hO⟩⟩ rfl rfl hls rfl (by show 2 * 0 + _ ≤ 8; omega) hdg ⟨by exact hkc, by exact hks⟩) hD hS hA kk
end ZL
/-! both objects' cells, and what each call does to the other's -/
theorem CG.fm {S S' : zS} {G : zG} (h : CG S G) (hI : GI G) (hf : zfm S S') : CG S' G := by
  obtain ⟨h1, h2, h3, h4, h5⟩ := h
  obtain ⟨i1, i2, i3, i4⟩ := hI
  have e : ∀ a, a < 245 → S'.1 a = S.1 a := fun a ha => (hf a ha).1
  have hC : CR S' G.1 := (CRb_1 i1).mp (((CRb_1 i1).mpr h1).fr i1 (fun a q1 q2 => e a (by omega)))
  exact ⟨hC, h2.fr i2 (e _ (by decide)) (fun a q1 q2 => e a (by omega)), ⟨by rw [e 0 (by decide)]; exact h3.1, fun q => ⟨(h3.2 q).1.fr (i3 q).1 (fun a q1 q2 => e a (by omega)), (h3.2 q).2.fr (i3 q).2 (e _ (by decide)) (fun a q1 q2 => e a (by omega))⟩⟩, h4.fr (e _ (by decide)) (e _ (by decide)), h5.fr (fun a q1 q2 => ⟨e a (by omega), (hf a (by omega)).2⟩)⟩
theorem MG.fc {S S' : zS} {G : zG} (h : MG S G) (hf : zfc S S') : MG S' G := h.same (hf 246 (by decide)).1 (fun k _ => by rw [(hf 245 (by decide)).1]) (fun a q1 q2 => (hf a (by omega)).1) (hf 257 (by decide)).2
