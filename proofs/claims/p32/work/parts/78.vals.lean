/-! WHAT CALLS ANSWER, where the numbers are as told -/
theorem fc_0 (G : zG) : fCount (nI 0) G = nI (sm (G.1 0) 1) := by unfold fCount; rw [mm_yes (show 0 < 9 by decide) (by decide)]; rfl
theorem fc_1 (G : zG) : fCount (nI 1) G = nI (cms G.1) := by unfold fCount; rw [mm_yes (show 1 < 9 by decide) (by decide)]; rfl
theorem fc_2 (G : zG) : fCount (nI 2) G = nI (lvs G.1) := by unfold fCount; rw [mm_yes (show 2 < 9 by decide) (by decide)]; rfl
theorem fc_3 (G : zG) : fCount (nI 3) G = nI (sls G.1) := by unfold fCount; rw [mm_yes (show 3 < 9 by decide) (by decide)]; rfl
theorem fc_4 (G : zG) : fCount (nI 4) G = nI (G.1 6 0) := by unfold fCount; rw [mm_yes (show 4 < 9 by decide) (by decide)]; rfl
theorem fc_5 (G : zG) : fCount (nI 5) G = nI (G.1 6 1) := by unfold fCount; rw [mm_yes (show 5 < 9 by decide) (by decide)]; rfl
theorem fc_6 (G : zG) : fCount (nI 6) G = nI (G.1 6 2) := by unfold fCount; rw [mm_yes (show 6 < 9 by decide) (by decide)]; rfl
theorem fc_7 (G : zG) : fCount (nI 7) G = if sm (G.1 0) 1 = 0 then nI 0 else nI (zan (sm (G.1 0) 1) (G.1 9 (key G.1 1))) := by unfold fCount; rw [mm_yes (show 7 < 9 by decide) (by decide)]; rfl
theorem fc_8 (G : zG) : fCount (nI 8) G = nI G.2.1.2 := by unfold fCount; rw [mm_yes (show 8 < 9 by decide) (by decide)]; rfl
theorem fc_7w {G : zG} (w : WS G.1) : fCount (nI 7) G = nI 0 := by
  rw [fc_7]
  split
  · rfl
  · rw [zan_all w]
theorem fc_7o {G : zG} {m : Nat} (hI : INV G.1) (hm : m < 16) (h0 : G.1 0 m ≠ 0) (hn : hd G.1 m (key G.1 1) = false) (hp : ∀ j, j < 16 → j ≠ m → G.1 0 j ≠ 0 → hd G.1 j (key G.1 1) = true) : fCount (nI 7) G = nI (2 ^ m) := by
  rw [fc_7, if_neg (sm_of hm (bn_root _ (hI.ok.lt hm) h0)), zan_one hI hm h0 hn hp]
theorem fmem {G : zG} {m w : Nat} (hm : m < 16) (hw : w < 6) : fMember (nI m) (nI w) G = aMember G.1 m w := by unfold fMember; rw [mm_yes hm (by decide), mm_yes hw (by decide)]
theorem fnod {G : zG} {v w : Nat} (h1 : 1 ≤ v) (h2 : v ≤ 31) (hw : w < 3) : fNode (nI v) (nI w) G = aNode G.1 v w := by unfold fNode; rw [rg_yes h1 h2 (by decide), mm_yes hw (by decide)]
theorem fnod1 {G : zG} {v : Nat} (h1 : 1 ≤ v) (h2 : v ≤ 31) : fNode (nI v) (nI 1) G = nI (sm (G.1 0) v) := (fnod h1 h2 (by decide)).trans rfl
theorem fkey {G : zG} {k w : Nat} (hg : GI G) (hk : k < G.1 6 0) (hw : w < 4) : fKey (nI k) (nI w) G = aKey G.1 k w := by
  have := hg.1.made
  unfold fKey
  rw [mm_yes hk (by omega), mm_yes hw (by decide)]
theorem flet {G : zG} {i w : Nat} (hg : GI G) (hi : i < G.1 6 1) (hw : w < 3) : fLetter (nI i) (nI w) G = aLetter G.1 i w := by
  have := hg.1.written
  unfold fLetter
  rw [mm_yes hi (by omega), mm_yes hw (by decide)]
theorem fwhy {G : zG} {m i : Nat} (hg : GI G) (hm : m < 16) (hi : i < G.1 6 1) : fWhy (nI m) (nI i) G = nI (wsh G.1 m (G.1 11 i)) := by
  have := hg.1.written
  unfold fWhy
  rw [mm_yes hm (by decide), mm_yes hi (by omega)]
theorem fopn {G : zG} {s k : Nat} (hg : GI G) (hs : s < 65536) (hk : k < G.1 6 0) : fOpens (nI s) (nI k) G = zb ((opr G.1 (f0 G.1 s) 232).1 k) := by
  have := hg.1.made
  unfold fOpens
  rw [mm_yes hs (by decide), mm_yes hk (by omega)]
theorem fdue0 (G : zG) : fDue (nI 0) G = nI (ltr (lfD G.1) (chD G.1) 15) := by unfold fDue; rw [mm_yes (show 0 < 2 by decide) (by decide)]; rfl
theorem fdue1 (G : zG) : fDue (nI 1) G = nI (sgC G.1 16).2 := by unfold fDue; rw [mm_yes (show 1 < 2 by decide) (by decide)]; rfl
theorem flck {G : zG} {m c w : Nat} (hm : m < 16) (hc : c < 11) (hw : w < 2) : fLuck (nI m) (nI c) (nI w) G = if G.1 0 m ≠ 0 then nI (lbase c w ^ fa_cnt (nlp G.1 m) (G.1 6 1)) else -2 := by
  unfold fLuck
  rw [mm_yes hm (by decide), mm_yes hc (by decide), mm_yes hw (by decide)]
theorem fcom {G : zG} {m : Nat} (hm : m < 16) (h : G.1 0 m = 0 ∧ G.1 1 m ≠ 1) : fCome (nI m) G = (nI (pcn 16 (cms (dset G.1 1 m 1))), gset (gkp G) (dset G.1 1 m 1)) := by unfold fCome; rw [mm_yes hm (by decide)]; exact if_pos h
theorem fcomN {G : zG} {m : Nat} (hm : m < 16) (h : ¬ (G.1 0 m = 0 ∧ G.1 1 m ≠ 1)) : fCome (nI m) G = (-2, G) := by unfold fCome; rw [mm_yes hm (by decide)]; exact if_neg h
theorem flea {G : zG} {m : Nat} (hm : m < 16) (h : G.1 0 m ≠ 0 ∧ G.1 1 m ≠ 2) : fLeave (nI m) G = (nI (pcn 16 (lvs (dset G.1 1 m 2))), gset (gkp G) (dset G.1 1 m 2)) := by unfold fLeave; rw [mm_yes hm (by decide)]; exact if_pos h
theorem fleaN {G : zG} {m : Nat} (hm : m < 16) (h : ¬ (G.1 0 m ≠ 0 ∧ G.1 1 m ≠ 2)) : fLeave (nI m) G = (-2, G) := by unfold fLeave; rw [mm_yes hm (by decide)]; exact if_neg h
theorem fbat {G : zG} (h : brf G.1 = nI 0) : fBatch G = (nI (btc G.1 6 1 - G.1 6 1), gset (gkp G) (btc G.1)) := if_pos h
theorem fbatN {G : zG} (h : brf G.1 ≠ nI 0) : fBatch G = (brf G.1, G) := if_neg h
theorem fslp {G : zG} {m : Nat} (hm : m < 16) (h : G.1 0 m ≠ 0 ∧ G.1 2 m ≠ 1) : fLate (nI m) (nI 1) G = (nI 0, gset (gkp G) (dset G.1 2 m 1)) := by unfold fLate; rw [mm_yes hm (by decide), mm_yes (show 1 < 2 by decide) (by decide)]; exact if_pos h
theorem fslpN {G : zG} {m : Nat} (hm : m < 16) (h : ¬ (G.1 0 m ≠ 0 ∧ G.1 2 m ≠ 1)) : fLate (nI m) (nI 1) G = (-2, G) := by unfold fLate; rw [mm_yes hm (by decide), mm_yes (show 1 < 2 by decide) (by decide)]; exact if_neg h
theorem fwak {G : zG} {m : Nat} (hm : m < 16) (h : G.1 2 m = 1) : fLate (nI m) (nI 0) G = (nI (rds m (G.1 3 m) (dset G.1 2 m 0) (G.1 6 1 - G.1 3 m)).2, gset (gkp G) (rdm m (dset G.1 2 m 0))) := by unfold fLate; rw [mm_yes hm (by decide), mm_yes (show 0 < 2 by decide) (by decide)]; exact if_pos h
theorem fwakN {G : zG} {m : Nat} (hm : m < 16) (h : G.1 2 m ≠ 1) : fLate (nI m) (nI 0) G = (-2, G) := by unfold fLate; rw [mm_yes hm (by decide), mm_yes (show 0 < 2 by decide) (by decide)]; exact if_neg h
theorem flos {G : zG} {m n : Nat} (hm : m < 16) (h1 : 1 ≤ n) (h2 : n ≤ 40) (h : G.1 2 m = 1) : fLose (nI m) (nI n) G = (nI (min n (G.1 6 1 - G.1 3 m)), gset (gkp G) (dset G.1 3 m (G.1 3 m + min n (G.1 6 1 - G.1 3 m)))) := by unfold fLose; rw [mm_yes hm (by decide), rg_yes h1 h2 (by decide)]; exact if_pos h
theorem flosN {G : zG} {m n : Nat} (hm : m < 16) (h1 : 1 ≤ n) (h2 : n ≤ 40) (h : G.1 2 m ≠ 1) : fLose (nI m) (nI n) G = (-2, G) := by unfold fLose; rw [mm_yes hm (by decide), rg_yes h1 h2 (by decide)]; exact if_neg h
theorem fmnd {G : zG} {m : Nat} (hm : m < 16) (h : mrf G.1 m = nI 0) : fMend (nI m) G = (nI (mnd m G.1 6 1 - G.1 6 1), gset (gkp G) (mnd m G.1)) := by unfold fMend; rw [mm_yes hm (by decide)]; exact if_pos h
theorem m2_0 : (-2 : Int32) ≠ nI 0 := by decide
theorem fmndN {G : zG} {m : Nat} (hm : m < 16) (h : mrf G.1 m = -2) : fMend (nI m) G = (-2, G) := by
  unfold fMend
  rw [mm_yes hm (by decide)]
  show (if mrf G.1 m = nI 0 then _ else (mrf G.1 m, G)) = _
  rw [h]
  exact if_neg m2_0
/-! contracts whose methods read the script: it lies at the place 245, apart from all cells -/
def zSc : zCx → (Nat → Nat) → Nat → (Nat → Int32) → Prop
  | (_, _, _, _, s, _, _, _, _, _, _, A, H0, _), ι, L, xs => va_X (ι 245) L xs s H0 ∧ ι 245 < H0.size ∧ ¬ A (ι 245)
def zPcS (D : va_G) (ι : Nat → Nat) (τ : Nat → ClassId) (L : Nat) (xs : Nat → Int32) (av : List Value) (w : List va_E) (sz : Nat) : Array Value → State → Prop := va_Pc (av.map (zcv ι)) (fun U => U.heap.size = sz ∧ zB D ι τ w (fun _ => True) U ∧ va_X (ι 245) L xs U U.heap ∧ ¬ va_A (zW ι τ w) sz (ι 245))
def zMetS (y : MethodName) (bytes : ByteArray) (maxL : Nat) (ret : Option FieldType) (d : Nat) (Sp : Nat → (Nat → Int32) → List Value → List va_E → (Option Value → List va_E → Prop) → Prop) : Prop :=
  maxL ≤ 18 ∧ ∀ (l : Launch) (D : va_G) (ι : Nat → Nat) (τ : Nat → ClassId) (av : List Value) (w : List va_E) (sz : Nat) (Qr : Option Value → List va_E → Prop) (L : Nat) (xs : Nat → Int32), Sp L xs av w Qr →
    Met l y (.code y bytes maxL ret :: zT) (zrm d 0 0) (zPcS D ι τ L xs av w sz) (zQc D ι τ Qr (va_A (zW ι τ w) sz)) 0 0 (va_A (zW ι τ w) sz)
theorem va_A_lt {ws : va_W} {sz q : Nat} (h : ¬ va_A ws sz q) : q < sz := by
  rcases Nat.lt_or_ge q sz with z | z
  · exact z
  · exact absurd (Or.inr z) h
theorem zPcS_blind {D : va_G} {ι : Nat → Nat} {τ : Nat → ClassId} {L : Nat} {xs : Nat → Int32} {av : List Value} {w : List va_E} {sz : Nat} : FrameBlind (zPcS D ι τ L xs av w sz) := by
  intro a U g mk q
  obtain ⟨q0, q1, ⟨qP, qK, qD, qN⟩, qX, qA⟩ := q
  exact ⟨q0, q1, ⟨qP, va_K.moved (u := U) (U := U.calling g mk a) (Vm.Alike.refl U.vm) qK, qD, zNw_vm (u := U) (U := U.calling g mk a) rfl qN⟩, va_X.moved (u := U) (U := U.calling g mk a) (Vm.Alike.refl U.vm) qX, qA⟩
set_option maxHeartbeats 1000000 in
theorem zMetS.of {y : MethodName} {bytes : ByteArray} {maxL d : Nat} {ret : Option FieldType} {Sp : Nat → (Nat → Int32) → List Value → List va_E → (Option Value → List va_E → Prop) → Prop} (hy : plainName y.cls = true) (h18 : maxL ≤ 18) (hn : ∀ L xs av w Qr, Sp L xs av w Qr → (lg_sl av).length ≤ maxL)
    (body : ∀ (C : zCx) (τ : Nat → ClassId) (ι : Nat → Nat) (av : List Value) (w : List va_E) (Qr : Option Value → List va_E → Prop) (L : Nat) (xs : Nat → Int32), Sp L xs av w Qr → zOK C τ (zrm d 0 0) y.cls bytes maxL → zSc C ι L xs → zRet C τ ι ret Qr → zR C τ ι maxL 0 0 0 (lv_args 0 av) [] w) : zMetS y bytes maxL ret d Sp := by
  refine ⟨h18, fun l D ι τ av w sz Qr L xs hSp => ?_⟩
  refine Met.ofW (cc := bytes) (maxL := maxL) (ret := ret) hy rfl ?_
  intro p e s m args below meth c s₁ B hml hv
  obtain ⟨rfl, hsz, ⟨hP, hK, hD0, hN⟩, hX, hXA⟩ := hv
  subst hsz
  have hts := atoms_spec (ws := (.code y bytes maxL ret :: zT)) B.pre
  have hD := hD0.self (sz := s.heap.size)
  have hA : ∀ q : Nat, s.heap.size ≤ q → va_A (zW ι τ w) s.heap.size q := fun q h => Or.inr h
  have hl := lv_entry (av.map (zcv ι)) (n := maxL) (by rw [zlg]; exact hn L xs av w Qr hSp)
  rw [lg_entry_eq]
  rw [zlv_args] at hl
  exact body (p, l, e, (headSpec (.code y bytes maxL ret :: zT) (zrm d 0 0)).room, s, m, (av.map (zcv ι)).toArray, below, meth, c, D, va_A (zW ι τ w) s.heap.size, s.heap, MQ below (zQc D ι τ Qr (va_A (zW ι τ w) s.heap.size)) (av.map (zcv ι)).toArray s 0 0 (va_A (zW ι τ w) s.heap.size)) τ ι av w Qr L xs hSp
    ⟨B.exec, B.bytes, hml, findClass_of_methodNamed B.named, fun w hw => hts w (List.mem_cons_of_mem _ hw), hK, hN, rfl, B.notSynchronized, hA⟩ ⟨hX, va_A_lt hXA, hXA⟩ ⟨rfl, B.returns, rfl⟩ s.heap [] _ hP hD va_S.rf hl
section ZL
variable {C : zCx} {τ : Nat → ClassId} {ι : Nat → Nat} {R : Room} {own : String} {cc : ByteArray} {nL kc ks pc d mc ms : Nat} {lv : List (Nat × Value)} {st : List Value} {w : List va_E} {L : Nat} {xs : Nat → Int32}
theorem zs_sld (hC : zOK C τ R own cc nL) (hX : zSc C ι L xs) {i : Int32} (hin : vp_in i L) (hdg : decode cc pc = .ok (.iaload, 1)) (kk : zR C τ ι nL kc ks (pc + 1) lv (.int (xs i.toNatClampNeg) :: st) w) : zR C τ ι nL kc ks pc lv (.int i :: .ref 245 :: st) w := by
  obtain ⟨p, l, e, R, s, m, args, below, meth, c, D, A, H0, Q⟩ := C
  obtain ⟨hx, hb, -⟩ := hC
  obtain ⟨h1, h2, h3⟩ := hX
  intro H locs ls hP hD hS hl
  exact va_sld hx hb h1 h2 h3 hS hin hdg (kk H locs ls hP hD hS hl)
theorem zs_slen (hC : zOK C τ R own cc nL) (hX : zSc C ι L xs) (hdg : decode cc pc = .ok (.arraylength, 1)) (kk : zR C τ ι nL kc ks (pc + 1) lv (.int (nI L) :: st) w) : zR C τ ι nL kc ks pc lv (.ref 245 :: st) w := by
  obtain ⟨p, l, e, R, s, m, args, below, meth, c, D, A, H0, Q⟩ := C
  obtain ⟨hx, hb, -⟩ := hC
  obtain ⟨h1, h2, h3⟩ := hX
  intro H locs ls hP hD hS hl
  exact va_slen hx hb h1 h2 h3 hS hdg (kk H locs ls hP hD hS hl)
theorem zSc.at {p : Program} {l : Launch} {e : Env} {R : Room} {s : State} {m : MethodId} {args : Array Value} {below : List Frame} {meth : Method} {c : Code} {D : va_G} {A : Nat → Prop} {H0 : Heap} {Q : State → Prop} (hX : zSc (p, l, e, R, s, m, args, below, meth, c, D, A, H0, Q) ι L xs) {H : Heap} {locs : List Loc} (hD : va_D A (zW ι τ w)) (hS : va_S A H0 H locs) : va_X (ι 245) L xs s H ∧ ¬ va_A (zW ι τ w) H.size (ι 245) := by
  obtain ⟨h1, h2, h3⟩ := hX
  refine ⟨h1.kept (hS.2.1 _ h2 h3), fun z => ?_⟩
  rcases z with ⟨k, e, hk⟩ | z
  · exact h3 (hD.2 k _ hk)
  · have := hS.1
    omega
/-- a static call that hands the script on -/
theorem zr_callSS (hC : zOK C τ (zrm d mc ms) own cc nL) (hX : zSc C ι L xs) {y : MethodName} {bytes : ByteArray} {maxL d' n index : Nat} {ret : Option FieldType} {Sp} {As rest : List Value} (hdg : decode cc pc = .ok (.invokestatic index, 3)) (hlink : Cond.methodLink own index y ∈ zT) (hm : zMs y bytes maxL ret n) (hM : zMetS y bytes maxL ret d' Sp) (hd : d' + 1 ≤ d) (hkc : kc ≤ mc) (hks : ks ≤ ms) (hn : As.length = n) (hrest : (rest.map fun v => v.category).sum ≤ 8)
    (kk : Sp L xs As w (fun r w' => zR C τ ι nL kc ks (pc + 3) lv (r.toList ++ rest) w')) {st0 : List Value} (hst : st0 = As.reverse ++ rest) : zR C τ ι nL kc ks pc lv st0 w := by
  subst hst
  obtain ⟨p, l, e, R', s, m, args, below, meth, c, D, A, H0, Q⟩ := C
  obtain ⟨hx, hb, hml, hown, hts, hK, hN, hR, hlk, hA⟩ := hC
  subst hR
  intro H locs ls hP hD hS hl
  obtain ⟨h18, hM⟩ := hM
  have hM' := hM l D ι τ As w H.size _ L xs kk
  obtain ⟨hcode, hini, hins, hd1, hd2, hd3⟩ := hm
  obtain ⟨hX1, hX2⟩ := hX.at (τ := τ) (w := w) hD hS
  have cw : CallB (zrm d mc ms) s args own index y bytes maxL ret (.code y bytes maxL ret :: zT) (zrm d' 0 0) 0 0 n ∧ (Cond.static y).before args s = true := ⟨callB_of n hts (zT_in hcode) rfl rfl rfl (hts _ hini) (hts _ hlink) ⟨hd1, hd2, hd3⟩ ⟨hd, by show 8 + (maxL + 11) + 37 * d' ≤ 37 * d; omega⟩, hts _ hins⟩
  refine zr_back (va_runS (As := As.map (zcv ι)) (rest := rest.map (zcv ι)) ⟨hx, hb, hml, hown, hts⟩ hM' cw ⟨zPcS_blind, fun U hU hW => ⟨rfl, by rw [hU], ⟨by rw [hU]; exact hP, va_K.moved hW.alike hK, hD.weaken (fun _ _ _ _ => trivial), zNw_moved hW hN⟩, by rw [hU]; exact va_X.moved hW.alike hX1, hX2⟩⟩ rfl (by simpa using hn) hl.1 ?_ (by show 2 * 0 + _ ≤ 8; rw [zcats]; omega) hdg ⟨by show kc + 0 ≤ mc; omega, by show ks + 0 ≤ ms; omega⟩) hP hD hS hA hl (fun r w' h => h)
  simp [List.map_reverse]
end ZL
abbrev zSpS : Type := Nat → (Nat → Int32) → zSp
def zLsS (Sp : zSpS) : Nat → (Nat → Int32) → List Value → List va_E → (Option Value → List va_E → Prop) → Prop := fun L xs av w Q => ∃ S, w = zcells S ∧ Sp L xs av S (fun r S' => Q r (zcells S'))
def zMS (y : MethodName) (bytes : ByteArray) (maxL : Nat) (ret : Option FieldType) (d : Nat) (Sp : zSpS) : Prop := zMetS y bytes maxL ret d (zLsS Sp)
theorem zMS.of {y : MethodName} {bytes : ByteArray} {maxL d : Nat} {ret : Option FieldType} {Sp : zSpS} (hy : plainName y.cls = true) (h18 : maxL ≤ 18) (hn : ∀ L xs av S Q, Sp L xs av S Q → (lg_sl av).length ≤ maxL)
    (body : ∀ (C : zCx) (τ : Nat → ClassId) (ι : Nat → Nat) (av : List Value) (S : zS) (Q : Option Value → zS → Prop) (Qr : Option Value → List va_E → Prop) (L : Nat) (xs : Nat → Int32), Sp L xs av S Q → (∀ r S', Q r S' → Qr r (zcells S')) → zOK C τ (zrm d 0 0) y.cls bytes maxL → zSc C ι L xs → zRet C τ ι ret Qr → zR C τ ι maxL 0 0 0 (lv_args 0 av) [] (zcells S)) : zMS y bytes maxL ret d Sp := by
  refine zMetS.of hy h18 (fun L xs av w Qr ⟨S, _, h⟩ => hn L xs av S _ h) (fun C τ ι av w Qr L xs ⟨S, hw, h⟩ hC hX hE => ?_)
  subst hw
  exact body C τ ι av S _ Qr L xs h (fun _ _ h => h) hC hX hE
theorem zs_callSS {C : zCx} {τ : Nat → ClassId} {ι : Nat → Nat} {own : String} {cc : ByteArray} {nL kc ks pc d mc ms L : Nat} {xs : Nat → Int32} {lv : List (Nat × Value)} {S : zS} (hC : zOK C τ (zrm d mc ms) own cc nL) (hX : zSc C ι L xs) {y : MethodName} {bytes : ByteArray} {maxL d' n index : Nat} {ret : Option FieldType} {Sp : zSpS} (As rest : List Value) (hdg : decode cc pc = .ok (.invokestatic index, 3)) (hlink : Cond.methodLink own index y ∈ zT) (hm : zMs y bytes maxL ret n) (hM : zMS y bytes maxL ret d' Sp) (hd : d' + 1 ≤ d) (hkc : kc ≤ mc) (hks : ks ≤ ms) (hn : As.length = n) (hrest : (rest.map fun v => v.category).sum ≤ 8) {st0 : List Value} (hst : st0 = As.reverse ++ rest)
    (kk : Sp L xs As S (fun r S' => zR C τ ι nL kc ks (pc + 3) lv (r.toList ++ rest) (zcells S'))) : zR C τ ι nL kc ks pc lv st0 (zcells S) :=
  zr_callSS hC hX (As := As) (rest := rest) hdg hlink hm hM hd hkc hks hn hrest ⟨S, rfl, kk⟩ hst
