/-! THE JUDGEMENT zR: the machine in a method's body, its heap told as a list of cells whose references are places in that list -/
abbrev zCx : Type := Program × Launch × Env × Room × State × MethodId × Array Value × List Frame × Method × Code × va_G × (Nat → Prop) × Heap × (State → Prop)
def zcv (ι : Nat → Nat) : Value → Value
  | .ref a => .ref (ι a)
  | v => v
def zlv (ι : Nat → Nat) (lv : List (Nat × Value)) : List (Nat × Value) := lv.map fun q => (q.1, zcv ι q.2)
/-- a cell, references as places: an array's class is its type's place in ztys -/
def zca (ι : Nat → Nat) (τ : Nat → ClassId) : va_E → va_E
  | .inl (t, n, .inr (.inr (.inr (.inr f)))) => .inl (τ t, n, .inr (.inr (.inr (.inr (fun j => if j < n then (f j).map ι else none)))))
  | .inl (t, n, x) => .inl (τ t, n, x)
  | .inr (ci, fs) => .inr (ci, fs.map (zcv ι))
def zW (ι : Nat → Nat) (τ : Nat → ClassId) (w : List va_E) : va_W := w.mapIdx fun k e => (ι k, zca ι τ e)
def zty : Nat → FieldType
  | 0 => .int
  | 1 => .long
  | 2 => .boolean
  | 3 => .char
  | 4 => .object RX0
  | _ => .object RX6
def ztys (τ : Nat → ClassId) : List (ClassId × FieldType) := [(τ 0, .int), (τ 1, .long), (τ 2, .boolean), (τ 3, .char), (τ 4, .object RX0), (τ 5, .object RX6)]
def zrm (d mc ms : Nat) : Room := { frames := d, cells := mc, slots := ms, locals := 37 * d }
def zNw (U : State) : Prop := ∀ w ∈ zNest, va_Nw w U
def zset (i : Nat) (v : Value) (lv : List (Nat × Value)) : List (Nat × Value) := (i, v) :: lv.filter (fun q => !(q.1 == i) && !(q.1 + 1 == i && q.2.category == 2))
def zset2 (i : Nat) (v : Value) (lv : List (Nat × Value)) : List (Nat × Value) := (i, v) :: lv.filter (fun q => !(q.1 == i) && (!(q.1 == i + 1) && !(q.1 + 1 == i && q.2.category == 2)))
def zlk (i : Nat) : List (Nat × Value) → Option Value
  | [] => none
  | q :: l => if q.1 = i then some q.2 else zlk i l
theorem zlk_mem {i : Nat} {v : Value} : ∀ {l : List (Nat × Value)}, zlk i l = some v → (i, v) ∈ l
  | [], h => by cases h
  | q :: l, h => by
    unfold zlk at h
    split at h
    next e => cases h; subst e; exact List.mem_cons_self
    next => exact List.mem_cons_of_mem _ (zlk_mem h)
theorem zcat (ι : Nat → Nat) (v : Value) : (zcv ι v).category = v.category := by cases v <;> rfl
theorem zlv_set (ι : Nat → Nat) (i : Nat) (v : Value) (lv : List (Nat × Value)) : (i, zcv ι v) :: (zlv ι lv).filter (fun q => !(q.1 == i) && !(q.1 + 1 == i && q.2.category == 2)) = zlv ι (zset i v lv) := by
  simp only [zlv, zset, List.map_cons, List.filter_map]
  congr 3
  funext q
  simp [Function.comp, zcat]
theorem zlv_set2 (ι : Nat → Nat) (i : Nat) (v : Value) (lv : List (Nat × Value)) : (i, zcv ι v) :: (zlv ι lv).filter (fun q => !(q.1 == i) && (!(q.1 == i + 1) && !(q.1 + 1 == i && q.2.category == 2))) = zlv ι (zset2 i v lv) := by
  simp only [zlv, zset2, List.map_cons, List.filter_map]
  congr 3
  funext q
  simp [Function.comp, zcat]
theorem zW_get {ι : Nat → Nat} {τ : Nat → ClassId} {w : List va_E} {k : Nat} {e : va_E} (h : w[k]? = some e) : (zW ι τ w)[k]? = some (ι k, zca ι τ e) := by
  simp [zW, List.getElem?_mapIdx, h]
theorem zW_set {ι : Nat → Nat} {τ : Nat → ClassId} {w : List va_E} {k : Nat} (e : va_E) : (zW ι τ w).set k (ι k, zca ι τ e) = zW ι τ (w.set k e) := by
  apply List.ext_getElem?
  intro j
  simp only [zW, List.getElem?_set, List.getElem?_mapIdx, List.length_mapIdx]
  by_cases hj : k = j
  · subst hj
    by_cases hl : k < w.length <;> simp [hl]
  · simp [hj]
theorem zW_of {ι : Nat → Nat} {τ : Nat → ClassId} {w : List va_E} {k : Nat} {q : Nat × va_E} (h : (zW ι τ w)[k]? = some q) : ∃ e, w[k]? = some e ∧ q = (ι k, zca ι τ e) := by
  simp only [zW, List.getElem?_mapIdx, Option.map_eq_some_iff] at h
  obtain ⟨e, h1, h2⟩ := h
  exact ⟨e, h1, h2.symm⟩
theorem zca_i (ι : Nat → Nat) (τ : Nat → ClassId) (t n : Nat) (f : Nat → Int32) : zca ι τ (.inl (t, n, .inl f)) = .inl (τ t, n, .inl f) := rfl
theorem zca_l (ι : Nat → Nat) (τ : Nat → ClassId) (t n : Nat) (f : Nat → Int64) : zca ι τ (.inl (t, n, .inr (.inl f))) = .inl (τ t, n, .inr (.inl f)) := rfl
theorem zca_q (ι : Nat → Nat) (τ : Nat → ClassId) (t n : Nat) (f : Nat → Option Nat) : zca ι τ (.inl (t, n, .inr (.inr (.inr (.inr f))))) = .inl (τ t, n, .inr (.inr (.inr (.inr (fun j => if j < n then (f j).map ι else none))))) := rfl
theorem zca_o (ι : Nat → Nat) (τ : Nat → ClassId) (ci : Nat) (fs : List Value) : zca ι τ (.inr (ci, fs)) = .inr (ci, fs.map (zcv ι)) := rfl
/-- what stands ahead of a body's walk -/
def zOK : zCx → (Nat → ClassId) → Room → String → ByteArray → Nat → Prop
  | (p, _, _, R, s, m, args, _, meth, c, D, A, H0, _), τ, R', own, cc, nL => p.tables.exec = Jvm.exec ∧ c.code = cc ∧ c.maxLocals = nL ∧ s.vm.findClass own = some m.cls ∧ (∀ w ∈ zT, w.before args s = true) ∧ va_K D vwCl (ztys τ) s ∧ zNw s ∧ R = R' ∧ meth.locks = false ∧ (∀ q, H0.size ≤ q → A q)
def zR : zCx → (Nat → ClassId) → (Nat → Nat) → Nat → Nat → Nat → Nat → List (Nat × Value) → List Value → List va_E → Prop
  | (p, l, e, R, s, m, args, below, meth, c, D, A, H0, Q), τ, ι, nL, kc, ks, pc, lv, st, w => ∀ (H : Heap) (locs : List Loc) (ls : Array Slot), va_P D vwCl (zW ι τ w) H → va_D A (zW ι τ w) → va_S A H0 H locs → lv_has ls nL (zlv ι lv) → W p l e R s m args below meth c H locs kc ks Q (F0 m pc ls (st.map (zcv ι)))
theorem zlk_at {ι : Nat → Nat} {ls : Array Slot} {nL : Nat} {lv : List (Nat × Value)} (h : lv_has ls nL (zlv ι lv)) {i : Nat} {v : Value} (hk : zlk i lv = some v) : ls[i]? = some (.val (zcv ι v)) := h.2.2 (i, zcv ι v) (List.mem_map.mpr ⟨(i, v), zlk_mem hk, rfl⟩)
section ZR
variable {C : zCx} {τ : Nat → ClassId} {ι : Nat → Nat} {R : Room} {own : String} {cc : ByteArray} {nL kc ks pc : Nat} {lv : List (Nat × Value)} {st : List Value} {w : List va_E}
theorem zR_lv (lv' : List (Nat × Value)) (h : ∀ q ∈ lv', zlk q.1 lv = some q.2) (k : zR C τ ι nL kc ks pc lv' st w) : zR C τ ι nL kc ks pc lv st w := by
  obtain ⟨p, l, e, R, s, m, args, below, meth, c, D, A, H0, Q⟩ := C
  intro H locs ls hP hD hS hl
  refine k H locs ls hP hD hS ⟨hl.1, hl.2.1, fun q hq => ?_⟩
  obtain ⟨q0, h1, rfl⟩ := List.mem_map.mp hq
  exact zlk_at hl (h q0 h1)
theorem zr_iconst (hC : zOK C τ R own cc nL) {n : Int} (hdg : decode cc pc = .ok (.iconst n, 1)) (k : zR C τ ι nL kc ks (pc + 1) lv (.int (Int32.ofInt n) :: st) w) : zR C τ ι nL kc ks pc lv st w := by
  obtain ⟨p, l, e, R, s, m, args, below, meth, c, D, A, H0, Q⟩ := C
  obtain ⟨hx, hb, -⟩ := hC
  intro H locs ls hP hD hS hl
  exact lv_iconst hx hb hdg rfl (k H locs ls hP hD hS hl)
theorem zr_bipush (hC : zOK C τ R own cc nL) {n : Int} (hdg : decode cc pc = .ok (.bipush n, 2)) (k : zR C τ ι nL kc ks (pc + 2) lv (.int (Int8.ofInt n).toInt32 :: st) w) : zR C τ ι nL kc ks pc lv st w := by
  obtain ⟨p, l, e, R, s, m, args, below, meth, c, D, A, H0, Q⟩ := C
  obtain ⟨hx, hb, -⟩ := hC
  intro H locs ls hP hD hS hl
  exact lv_bipush hx hb hdg rfl (k H locs ls hP hD hS hl)
theorem zr_sipush (hC : zOK C τ R own cc nL) {n : Int} (hdg : decode cc pc = .ok (.sipush n, 3)) (k : zR C τ ι nL kc ks (pc + 3) lv (.int (Int16.ofInt n).toInt32 :: st) w) : zR C τ ι nL kc ks pc lv st w := by
  obtain ⟨p, l, e, R, s, m, args, below, meth, c, D, A, H0, Q⟩ := C
  obtain ⟨hx, hb, -⟩ := hC
  intro H locs ls hP hD hS hl
  exact lv_sipush hx hb hdg rfl (k H locs ls hP hD hS hl)
theorem zr_lconst (hC : zOK C τ R own cc nL) {n : Fin 2} (hdg : decode cc pc = .ok (.lconst n, 1)) (k : zR C τ ι nL kc ks (pc + 1) lv (.long (Int64.ofNat (n : Nat)) :: st) w) : zR C τ ι nL kc ks pc lv st w := by
  obtain ⟨p, l, e, R, s, m, args, below, meth, c, D, A, H0, Q⟩ := C
  obtain ⟨hx, hb, -⟩ := hC
  intro H locs ls hP hD hS hl
  exact lv_lconst hx hb hdg rfl (k H locs ls hP hD hS hl)
theorem zr_ldc (hC : zOK C τ R own cc nL) {index : Nat} {v : Int32} (hdg : decode cc pc = .ok (.ldc index, 2)) (hk : Cond.constant own index v ∈ zT) (k : zR C τ ι nL kc ks (pc + 2) lv (.int v :: st) w) : zR C τ ι nL kc ks pc lv st w := by
  obtain ⟨p, l, e, R, s, m, args, below, meth, c, D, A, H0, Q⟩ := C
  obtain ⟨hx, hb, hml, hown, hts, -⟩ := hC
  intro H locs ls hP hD hS hl
  exact lv_ldc hx hb hown (hts _ hk) hdg (k H locs ls hP hD hS hl)
theorem zr_ldcw (hC : zOK C τ R own cc nL) {index : Nat} {v : Int32} (hdg : decode cc pc = .ok (.ldc_w index, 3)) (hk : Cond.constant own index v ∈ zT) (k : zR C τ ι nL kc ks (pc + 3) lv (.int v :: st) w) : zR C τ ι nL kc ks pc lv st w := by
  obtain ⟨p, l, e, R, s, m, args, below, meth, c, D, A, H0, Q⟩ := C
  obtain ⟨hx, hb, hml, hown, hts, -⟩ := hC
  intro H locs ls hP hD hS hl
  exact lv_ldcw hx hb hown (hts _ hk) hdg (k H locs ls hP hD hS hl)
theorem zr_ldc2 (hC : zOK C τ R own cc nL) {index : Nat} {v : Int64} (hdg : decode cc pc = .ok (.ldc2_w index, 3)) (hk : Cond.constantLong own index v ∈ zT) (k : zR C τ ι nL kc ks (pc + 3) lv (.long v :: st) w) : zR C τ ι nL kc ks pc lv st w := by
  obtain ⟨p, l, e, R, s, m, args, below, meth, c, D, A, H0, Q⟩ := C
  obtain ⟨hx, hb, hml, hown, hts, -⟩ := hC
  intro H locs ls hP hD hS hl
  exact lv_ldc2 hx hb hown (hts _ hk) hdg (k H locs ls hP hD hS hl)
theorem zr_iload_n (hC : zOK C τ R own cc nL) {i : Fin 4} {x : Int32} (hdg : decode cc pc = .ok (.iload_n i, 1)) (hk : zlk (i : Nat) lv = some (.int x)) (k : zR C τ ι nL kc ks (pc + 1) lv (.int x :: st) w) : zR C τ ι nL kc ks pc lv st w := by
  obtain ⟨p, l, e, R, s, m, args, below, meth, c, D, A, H0, Q⟩ := C
  obtain ⟨hx, hb, -⟩ := hC
  intro H locs ls hP hD hS hl
  exact lv_iload_n hx hb hdg rfl (zlk_at hl hk) (k H locs ls hP hD hS hl)
theorem zr_iload (hC : zOK C τ R own cc nL) {i : Nat} {x : Int32} (hdg : decode cc pc = .ok (.iload i, 2)) (hk : zlk i lv = some (.int x)) (k : zR C τ ι nL kc ks (pc + 2) lv (.int x :: st) w) : zR C τ ι nL kc ks pc lv st w := by
  obtain ⟨p, l, e, R, s, m, args, below, meth, c, D, A, H0, Q⟩ := C
  obtain ⟨hx, hb, -⟩ := hC
  intro H locs ls hP hD hS hl
  exact lv_iload hx hb hdg (zlk_at hl hk) (k H locs ls hP hD hS hl)
theorem zr_lload_n (hC : zOK C τ R own cc nL) {i : Fin 4} {x : Int64} (hdg : decode cc pc = .ok (.lload_n i, 1)) (hk : zlk (i : Nat) lv = some (.long x)) (k : zR C τ ι nL kc ks (pc + 1) lv (.long x :: st) w) : zR C τ ι nL kc ks pc lv st w := by
  obtain ⟨p, l, e, R, s, m, args, below, meth, c, D, A, H0, Q⟩ := C
  obtain ⟨hx, hb, -⟩ := hC
  intro H locs ls hP hD hS hl
  exact lv_lload_n hx hb hdg rfl (zlk_at hl hk) (k H locs ls hP hD hS hl)
theorem zr_lload (hC : zOK C τ R own cc nL) {i : Nat} {x : Int64} (hdg : decode cc pc = .ok (.lload i, 2)) (hk : zlk i lv = some (.long x)) (k : zR C τ ι nL kc ks (pc + 2) lv (.long x :: st) w) : zR C τ ι nL kc ks pc lv st w := by
  obtain ⟨p, l, e, R, s, m, args, below, meth, c, D, A, H0, Q⟩ := C
  obtain ⟨hx, hb, -⟩ := hC
  intro H locs ls hP hD hS hl
  exact lv_lload hx hb hdg (zlk_at hl hk) (k H locs ls hP hD hS hl)
theorem zr_aload_n (hC : zOK C τ R own cc nL) {i : Fin 4} {x : Nat} (hdg : decode cc pc = .ok (.aload_n i, 1)) (hk : zlk (i : Nat) lv = some (.ref x)) (k : zR C τ ι nL kc ks (pc + 1) lv (.ref x :: st) w) : zR C τ ι nL kc ks pc lv st w := by
  obtain ⟨p, l, e, R, s, m, args, below, meth, c, D, A, H0, Q⟩ := C
  obtain ⟨hx, hb, -⟩ := hC
  intro H locs ls hP hD hS hl
  exact lv_aload_n hx hb hdg rfl (zlk_at hl hk) (k H locs ls hP hD hS hl)
theorem zr_aload (hC : zOK C τ R own cc nL) {i : Nat} {x : Nat} (hdg : decode cc pc = .ok (.aload i, 2)) (hk : zlk i lv = some (.ref x)) (k : zR C τ ι nL kc ks (pc + 2) lv (.ref x :: st) w) : zR C τ ι nL kc ks pc lv st w := by
  obtain ⟨p, l, e, R, s, m, args, below, meth, c, D, A, H0, Q⟩ := C
  obtain ⟨hx, hb, -⟩ := hC
  intro H locs ls hP hD hS hl
  exact lv_aload hx hb hdg (zlk_at hl hk) (k H locs ls hP hD hS hl)
theorem zr_istore_n (hC : zOK C τ R own cc nL) {i : Fin 4} {x : Int32} (hdg : decode cc pc = .ok (.istore_n i, 1)) (hn : (i : Nat) < nL) (k : zR C τ ι nL kc ks (pc + 1) (zset i (.int x) lv) st w) : zR C τ ι nL kc ks pc lv (.int x :: st) w := by
  obtain ⟨p, l, e, R, s, m, args, below, meth, c, D, A, H0, Q⟩ := C
  obtain ⟨hx, hb, -⟩ := hC
  intro H locs ls hP hD hS hl
  exact lv_istore_n hx hb hdg rfl hl hn (zlv_set ι i (.int x) lv) (fun ls' hl' => k H locs ls' hP hD hS hl')
theorem zr_istore (hC : zOK C τ R own cc nL) {i : Nat} {x : Int32} (hdg : decode cc pc = .ok (.istore i, 2)) (hn : i < nL) (k : zR C τ ι nL kc ks (pc + 2) (zset i (.int x) lv) st w) : zR C τ ι nL kc ks pc lv (.int x :: st) w := by
  obtain ⟨p, l, e, R, s, m, args, below, meth, c, D, A, H0, Q⟩ := C
  obtain ⟨hx, hb, -⟩ := hC
  intro H locs ls hP hD hS hl
  exact lv_istore hx hb hdg hl hn (zlv_set ι i (.int x) lv) (fun ls' hl' => k H locs ls' hP hD hS hl')
theorem zr_lstore_n (hC : zOK C τ R own cc nL) {i : Fin 4} {x : Int64} (hdg : decode cc pc = .ok (.lstore_n i, 1)) (hn : (i : Nat) + 1 < nL) (k : zR C τ ι nL kc ks (pc + 1) (zset2 i (.long x) lv) st w) : zR C τ ι nL kc ks pc lv (.long x :: st) w := by
  obtain ⟨p, l, e, R, s, m, args, below, meth, c, D, A, H0, Q⟩ := C
  obtain ⟨hx, hb, -⟩ := hC
  intro H locs ls hP hD hS hl
  exact lv_lstore_n hx hb hdg rfl hl hn (zlv_set2 ι i (.long x) lv) (fun ls' hl' => k H locs ls' hP hD hS hl')
theorem zr_lstore (hC : zOK C τ R own cc nL) {i : Nat} {x : Int64} (hdg : decode cc pc = .ok (.lstore i, 2)) (hn : i + 1 < nL) (k : zR C τ ι nL kc ks (pc + 2) (zset2 i (.long x) lv) st w) : zR C τ ι nL kc ks pc lv (.long x :: st) w := by
  obtain ⟨p, l, e, R, s, m, args, below, meth, c, D, A, H0, Q⟩ := C
  obtain ⟨hx, hb, -⟩ := hC
  intro H locs ls hP hD hS hl
  exact lv_lstore hx hb hdg hl hn (zlv_set2 ι i (.long x) lv) (fun ls' hl' => k H locs ls' hP hD hS hl')
theorem zr_astore_n (hC : zOK C τ R own cc nL) {i : Fin 4} {x : Nat} (hdg : decode cc pc = .ok (.astore_n i, 1)) (hn : (i : Nat) < nL) (k : zR C τ ι nL kc ks (pc + 1) (zset i (.ref x) lv) st w) : zR C τ ι nL kc ks pc lv (.ref x :: st) w := by
  obtain ⟨p, l, e, R, s, m, args, below, meth, c, D, A, H0, Q⟩ := C
  obtain ⟨hx, hb, -⟩ := hC
  intro H locs ls hP hD hS hl
  exact lv_astore_n hx hb hdg rfl hl hn (zlv_set ι i (.ref x) lv) (fun ls' hl' => k H locs ls' hP hD hS hl')
theorem zr_astore (hC : zOK C τ R own cc nL) {i : Nat} {x : Nat} (hdg : decode cc pc = .ok (.astore i, 2)) (hn : i < nL) (k : zR C τ ι nL kc ks (pc + 2) (zset i (.ref x) lv) st w) : zR C τ ι nL kc ks pc lv (.ref x :: st) w := by
  obtain ⟨p, l, e, R, s, m, args, below, meth, c, D, A, H0, Q⟩ := C
  obtain ⟨hx, hb, -⟩ := hC
  intro H locs ls hP hD hS hl
  exact lv_astore hx hb hdg hl hn (zlv_set ι i (.ref x) lv) (fun ls' hl' => k H locs ls' hP hD hS hl')
theorem zr_iinc (hC : zOK C τ R own cc nL) {i : Nat} {n : Int} {x : Int32} (hdg : decode cc pc = .ok (.iinc i n, 3)) (hk : zlk i lv = some (.int x)) (hn : i < nL) (k : zR C τ ι nL kc ks (pc + 3) (zset i (.int (x + Int32.ofInt n)) lv) st w) : zR C τ ι nL kc ks pc lv st w := by
  obtain ⟨p, l, e, R, s, m, args, below, meth, c, D, A, H0, Q⟩ := C
  obtain ⟨hx, hb, -⟩ := hC
  intro H locs ls hP hD hS hl
  obtain ⟨j, hj⟩ := List.getElem?_of_mem (show (i, Value.int x) ∈ zlv ι lv from List.mem_map.mpr ⟨(i, .int x), zlk_mem hk, rfl⟩)
  exact lv_iinc hx hb hdg hl hj rfl hn (zlv_set ι i (.int (x + Int32.ofInt n)) lv) (fun ls' hl' => k H locs ls' hP hD hS hl')
theorem zr_iadd (hC : zOK C τ R own cc nL) {x y : Int32} (hdg : decode cc pc = .ok (.iadd, 1)) (k : zR C τ ι nL kc ks (pc + 1) lv (.int (x + y) :: st) w) : zR C τ ι nL kc ks pc lv (.int y :: .int x :: st) w := by
  obtain ⟨p, l, e, R, s, m, args, below, meth, c, D, A, H0, Q⟩ := C
  obtain ⟨hx, hb, -⟩ := hC
  intro H locs ls hP hD hS hl
  exact lv_iadd hx hb hdg (k H locs ls hP hD hS hl)
theorem zr_isub (hC : zOK C τ R own cc nL) {x y : Int32} (hdg : decode cc pc = .ok (.isub, 1)) (k : zR C τ ι nL kc ks (pc + 1) lv (.int (x - y) :: st) w) : zR C τ ι nL kc ks pc lv (.int y :: .int x :: st) w := by
  obtain ⟨p, l, e, R, s, m, args, below, meth, c, D, A, H0, Q⟩ := C
  obtain ⟨hx, hb, -⟩ := hC
  intro H locs ls hP hD hS hl
  exact lv_isub hx hb hdg (k H locs ls hP hD hS hl)
theorem zr_imul (hC : zOK C τ R own cc nL) {x y : Int32} (hdg : decode cc pc = .ok (.imul, 1)) (k : zR C τ ι nL kc ks (pc + 1) lv (.int (x * y) :: st) w) : zR C τ ι nL kc ks pc lv (.int y :: .int x :: st) w := by
  obtain ⟨p, l, e, R, s, m, args, below, meth, c, D, A, H0, Q⟩ := C
  obtain ⟨hx, hb, -⟩ := hC
  intro H locs ls hP hD hS hl
  exact lv_imul hx hb hdg (k H locs ls hP hD hS hl)
theorem zr_iand (hC : zOK C τ R own cc nL) {x y : Int32} (hdg : decode cc pc = .ok (.iand, 1)) (k : zR C τ ι nL kc ks (pc + 1) lv (.int (x &&& y) :: st) w) : zR C τ ι nL kc ks pc lv (.int y :: .int x :: st) w := by
  obtain ⟨p, l, e, R, s, m, args, below, meth, c, D, A, H0, Q⟩ := C
  obtain ⟨hx, hb, -⟩ := hC
  intro H locs ls hP hD hS hl
  exact lv_iand hx hb hdg (k H locs ls hP hD hS hl)
theorem zr_ior (hC : zOK C τ R own cc nL) {x y : Int32} (hdg : decode cc pc = .ok (.ior, 1)) (k : zR C τ ι nL kc ks (pc + 1) lv (.int (x ||| y) :: st) w) : zR C τ ι nL kc ks pc lv (.int y :: .int x :: st) w := by
  obtain ⟨p, l, e, R, s, m, args, below, meth, c, D, A, H0, Q⟩ := C
  obtain ⟨hx, hb, -⟩ := hC
  intro H locs ls hP hD hS hl
  exact lv_ior hx hb hdg (k H locs ls hP hD hS hl)
theorem zr_ixor (hC : zOK C τ R own cc nL) {x y : Int32} (hdg : decode cc pc = .ok (.ixor, 1)) (k : zR C τ ι nL kc ks (pc + 1) lv (.int (x ^^^ y) :: st) w) : zR C τ ι nL kc ks pc lv (.int y :: .int x :: st) w := by
  obtain ⟨p, l, e, R, s, m, args, below, meth, c, D, A, H0, Q⟩ := C
  obtain ⟨hx, hb, -⟩ := hC
  intro H locs ls hP hD hS hl
  exact lv_ixor hx hb hdg (k H locs ls hP hD hS hl)
theorem zr_ishl (hC : zOK C τ R own cc nL) {x y : Int32} (hdg : decode cc pc = .ok (.ishl, 1)) (k : zR C τ ι nL kc ks (pc + 1) lv (.int (x <<< (y &&& 31)) :: st) w) : zR C τ ι nL kc ks pc lv (.int y :: .int x :: st) w := by
  obtain ⟨p, l, e, R, s, m, args, below, meth, c, D, A, H0, Q⟩ := C
  obtain ⟨hx, hb, -⟩ := hC
  intro H locs ls hP hD hS hl
  exact lv_ishl hx hb hdg (k H locs ls hP hD hS hl)
theorem zr_ishr (hC : zOK C τ R own cc nL) {x y : Int32} (hdg : decode cc pc = .ok (.ishr, 1)) (k : zR C τ ι nL kc ks (pc + 1) lv (.int (x >>> (y &&& 31)) :: st) w) : zR C τ ι nL kc ks pc lv (.int y :: .int x :: st) w := by
  obtain ⟨p, l, e, R, s, m, args, below, meth, c, D, A, H0, Q⟩ := C
  obtain ⟨hx, hb, -⟩ := hC
  intro H locs ls hP hD hS hl
  exact lv_ishr hx hb hdg (k H locs ls hP hD hS hl)
theorem zr_iushr (hC : zOK C τ R own cc nL) {x y : Int32} (hdg : decode cc pc = .ok (.iushr, 1)) (k : zR C τ ι nL kc ks (pc + 1) lv (.int (x.toUInt32 >>> (y.toUInt32 &&& Int32.toUInt32 31)).toInt32 :: st) w) : zR C τ ι nL kc ks pc lv (.int y :: .int x :: st) w := by
  obtain ⟨p, l, e, R, s, m, args, below, meth, c, D, A, H0, Q⟩ := C
  obtain ⟨hx, hb, -⟩ := hC
  intro H locs ls hP hD hS hl
  exact lv_iushr hx hb hdg rfl (k H locs ls hP hD hS hl)
theorem zr_idiv (hC : zOK C τ R own cc nL) {x y : Int32} (hdg : decode cc pc = .ok (.idiv, 1)) (hne : ¬ y = 0) (k : zR C τ ι nL kc ks (pc + 1) lv (.int (x / y) :: st) w) : zR C τ ι nL kc ks pc lv (.int y :: .int x :: st) w := by
  obtain ⟨p, l, e, R, s, m, args, below, meth, c, D, A, H0, Q⟩ := C
  obtain ⟨hx, hb, -⟩ := hC
  intro H locs ls hP hD hS hl
  exact lv_idiv hx hb hdg hne (k H locs ls hP hD hS hl)
theorem zr_irem (hC : zOK C τ R own cc nL) {x y : Int32} (hdg : decode cc pc = .ok (.irem, 1)) (hne : ¬ y = 0) (k : zR C τ ι nL kc ks (pc + 1) lv (.int (x - x / y * y) :: st) w) : zR C τ ι nL kc ks pc lv (.int y :: .int x :: st) w := by
  obtain ⟨p, l, e, R, s, m, args, below, meth, c, D, A, H0, Q⟩ := C
  obtain ⟨hx, hb, -⟩ := hC
  intro H locs ls hP hD hS hl
  exact lv_irem hx hb hdg hne (k H locs ls hP hD hS hl)
theorem zr_ladd (hC : zOK C τ R own cc nL) {x y : Int64} (hdg : decode cc pc = .ok (.ladd, 1)) (k : zR C τ ι nL kc ks (pc + 1) lv (.long (x + y) :: st) w) : zR C τ ι nL kc ks pc lv (.long y :: .long x :: st) w := by
  obtain ⟨p, l, e, R, s, m, args, below, meth, c, D, A, H0, Q⟩ := C
  obtain ⟨hx, hb, -⟩ := hC
  intro H locs ls hP hD hS hl
  exact lv_ladd hx hb hdg (k H locs ls hP hD hS hl)
theorem zr_lmul (hC : zOK C τ R own cc nL) {x y : Int64} (hdg : decode cc pc = .ok (.lmul, 1)) (k : zR C τ ι nL kc ks (pc + 1) lv (.long (x * y) :: st) w) : zR C τ ι nL kc ks pc lv (.long y :: .long x :: st) w := by
  obtain ⟨p, l, e, R, s, m, args, below, meth, c, D, A, H0, Q⟩ := C
  obtain ⟨hx, hb, -⟩ := hC
  intro H locs ls hP hD hS hl
  exact lv_lmul hx hb hdg (k H locs ls hP hD hS hl)
theorem zr_land (hC : zOK C τ R own cc nL) {x y : Int64} (hdg : decode cc pc = .ok (.land, 1)) (k : zR C τ ι nL kc ks (pc + 1) lv (.long (x &&& y) :: st) w) : zR C τ ι nL kc ks pc lv (.long y :: .long x :: st) w := by
  obtain ⟨p, l, e, R, s, m, args, below, meth, c, D, A, H0, Q⟩ := C
  obtain ⟨hx, hb, -⟩ := hC
  intro H locs ls hP hD hS hl
  exact lv_land hx hb hdg (k H locs ls hP hD hS hl)
theorem zr_lor (hC : zOK C τ R own cc nL) {x y : Int64} (hdg : decode cc pc = .ok (.lor, 1)) (k : zR C τ ι nL kc ks (pc + 1) lv (.long (x ||| y) :: st) w) : zR C τ ι nL kc ks pc lv (.long y :: .long x :: st) w := by
  obtain ⟨p, l, e, R, s, m, args, below, meth, c, D, A, H0, Q⟩ := C
  obtain ⟨hx, hb, -⟩ := hC
  intro H locs ls hP hD hS hl
  exact lv_lor hx hb hdg (k H locs ls hP hD hS hl)
theorem zr_ldiv (hC : zOK C τ R own cc nL) {x y : Int64} (hdg : decode cc pc = .ok (.ldiv, 1)) (hne : ¬ y = 0) (k : zR C τ ι nL kc ks (pc + 1) lv (.long (x / y) :: st) w) : zR C τ ι nL kc ks pc lv (.long y :: .long x :: st) w := by
  obtain ⟨p, l, e, R, s, m, args, below, meth, c, D, A, H0, Q⟩ := C
  obtain ⟨hx, hb, -⟩ := hC
  intro H locs ls hP hD hS hl
  exact lv_ldiv hx hb hdg hne (k H locs ls hP hD hS hl)
theorem zr_lrem (hC : zOK C τ R own cc nL) {x y : Int64} (hdg : decode cc pc = .ok (.lrem, 1)) (hne : ¬ y = 0) (k : zR C τ ι nL kc ks (pc + 1) lv (.long (x - x / y * y) :: st) w) : zR C τ ι nL kc ks pc lv (.long y :: .long x :: st) w := by
  obtain ⟨p, l, e, R, s, m, args, below, meth, c, D, A, H0, Q⟩ := C
  obtain ⟨hx, hb, -⟩ := hC
  intro H locs ls hP hD hS hl
  exact lv_lrem hx hb hdg hne (k H locs ls hP hD hS hl)
theorem zr_lshl (hC : zOK C τ R own cc nL) {x : Int64} {y : Int32} (hdg : decode cc pc = .ok (.lshl, 1)) (k : zR C τ ι nL kc ks (pc + 1) lv (.long (x <<< (y.toInt64 &&& 63)) :: st) w) : zR C τ ι nL kc ks pc lv (.int y :: .long x :: st) w := by
  obtain ⟨p, l, e, R, s, m, args, below, meth, c, D, A, H0, Q⟩ := C
  obtain ⟨hx, hb, -⟩ := hC
  intro H locs ls hP hD hS hl
  exact lv_lshl hx hb hdg rfl (k H locs ls hP hD hS hl)
theorem zr_lcmp (hC : zOK C τ R own cc nL) {x y : Int64} (hdg : decode cc pc = .ok (.lcmp, 1)) (k : zR C τ ι nL kc ks (pc + 1) lv (.int (lg_cmp x y) :: st) w) : zR C τ ι nL kc ks pc lv (.long y :: .long x :: st) w := by
  obtain ⟨p, l, e, R, s, m, args, below, meth, c, D, A, H0, Q⟩ := C
  obtain ⟨hx, hb, -⟩ := hC
  intro H locs ls hP hD hS hl
  exact W.lcmp hx hb hdg (k H locs ls hP hD hS hl)
theorem zr_i2l (hC : zOK C τ R own cc nL) {x : Int32} (hdg : decode cc pc = .ok (.i2l, 1)) (k : zR C τ ι nL kc ks (pc + 1) lv (.long x.toInt64 :: st) w) : zR C τ ι nL kc ks pc lv (.int x :: st) w := by
  obtain ⟨p, l, e, R, s, m, args, below, meth, c, D, A, H0, Q⟩ := C
  obtain ⟨hx, hb, -⟩ := hC
  intro H locs ls hP hD hS hl
  exact lv_i2l hx hb hdg rfl (k H locs ls hP hD hS hl)
theorem zr_l2i (hC : zOK C τ R own cc nL) {x : Int64} (hdg : decode cc pc = .ok (.l2i, 1)) (k : zR C τ ι nL kc ks (pc + 1) lv (.int x.toInt32 :: st) w) : zR C τ ι nL kc ks pc lv (.long x :: st) w := by
  obtain ⟨p, l, e, R, s, m, args, below, meth, c, D, A, H0, Q⟩ := C
  obtain ⟨hx, hb, -⟩ := hC
  intro H locs ls hP hD hS hl
  exact lv_l2i hx hb hdg rfl (k H locs ls hP hD hS hl)
theorem zr_i2b (hC : zOK C τ R own cc nL) {x : Int32} (hdg : decode cc pc = .ok (.i2b, 1)) (k : zR C τ ι nL kc ks (pc + 1) lv (.int x.toInt8.toInt32 :: st) w) : zR C τ ι nL kc ks pc lv (.int x :: st) w := by
  obtain ⟨p, l, e, R, s, m, args, below, meth, c, D, A, H0, Q⟩ := C
  obtain ⟨hx, hb, -⟩ := hC
  intro H locs ls hP hD hS hl
  exact lv_i2b hx hb hdg rfl (k H locs ls hP hD hS hl)
theorem zr_i2s (hC : zOK C τ R own cc nL) {x : Int32} (hdg : decode cc pc = .ok (.i2s, 1)) (k : zR C τ ι nL kc ks (pc + 1) lv (.int x.toInt16.toInt32 :: st) w) : zR C τ ι nL kc ks pc lv (.int x :: st) w := by
  obtain ⟨p, l, e, R, s, m, args, below, meth, c, D, A, H0, Q⟩ := C
  obtain ⟨hx, hb, -⟩ := hC
  intro H locs ls hP hD hS hl
  exact lv_i2s hx hb hdg rfl (k H locs ls hP hD hS hl)
theorem zr_i2c (hC : zOK C τ R own cc nL) {x : Int32} (hdg : decode cc pc = .ok (.i2c, 1)) (k : zR C τ ι nL kc ks (pc + 1) lv (.int (x.toUInt32 % 65536).toInt32 :: st) w) : zR C τ ι nL kc ks pc lv (.int x :: st) w := by
  obtain ⟨p, l, e, R, s, m, args, below, meth, c, D, A, H0, Q⟩ := C
  obtain ⟨hx, hb, -⟩ := hC
  intro H locs ls hP hD hS hl
  exact lv_i2c hx hb hdg rfl (k H locs ls hP hD hS hl)
theorem zr_dup (hC : zOK C τ R own cc nL) {v : Value} (hdg : decode cc pc = .ok (.dup, 1)) (hv : v.category = 1) (k : zR C τ ι nL kc ks (pc + 1) lv (v :: v :: st) w) : zR C τ ι nL kc ks pc lv (v :: st) w := by
  obtain ⟨p, l, e, R, s, m, args, below, meth, c, D, A, H0, Q⟩ := C
  obtain ⟨hx, hb, -⟩ := hC
  intro H locs ls hP hD hS hl
  exact lv_dup hx hb hdg ((zcat ι v).trans hv) (k H locs ls hP hD hS hl)
theorem zr_pop (hC : zOK C τ R own cc nL) {v : Value} (hdg : decode cc pc = .ok (.pop, 1)) (hv : v.category = 1) (k : zR C τ ι nL kc ks (pc + 1) lv st w) : zR C τ ι nL kc ks pc lv (v :: st) w := by
  obtain ⟨p, l, e, R, s, m, args, below, meth, c, D, A, H0, Q⟩ := C
  obtain ⟨hx, hb, -⟩ := hC
  intro H locs ls hP hD hS hl
  exact lv_pop hx hb hdg ((zcat ι v).trans hv) (k H locs ls hP hD hS hl)
theorem zr_dup2 (hC : zOK C τ R own cc nL) {v v2 : Value} (hdg : decode cc pc = .ok (.dup2, 1)) (hv : v.category = 1) (hv2 : v2.category = 1) (k : zR C τ ι nL kc ks (pc + 1) lv (v :: v2 :: v :: v2 :: st) w) : zR C τ ι nL kc ks pc lv (v :: v2 :: st) w := by
  obtain ⟨p, l, e, R, s, m, args, below, meth, c, D, A, H0, Q⟩ := C
  obtain ⟨hx, hb, -⟩ := hC
  intro H locs ls hP hD hS hl
  exact lv_dup2_11 hx hb hdg ((zcat ι v).trans hv) ((zcat ι v2).trans hv2) (k H locs ls hP hD hS hl)
theorem zr_goto (hC : zOK C τ R own cc nL) {off : Int} {tgt : Nat} (hdg : decode cc pc = .ok (.goto off, 3)) (ht : (pc : Int) + off = (tgt : Int)) (k : zR C τ ι nL kc ks tgt lv st w) : zR C τ ι nL kc ks pc lv st w := by
  obtain ⟨p, l, e, R, s, m, args, below, meth, c, D, A, H0, Q⟩ := C
  obtain ⟨hx, hb, -⟩ := hC
  intro H locs ls hP hD hS hl
  exact lv_goto hx hb hdg ht (k H locs ls hP hD hS hl)
theorem zr_tableOut (hC : zOK C τ R own cc nL) {dflt lo hi : Int} {offs : Array Int} {len : Nat} {x : Int32} {tgt : Nat} (hdg : decode cc pc = .ok (.tableswitch dflt lo hi offs, len)) (h : x.toInt < lo ∨ hi < x.toInt) (ht : (pc : Int) + dflt = (tgt : Int)) (k : zR C τ ι nL kc ks tgt lv st w) : zR C τ ι nL kc ks pc lv (.int x :: st) w := by
  obtain ⟨p, l, e, R, s, m, args, below, meth, c, D, A, H0, Q⟩ := C
  obtain ⟨hx, hb, -⟩ := hC
  intro H locs ls hP hD hS hl
  exact lv_tableOut hx hb hdg h ht (k H locs ls hP hD hS hl)
theorem zr_tableIn (hC : zOK C τ R own cc nL) {dflt lo hi : Int} {offs : Array Int} {len : Nat} {x : Int32} {off : Int} {tgt : Nat} (hdg : decode cc pc = .ok (.tableswitch dflt lo hi offs, len)) (h1 : ¬ x.toInt < lo) (h2 : ¬ hi < x.toInt) (ho : offs[(x.toInt - lo).toNat]? = some off) (ht : (pc : Int) + off = (tgt : Int)) (k : zR C τ ι nL kc ks tgt lv st w) : zR C τ ι nL kc ks pc lv (.int x :: st) w := by
  obtain ⟨p, l, e, R, s, m, args, below, meth, c, D, A, H0, Q⟩ := C
  obtain ⟨hx, hb, -⟩ := hC
  intro H locs ls hP hD hS hl
  exact lv_tableIn hx hb hdg h1 h2 ho ht (k H locs ls hP hD hS hl)
theorem zr_if_eq (hC : zOK C τ R own cc nL) {x : Int32} {off : Int} {tgt : Nat} (hdg : decode cc pc = .ok (.ifCond .eq off, 3)) (ht : (pc : Int) + off = (tgt : Int)) (kt : x = 0 → zR C τ ι nL kc ks tgt lv st w) (kf : ¬ x = 0 → zR C τ ι nL kc ks (pc + 3) lv st w) : zR C τ ι nL kc ks pc lv (.int x :: st) w := by
  obtain ⟨p, l, e, R, s, m, args, below, meth, c, D, A, H0, Q⟩ := C
  obtain ⟨hx, hb, -⟩ := hC
  intro H locs ls hP hD hS hl
  exact lv_if_eq hx hb hdg ht (fun hc => kt hc H locs ls hP hD hS hl) (fun hc => kf hc H locs ls hP hD hS hl)
theorem zr_icmp_eq (hC : zOK C τ R own cc nL) {x y : Int32} {off : Int} {tgt : Nat} (hdg : decode cc pc = .ok (.if_icmp .eq off, 3)) (ht : (pc : Int) + off = (tgt : Int)) (kt : x = y → zR C τ ι nL kc ks tgt lv st w) (kf : ¬ x = y → zR C τ ι nL kc ks (pc + 3) lv st w) : zR C τ ι nL kc ks pc lv (.int y :: .int x :: st) w := by
  obtain ⟨p, l, e, R, s, m, args, below, meth, c, D, A, H0, Q⟩ := C
  obtain ⟨hx, hb, -⟩ := hC
  intro H locs ls hP hD hS hl
  exact lv_icmp_eq hx hb hdg ht (fun hc => kt hc H locs ls hP hD hS hl) (fun hc => kf hc H locs ls hP hD hS hl)
theorem zr_if_ne (hC : zOK C τ R own cc nL) {x : Int32} {off : Int} {tgt : Nat} (hdg : decode cc pc = .ok (.ifCond .ne off, 3)) (ht : (pc : Int) + off = (tgt : Int)) (kt : ¬ x = 0 → zR C τ ι nL kc ks tgt lv st w) (kf : x = 0 → zR C τ ι nL kc ks (pc + 3) lv st w) : zR C τ ι nL kc ks pc lv (.int x :: st) w := by
  obtain ⟨p, l, e, R, s, m, args, below, meth, c, D, A, H0, Q⟩ := C
  obtain ⟨hx, hb, -⟩ := hC
  intro H locs ls hP hD hS hl
  exact lv_if_ne hx hb hdg ht (fun hc => kt hc H locs ls hP hD hS hl) (fun hc => kf hc H locs ls hP hD hS hl)
theorem zr_icmp_ne (hC : zOK C τ R own cc nL) {x y : Int32} {off : Int} {tgt : Nat} (hdg : decode cc pc = .ok (.if_icmp .ne off, 3)) (ht : (pc : Int) + off = (tgt : Int)) (kt : ¬ x = y → zR C τ ι nL kc ks tgt lv st w) (kf : x = y → zR C τ ι nL kc ks (pc + 3) lv st w) : zR C τ ι nL kc ks pc lv (.int y :: .int x :: st) w := by
  obtain ⟨p, l, e, R, s, m, args, below, meth, c, D, A, H0, Q⟩ := C
  obtain ⟨hx, hb, -⟩ := hC
  intro H locs ls hP hD hS hl
  exact lv_icmp_ne hx hb hdg ht (fun hc => kt hc H locs ls hP hD hS hl) (fun hc => kf hc H locs ls hP hD hS hl)
theorem zr_if_lt (hC : zOK C τ R own cc nL) {x : Int32} {off : Int} {tgt : Nat} (hdg : decode cc pc = .ok (.ifCond .lt off, 3)) (ht : (pc : Int) + off = (tgt : Int)) (kt : x < 0 → zR C τ ι nL kc ks tgt lv st w) (kf : ¬ x < 0 → zR C τ ι nL kc ks (pc + 3) lv st w) : zR C τ ι nL kc ks pc lv (.int x :: st) w := by
  obtain ⟨p, l, e, R, s, m, args, below, meth, c, D, A, H0, Q⟩ := C
  obtain ⟨hx, hb, -⟩ := hC
  intro H locs ls hP hD hS hl
  exact lv_if_lt hx hb hdg ht (fun hc => kt hc H locs ls hP hD hS hl) (fun hc => kf hc H locs ls hP hD hS hl)
theorem zr_icmp_lt (hC : zOK C τ R own cc nL) {x y : Int32} {off : Int} {tgt : Nat} (hdg : decode cc pc = .ok (.if_icmp .lt off, 3)) (ht : (pc : Int) + off = (tgt : Int)) (kt : x < y → zR C τ ι nL kc ks tgt lv st w) (kf : ¬ x < y → zR C τ ι nL kc ks (pc + 3) lv st w) : zR C τ ι nL kc ks pc lv (.int y :: .int x :: st) w := by
  obtain ⟨p, l, e, R, s, m, args, below, meth, c, D, A, H0, Q⟩ := C
  obtain ⟨hx, hb, -⟩ := hC
  intro H locs ls hP hD hS hl
  exact lv_icmp_lt hx hb hdg ht (fun hc => kt hc H locs ls hP hD hS hl) (fun hc => kf hc H locs ls hP hD hS hl)
theorem zr_if_ge (hC : zOK C τ R own cc nL) {x : Int32} {off : Int} {tgt : Nat} (hdg : decode cc pc = .ok (.ifCond .ge off, 3)) (ht : (pc : Int) + off = (tgt : Int)) (kt : 0 ≤ x → zR C τ ι nL kc ks tgt lv st w) (kf : ¬ 0 ≤ x → zR C τ ι nL kc ks (pc + 3) lv st w) : zR C τ ι nL kc ks pc lv (.int x :: st) w := by
  obtain ⟨p, l, e, R, s, m, args, below, meth, c, D, A, H0, Q⟩ := C
  obtain ⟨hx, hb, -⟩ := hC
  intro H locs ls hP hD hS hl
  exact lv_if_ge hx hb hdg ht (fun hc => kt hc H locs ls hP hD hS hl) (fun hc => kf hc H locs ls hP hD hS hl)
theorem zr_icmp_ge (hC : zOK C τ R own cc nL) {x y : Int32} {off : Int} {tgt : Nat} (hdg : decode cc pc = .ok (.if_icmp .ge off, 3)) (ht : (pc : Int) + off = (tgt : Int)) (kt : y ≤ x → zR C τ ι nL kc ks tgt lv st w) (kf : ¬ y ≤ x → zR C τ ι nL kc ks (pc + 3) lv st w) : zR C τ ι nL kc ks pc lv (.int y :: .int x :: st) w := by
  obtain ⟨p, l, e, R, s, m, args, below, meth, c, D, A, H0, Q⟩ := C
  obtain ⟨hx, hb, -⟩ := hC
  intro H locs ls hP hD hS hl
  exact lv_icmp_ge hx hb hdg ht (fun hc => kt hc H locs ls hP hD hS hl) (fun hc => kf hc H locs ls hP hD hS hl)
theorem zr_if_gt (hC : zOK C τ R own cc nL) {x : Int32} {off : Int} {tgt : Nat} (hdg : decode cc pc = .ok (.ifCond .gt off, 3)) (ht : (pc : Int) + off = (tgt : Int)) (kt : 0 < x → zR C τ ι nL kc ks tgt lv st w) (kf : ¬ 0 < x → zR C τ ι nL kc ks (pc + 3) lv st w) : zR C τ ι nL kc ks pc lv (.int x :: st) w := by
  obtain ⟨p, l, e, R, s, m, args, below, meth, c, D, A, H0, Q⟩ := C
  obtain ⟨hx, hb, -⟩ := hC
  intro H locs ls hP hD hS hl
  exact lv_if_gt hx hb hdg ht (fun hc => kt hc H locs ls hP hD hS hl) (fun hc => kf hc H locs ls hP hD hS hl)
theorem zr_icmp_gt (hC : zOK C τ R own cc nL) {x y : Int32} {off : Int} {tgt : Nat} (hdg : decode cc pc = .ok (.if_icmp .gt off, 3)) (ht : (pc : Int) + off = (tgt : Int)) (kt : y < x → zR C τ ι nL kc ks tgt lv st w) (kf : ¬ y < x → zR C τ ι nL kc ks (pc + 3) lv st w) : zR C τ ι nL kc ks pc lv (.int y :: .int x :: st) w := by
  obtain ⟨p, l, e, R, s, m, args, below, meth, c, D, A, H0, Q⟩ := C
  obtain ⟨hx, hb, -⟩ := hC
  intro H locs ls hP hD hS hl
  exact lv_icmp_gt hx hb hdg ht (fun hc => kt hc H locs ls hP hD hS hl) (fun hc => kf hc H locs ls hP hD hS hl)
theorem zr_if_le (hC : zOK C τ R own cc nL) {x : Int32} {off : Int} {tgt : Nat} (hdg : decode cc pc = .ok (.ifCond .le off, 3)) (ht : (pc : Int) + off = (tgt : Int)) (kt : x ≤ 0 → zR C τ ι nL kc ks tgt lv st w) (kf : ¬ x ≤ 0 → zR C τ ι nL kc ks (pc + 3) lv st w) : zR C τ ι nL kc ks pc lv (.int x :: st) w := by
  obtain ⟨p, l, e, R, s, m, args, below, meth, c, D, A, H0, Q⟩ := C
  obtain ⟨hx, hb, -⟩ := hC
  intro H locs ls hP hD hS hl
  exact lv_if_le hx hb hdg ht (fun hc => kt hc H locs ls hP hD hS hl) (fun hc => kf hc H locs ls hP hD hS hl)
theorem zr_icmp_le (hC : zOK C τ R own cc nL) {x y : Int32} {off : Int} {tgt : Nat} (hdg : decode cc pc = .ok (.if_icmp .le off, 3)) (ht : (pc : Int) + off = (tgt : Int)) (kt : x ≤ y → zR C τ ι nL kc ks tgt lv st w) (kf : ¬ x ≤ y → zR C τ ι nL kc ks (pc + 3) lv st w) : zR C τ ι nL kc ks pc lv (.int y :: .int x :: st) w := by
  obtain ⟨p, l, e, R, s, m, args, below, meth, c, D, A, H0, Q⟩ := C
  obtain ⟨hx, hb, -⟩ := hC
  intro H locs ls hP hD hS hl
  exact lv_icmp_le hx hb hdg ht (fun hc => kt hc H locs ls hP hD hS hl) (fun hc => kf hc H locs ls hP hD hS hl)
theorem zr_getf (hC : zOK C τ R own cc nL) {index ci a k : Nat} {fs : List Value} {v : Value} (hdg : decode cc pc = .ok (.getfield index, 3)) (hf : zFl own index ci k) (he : w[a]? = some (.inr (ci, fs))) (hv : fs[k]? = some v) (kk : zR C τ ι nL kc ks (pc + 3) lv (v :: st) w) : zR C τ ι nL kc ks pc lv (.ref a :: st) w := by
  obtain ⟨Cn, T, N, hc, hin, hk, hlink⟩ := hf
  obtain ⟨p, l, e, R', s, m, args, below, meth, c, D, A, H0, Q⟩ := C
  obtain ⟨hx, hb, hml, hown, hts, hK, hN, hR, hlk, hA⟩ := hC
  intro H locs ls hP hD hS hl
  exact va_get hx hb hts hin hown hK hP a (zW_get he) hc k hk (hts _ hlink) (fun _ h => h) (v := zcv ι v) (by rw [List.getElem?_map, hv]; rfl) hdg (kk H locs ls hP hD hS hl)
theorem zr_puti (hC : zOK C τ R own cc nL) {index ci a k : Nat} {fs : List Value} {x : Int32} (hdg : decode cc pc = .ok (.putfield index, 3)) (hf : zFl own index ci k) (hp : zFp ci k false .int) (he : w[a]? = some (.inr (ci, fs))) (hl0 : k < fs.length) (kk : zR C τ ι nL kc ks (pc + 3) lv st (w.set a (.inr (ci, fs.set k (.int x))))) : zR C τ ι nL kc ks pc lv (.int x :: .ref a :: st) w := by
  obtain ⟨Cn, T, N, hc, hin, hk, hlink⟩ := hf
  obtain ⟨Cn2, T2, N2, ty0, hc2, hty, hnm, hfin, hdc, hpt⟩ := hp
  cases hc.symm.trans hc2
  obtain ⟨p, l, e, R', s, m, args, below, meth, c, D, A, H0, Q⟩ := C
  obtain ⟨hx, hb, hml, hown, hts, hK, hN, hR, hlk, hA⟩ := hC
  intro H locs ls hP hD hS hl
  refine va_put (v := .int x) hx hb hts hin ty0 hty hnm hown hK hP hD hS a (zW_get he) hc k hk (hts _ hlink) (fun _ h => h) hfin hpt rfl rfl (by simpa using hl0) hdg (fun H1 locs1 hP1 hD1 hS1 => ?_)
  have e : (ι a, (Sum.inr (ci, (fs.map (zcv ι)).set k (.int x)) : va_E)) = (ι a, zca ι τ (.inr (ci, fs.set k (.int x)))) := by rw [zca_o, List.map_set]; rfl
  rw [e, zW_set] at hP1 hD1
  exact kk H1 locs1 ls hP1 hD1 hS1 hl
theorem zr_putz (hC : zOK C τ R own cc nL) {index ci a k : Nat} {fs : List Value} {x : Int32} (hdg : decode cc pc = .ok (.putfield index, 3)) (hf : zFl own index ci k) (hp : zFp ci k false .boolean) (he : w[a]? = some (.inr (ci, fs))) (hl0 : k < fs.length) (hx01 : x = 0 ∨ x = 1) (kk : zR C τ ι nL kc ks (pc + 3) lv st (w.set a (.inr (ci, fs.set k (.int x))))) : zR C τ ι nL kc ks pc lv (.int x :: .ref a :: st) w := by
  obtain ⟨Cn, T, N, hc, hin, hk, hlink⟩ := hf
  obtain ⟨Cn2, T2, N2, ty0, hc2, hty, hnm, hfin, hdc, hpt⟩ := hp
  cases hc.symm.trans hc2
  obtain ⟨p, l, e, R', s, m, args, below, meth, c, D, A, H0, Q⟩ := C
  obtain ⟨hx, hb, hml, hown, hts, hK, hN, hR, hlk, hA⟩ := hC
  intro H locs ls hP hD hS hl
  refine va_put (v := .int x) hx hb hts hin ty0 hty hnm hown hK hP hD hS a (zW_get he) hc k hk (hts _ hlink) (fun _ h => h) hfin hpt (by rcases hx01 with rfl | rfl <;> decide) (by rcases hx01 with rfl | rfl <;> decide) (by simpa using hl0) hdg (fun H1 locs1 hP1 hD1 hS1 => ?_)
  have e : (ι a, (Sum.inr (ci, (fs.map (zcv ι)).set k (.int x)) : va_E)) = (ι a, zca ι τ (.inr (ci, fs.set k (.int x)))) := by rw [zca_o, List.map_set]; rfl
  rw [e, zW_set] at hP1 hD1
  exact kk H1 locs1 ls hP1 hD1 hS1 hl
/-- a final field, in a constructor of its class; or an int that is final nowhere -/
theorem zr_putF (hC : zOK C τ R own cc nL) (hin2 : C.2.2.2.2.2.2.2.2.1.name = "<init>") {index ci a k : Nat} {fs : List Value} {x : Nat} {ty : FieldType} (hdg : decode cc pc = .ok (.putfield index, 3)) (hf : zFl own index ci k) (hp : zFp ci k true ty) (hty2 : (∃ n, ty = .object n) ∨ ∃ t, ty = .array t) (hown2 : ∃ T N, vwCl[ci]? = some (own, T, N)) (he : w[a]? = some (.inr (ci, fs))) (hl0 : k < fs.length) (kk : zR C τ ι nL kc ks (pc + 3) lv st (w.set a (.inr (ci, fs.set k (.ref x))))) : zR C τ ι nL kc ks pc lv (.ref x :: .ref a :: st) w := by
  obtain ⟨Cn, T, N, hc, hin, hk, hlink⟩ := hf
  obtain ⟨Cn2, T2, N2, ty0, hc2, hty, hnm, hfin, hdc, hpt⟩ := hp
  cases hc.symm.trans hc2
  obtain ⟨T3, N3, hc3⟩ := hown2
  cases hc.symm.trans hc3
  obtain ⟨p, l, e, R', s, m, args, below, meth, c, D, A, H0, Q⟩ := C
  obtain ⟨hx, hb, hml, hown, hts, hK, hN, hR, hlk, hA⟩ := hC
  intro H locs ls hP hD hS hl
  refine va_putF (v := .ref (ι x)) hx hb hts hin ty0 hty hnm hown hK hP hD hS a (zW_get he) hc k hk (hts _ hlink) (fun _ h => h) hfin hin2 hdc hpt (by rcases hty2 with ⟨n, rfl⟩ | ⟨t, rfl⟩ <;> rfl) (by rcases hty2 with ⟨n, rfl⟩ | ⟨t, rfl⟩ <;> rfl) (by simpa using hl0) hdg (fun H1 locs1 hP1 hD1 hS1 => ?_)
  have e : (ι a, (Sum.inr (ci, (fs.map (zcv ι)).set k (.ref (ι x))) : va_E)) = (ι a, zca ι τ (.inr (ci, fs.set k (.ref x)))) := by rw [zca_o, List.map_set]; rfl
  rw [e, zW_set] at hP1 hD1
  exact kk H1 locs1 ls hP1 hD1 hS1 hl
theorem zr_iald (hC : zOK C τ R own cc nL) {a n : Nat} {f : Nat → Int32} {i : Int32} (hdg : decode cc pc = .ok (.iaload, 1)) (he : w[a]? = some (.inl (0, n, .inl f))) (hi : vp_in i n) (kk : zR C τ ι nL kc ks (pc + 1) lv (.int (f i.toNatClampNeg) :: st) w) : zR C τ ι nL kc ks pc lv (.int i :: .ref a :: st) w := by
  obtain ⟨p, l, e, R', s, m, args, below, meth, c, D, A, H0, Q⟩ := C
  obtain ⟨hx, hb, hml, hown, hts, hK, hN, hR, hlk, hA⟩ := hC
  intro H locs ls hP hD hS hl
  exact va_iald hx hb hK hP a 0 (zW_get he) rfl hi hdg (kk H locs ls hP hD hS hl)
theorem zr_iast (hC : zOK C τ R own cc nL) {a n : Nat} {f : Nat → Int32} {i : Int32} {x : Int32} (hdg : decode cc pc = .ok (.iastore, 1)) (he : w[a]? = some (.inl (0, n, .inl f))) (hi : vp_in i n) (kk : zR C τ ι nL kc ks (pc + 1) lv st (w.set a (.inl (0, n, .inl (upd f i.toNatClampNeg x))))) : zR C τ ι nL kc ks pc lv (.int x :: .int i :: .ref a :: st) w := by
  obtain ⟨p, l, e, R', s, m, args, below, meth, c, D, A, H0, Q⟩ := C
  obtain ⟨hx, hb, hml, hown, hts, hK, hN, hR, hlk, hA⟩ := hC
  intro H locs ls hP hD hS hl
  refine va_iast hx hb hK hP hD hS a 0 (zW_get he) rfl hi hdg (fun H1 locs1 hP1 hD1 hS1 => ?_)
  have e : (ι a, (Sum.inl (τ 0, n, .inl (upd f i.toNatClampNeg x)) : va_E)) = (ι a, zca ι τ (.inl (0, n, .inl (upd f i.toNatClampNeg x)))) := rfl
  rw [e, zW_set] at hP1 hD1
  exact kk H1 locs1 ls hP1 hD1 hS1 hl
theorem zr_zald (hC : zOK C τ R own cc nL) {a n : Nat} {f : Nat → Int32} {i : Int32} (hdg : decode cc pc = .ok (.baload, 1)) (he : w[a]? = some (.inl (2, n, .inl f))) (hi : vp_in i n) (kk : zR C τ ι nL kc ks (pc + 1) lv (.int (f i.toNatClampNeg) :: st) w) : zR C τ ι nL kc ks pc lv (.int i :: .ref a :: st) w := by
  obtain ⟨p, l, e, R', s, m, args, below, meth, c, D, A, H0, Q⟩ := C
  obtain ⟨hx, hb, hml, hown, hts, hK, hN, hR, hlk, hA⟩ := hC
  intro H locs ls hP hD hS hl
  exact va_zald hx hb hK hP a 2 (zW_get he) rfl hi hdg (kk H locs ls hP hD hS hl)
theorem zr_zast (hC : zOK C τ R own cc nL) {a n : Nat} {f : Nat → Int32} {i : Int32} {x : Int32} (hdg : decode cc pc = .ok (.bastore, 1)) (he : w[a]? = some (.inl (2, n, .inl f))) (hi : vp_in i n) (kk : zR C τ ι nL kc ks (pc + 1) lv st (w.set a (.inl (2, n, .inl (upd f i.toNatClampNeg (vp_nar .boolean x)))))) : zR C τ ι nL kc ks pc lv (.int x :: .int i :: .ref a :: st) w := by
  obtain ⟨p, l, e, R', s, m, args, below, meth, c, D, A, H0, Q⟩ := C
  obtain ⟨hx, hb, hml, hown, hts, hK, hN, hR, hlk, hA⟩ := hC
  intro H locs ls hP hD hS hl
  refine va_zast hx hb hK hP hD hS a 2 (zW_get he) rfl hi hdg (fun H1 locs1 hP1 hD1 hS1 => ?_)
  have e : (ι a, (Sum.inl (τ 2, n, .inl (upd f i.toNatClampNeg (vp_nar .boolean x))) : va_E)) = (ι a, zca ι τ (.inl (2, n, .inl (upd f i.toNatClampNeg (vp_nar .boolean x))))) := rfl
  rw [e, zW_set] at hP1 hD1
  exact kk H1 locs1 ls hP1 hD1 hS1 hl
theorem zr_cald (hC : zOK C τ R own cc nL) {a n : Nat} {f : Nat → Int32} {i : Int32} (hdg : decode cc pc = .ok (.caload, 1)) (he : w[a]? = some (.inl (3, n, .inl f))) (hi : vp_in i n) (kk : zR C τ ι nL kc ks (pc + 1) lv (.int (f i.toNatClampNeg) :: st) w) : zR C τ ι nL kc ks pc lv (.int i :: .ref a :: st) w := by
  obtain ⟨p, l, e, R', s, m, args, below, meth, c, D, A, H0, Q⟩ := C
  obtain ⟨hx, hb, hml, hown, hts, hK, hN, hR, hlk, hA⟩ := hC
  intro H locs ls hP hD hS hl
  exact va_cald hx hb hK hP a 3 (zW_get he) rfl hi hdg (kk H locs ls hP hD hS hl)
theorem zr_cast (hC : zOK C τ R own cc nL) {a n : Nat} {f : Nat → Int32} {i : Int32} {x : Int32} (hdg : decode cc pc = .ok (.castore, 1)) (he : w[a]? = some (.inl (3, n, .inl f))) (hi : vp_in i n) (kk : zR C τ ι nL kc ks (pc + 1) lv st (w.set a (.inl (3, n, .inl (upd f i.toNatClampNeg (vp_nar .char x)))))) : zR C τ ι nL kc ks pc lv (.int x :: .int i :: .ref a :: st) w := by
  obtain ⟨p, l, e, R', s, m, args, below, meth, c, D, A, H0, Q⟩ := C
  obtain ⟨hx, hb, hml, hown, hts, hK, hN, hR, hlk, hA⟩ := hC
  intro H locs ls hP hD hS hl
  refine va_cast hx hb hK hP hD hS a 3 (zW_get he) rfl hi hdg (fun H1 locs1 hP1 hD1 hS1 => ?_)
  have e : (ι a, (Sum.inl (τ 3, n, .inl (upd f i.toNatClampNeg (vp_nar .char x))) : va_E)) = (ι a, zca ι τ (.inl (3, n, .inl (upd f i.toNatClampNeg (vp_nar .char x))))) := rfl
  rw [e, zW_set] at hP1 hD1
  exact kk H1 locs1 ls hP1 hD1 hS1 hl
theorem zr_lald (hC : zOK C τ R own cc nL) {a n : Nat} {f : Nat → Int64} {i : Int32} (hdg : decode cc pc = .ok (.laload, 1)) (he : w[a]? = some (.inl (1, n, .inr (.inl f)))) (hi : vp_in i n) (kk : zR C τ ι nL kc ks (pc + 1) lv (.long (f i.toNatClampNeg) :: st) w) : zR C τ ι nL kc ks pc lv (.int i :: .ref a :: st) w := by
  obtain ⟨p, l, e, R', s, m, args, below, meth, c, D, A, H0, Q⟩ := C
  obtain ⟨hx, hb, hml, hown, hts, hK, hN, hR, hlk, hA⟩ := hC
  intro H locs ls hP hD hS hl
  exact va_lald hx hb hK hP a 1 (zW_get he) rfl hi hdg (kk H locs ls hP hD hS hl)
theorem zr_last (hC : zOK C τ R own cc nL) {a n : Nat} {f : Nat → Int64} {i : Int32} {x : Int64} (hdg : decode cc pc = .ok (.lastore, 1)) (he : w[a]? = some (.inl (1, n, .inr (.inl f)))) (hi : vp_in i n) (kk : zR C τ ι nL kc ks (pc + 1) lv st (w.set a (.inl (1, n, .inr (.inl (vp_updL f i.toNatClampNeg x)))))) : zR C τ ι nL kc ks pc lv (.long x :: .int i :: .ref a :: st) w := by
  obtain ⟨p, l, e, R', s, m, args, below, meth, c, D, A, H0, Q⟩ := C
  obtain ⟨hx, hb, hml, hown, hts, hK, hN, hR, hlk, hA⟩ := hC
  intro H locs ls hP hD hS hl
  refine va_last hx hb hK hP hD hS a 1 (zW_get he) rfl hi hdg (fun H1 locs1 hP1 hD1 hS1 => ?_)
  have e : (ι a, (Sum.inl (τ 1, n, .inr (.inl (vp_updL f i.toNatClampNeg x))) : va_E)) = (ι a, zca ι τ (.inl (1, n, .inr (.inl (vp_updL f i.toNatClampNeg x))))) := rfl
  rw [e, zW_set] at hP1 hD1
  exact kk H1 locs1 ls hP1 hD1 hS1 hl
theorem zr_aald (hC : zOK C τ R own cc nL) {a n t x : Nat} {f : Nat → Option Nat} {i : Int32} (hdg : decode cc pc = .ok (.aaload, 1)) (ht : t = 4 ∨ t = 5) (he : w[a]? = some (.inl (t, n, .inr (.inr (.inr (.inr f)))))) (hi : vp_in i n) (hv : f i.toNatClampNeg = some x) (kk : zR C τ ι nL kc ks (pc + 1) lv (.ref x :: st) w) : zR C τ ι nL kc ks pc lv (.int i :: .ref a :: st) w := by
  obtain ⟨p, l, e, R', s, m, args, below, meth, c, D, A, H0, Q⟩ := C
  obtain ⟨hx, hb, hml, hown, hts, hK, hN, hR, hlk, hA⟩ := hC
  intro H locs ls hP hD hS hl
  have hlt : i.toNatClampNeg < n := Nat.not_le.mp fun q => hi (Or.inr q)
  have e : (Value.ref x :: st).map (zcv ι) = va_rf ((fun j => if j < n then (f j).map ι else none) i.toNatClampNeg) :: st.map (zcv ι) := by
    show _ = va_rf (if i.toNatClampNeg < n then (f i.toNatClampNeg).map ι else none) :: _
    rw [if_pos hlt, hv]; rfl
  have kk2 := kk H locs ls hP hD hS hl
  rw [e] at kk2
  rcases ht with rfl | rfl
  · exact va_aldq (C := RX0) hx hb hK hP a 4 (zW_get he) rfl hi hdg kk2
  · exact va_aldq (C := RX6) hx hb hK hP a 5 (zW_get he) rfl hi hdg kk2
theorem zr_alen (hC : zOK C τ R own cc nL) {a t n : Nat} {x} (hdg : decode cc pc = .ok (.arraylength, 1)) (ht : t < 4) (he : w[a]? = some (.inl (t, n, x))) (kk : zR C τ ι nL kc ks (pc + 1) lv (.int (Int32.ofNat n) :: st) w) : zR C τ ι nL kc ks pc lv (.ref a :: st) w := by
  obtain ⟨p, l, e, R', s, m, args, below, meth, c, D, A, H0, Q⟩ := C
  obtain ⟨hx, hb, hml, hown, hts, hK, hN, hR, hlk, hA⟩ := hC
  intro H locs ls hP hD hS hl
  obtain ⟨y, hy⟩ : ∃ y, zca ι τ (.inl (t, n, x)) = .inl (τ t, n, y) := by
    rcases x with f | f | f | f | f <;> exact ⟨_, rfl⟩
  have hz := zW_get (ι := ι) (τ := τ) he
  rw [hy] at hz
  exact va_alen (x := (n, y)) hx hb hK hP a t hz (ty := zty t) (by rcases (show t = 0 ∨ t = 1 ∨ t = 2 ∨ t = 3 by omega) with rfl | rfl | rfl | rfl <;> rfl) rfl hdg (kk H locs ls hP hD hS hl)
theorem zr_copyi {d mc ms : Nat} (hC : zOK C τ (zrm d mc ms) own cc nL) (hd : 1 ≤ d) {index a b n0 n1 : Nat} {f g : Nat → Int32} {sp dp n : Int32} (hdg : decode cc pc = .ok (.invokestatic index, 3)) (hlink : Cond.methodLink own index arraycopyName ∈ zT) (ha0 : w[a]? = some (.inl (0, n0, .inl f))) (ha1 : w[b]? = some (.inl (0, n1, .inl g))) (h1 : ¬ sp < 0) (h2 : ¬ dp < 0) (h3 : ¬ n < 0) (h4 : sp.toNatClampNeg + n.toNatClampNeg ≤ n0) (h5 : dp.toNatClampNeg + n.toNatClampNeg ≤ n1) (hst : st = []) (kk : zR C τ ι nL kc ks (pc + 3) lv st (w.set b (.inl (0, n1, .inl (va_cpy f g sp.toNatClampNeg dp.toNatClampNeg n.toNatClampNeg))))) : zR C τ ι nL kc ks pc lv (.int n :: .int dp :: .ref b :: .int sp :: .ref a :: st) w := by
  obtain ⟨p, l, e, R', s, m, args, below, meth, c, D, A, H0, Q⟩ := C
  obtain ⟨hx, hb, hml, hown, hts, hK, hN, hR, hlk, hA⟩ := hC
  intro H locs ls hP hD hS hl
  subst hst hR
  refine va_copyi (rest := []) hx hb (hml.trans hl.1.symm) hown (hts _ hlink) (hts _ ac_native) (hts _ ac_static) (hts _ ac_init) hK hP hD hS a b 0 0 (zW_get ha0) (zW_get ha1) rfl rfl rfl h1 h2 h3 h4 h5 (fun _ _ => rfl) (by show 1 ≤ d; exact hd) (by show 0 + (nativeFrameWords "java/lang/System" "arraycopy" 5 + 11) ≤ 37 * d; exact Nat.le_trans (Nat.le_of_ble_eq_true rfl : _ ≤ 37 * 1) (Nat.mul_le_mul_left 37 hd)) hdg (fun H1 locs1 hP1 hD1 hS1 => ?_)
  have e : (ι b, (Sum.inl (τ 0, n1, .inl (va_cpy f g sp.toNatClampNeg dp.toNatClampNeg n.toNatClampNeg)) : va_E)) = (ι b, zca ι τ (.inl (0, n1, .inl (va_cpy f g sp.toNatClampNeg dp.toNatClampNeg n.toNatClampNeg)))) := rfl
  rw [e, zW_set] at hP1 hD1
  exact kk H1 locs1 ls hP1 hD1 hS1 hl
theorem zr_copyl {d mc ms : Nat} (hC : zOK C τ (zrm d mc ms) own cc nL) (hd : 1 ≤ d) {index a b n0 n1 : Nat} {f g : Nat → Int64} {sp dp n : Int32} (hdg : decode cc pc = .ok (.invokestatic index, 3)) (hlink : Cond.methodLink own index arraycopyName ∈ zT) (ha0 : w[a]? = some (.inl (1, n0, .inr (.inl f)))) (ha1 : w[b]? = some (.inl (1, n1, .inr (.inl g)))) (h1 : ¬ sp < 0) (h2 : ¬ dp < 0) (h3 : ¬ n < 0) (h4 : sp.toNatClampNeg + n.toNatClampNeg ≤ n0) (h5 : dp.toNatClampNeg + n.toNatClampNeg ≤ n1) (hst : st = []) (kk : zR C τ ι nL kc ks (pc + 3) lv st (w.set b (.inl (1, n1, .inr (.inl (va_cpy f g sp.toNatClampNeg dp.toNatClampNeg n.toNatClampNeg)))))) : zR C τ ι nL kc ks pc lv (.int n :: .int dp :: .ref b :: .int sp :: .ref a :: st) w := by
  obtain ⟨p, l, e, R', s, m, args, below, meth, c, D, A, H0, Q⟩ := C
  obtain ⟨hx, hb, hml, hown, hts, hK, hN, hR, hlk, hA⟩ := hC
  intro H locs ls hP hD hS hl
  subst hst hR
  refine va_copyl (rest := []) hx hb (hml.trans hl.1.symm) hown (hts _ hlink) (hts _ ac_native) (hts _ ac_static) (hts _ ac_init) hK hP hD hS a b 1 1 (zW_get ha0) (zW_get ha1) rfl rfl rfl h1 h2 h3 h4 h5 (fun _ _ => rfl) (by show 1 ≤ d; exact hd) (by show 0 + (nativeFrameWords "java/lang/System" "arraycopy" 5 + 11) ≤ 37 * d; exact Nat.le_trans (Nat.le_of_ble_eq_true rfl : _ ≤ 37 * 1) (Nat.mul_le_mul_left 37 hd)) hdg (fun H1 locs1 hP1 hD1 hS1 => ?_)
  have e : (ι b, (Sum.inl (τ 1, n1, .inr (.inl (va_cpy f g sp.toNatClampNeg dp.toNatClampNeg n.toNatClampNeg))) : va_E)) = (ι b, zca ι τ (.inl (1, n1, .inr (.inl (va_cpy f g sp.toNatClampNeg dp.toNatClampNeg n.toNatClampNeg))))) := rfl
  rw [e, zW_set] at hP1 hD1
  exact kk H1 locs1 ls hP1 hD1 hS1 hl
end ZR
/-- the cells and the tables behind a method -/
def zB (D : va_G) (ι : Nat → Nat) (τ : Nat → ClassId) (w : List va_E) (A : Nat → Prop) (t : State) : Prop := va_P D vwCl (zW ι τ w) t.heap ∧ va_K D vwCl (ztys τ) t ∧ va_D A (zW ι τ w) ∧ zNw t
def zPc (D : va_G) (ι : Nat → Nat) (τ : Nat → ClassId) (av : List Value) (w : List va_E) (sz : Nat) : Array Value → State → Prop := va_Pc (av.map (zcv ι)) (fun U => U.heap.size = sz ∧ zB D ι τ w (fun _ => True) U)
def zQc (D : va_G) (ι : Nat → Nat) (τ : Nat → ClassId) (Qr : Option Value → List va_E → Prop) (A : Nat → Prop) : Array Value → State → Outcome → State → Prop := fun _ st o t => (∃ (r : Option Value) (w' : List va_E), o = .returned (r.map (zcv ι)) ∧ Qr r w' ∧ zB D ι τ w' A t) ∧ va_F A st t
/-- what a method does, told by a predicate transformer over lists of cells -/
def zMet (y : MethodName) (bytes : ByteArray) (maxL : Nat) (ret : Option FieldType) (d : Nat) (Sp : List Value → List va_E → (Option Value → List va_E → Prop) → Prop) : Prop :=
  maxL ≤ 18 ∧ ∀ (l : Launch) (D : va_G) (ι : Nat → Nat) (τ : Nat → ClassId) (av : List Value) (w : List va_E) (sz : Nat) (Qr : Option Value → List va_E → Prop), Sp av w Qr →
    Met l y (.code y bytes maxL ret :: zT) (zrm d 0 0) (zPc D ι τ av w sz) (zQc D ι τ Qr (va_A (zW ι τ w) sz)) 0 0 (va_A (zW ι τ w) sz)
/-- the end of a method's body -/
def zRet : zCx → (Nat → ClassId) → (Nat → Nat) → Option FieldType → (Option Value → List va_E → Prop) → Prop
  | (_, _, _, _, s, _, args, below, meth, _, D, A, H0, Q), τ, ι, ret, Qr => Q = MQ below (zQc D ι τ Qr A) args s 0 0 A ∧ meth.sig.returnType = ret ∧ H0 = s.heap
theorem zNw_moved {u U : State} (hW : u.WarmedH U.vm) (h : zNw u) : zNw U := by
  intro w hw
  have h1 := h w hw
  simp only [zNest, List.mem_cons, List.mem_nil_iff, or_false] at hw
  rcases hw with rfl | rfl | rfl | rfl | rfl | rfl | rfl | rfl | rfl | rfl <;> exact va_Nw.warmM hW h1
theorem zNw_vm {u U : State} (hv : u.vm = U.vm) (h : zNw u) : zNw U := by
  intro w hw
  have h1 := h w hw
  simp only [zNest, List.mem_cons, List.mem_nil_iff, or_false] at hw
  rcases hw with rfl | rfl | rfl | rfl | rfl | rfl | rfl | rfl | rfl | rfl <;> exact va_Nw.same rfl hv h1
theorem zlv_args (ι : Nat → Nat) : ∀ (av : List Value) (i : Nat), lv_args i (av.map (zcv ι)) = zlv ι (lv_args i av)
  | [], _ => rfl
  | v :: av, i => by
    show (i, zcv ι v) :: lv_args (if (zcv ι v).category = 2 then i + 2 else i + 1) (av.map (zcv ι)) = (i, zcv ι v) :: zlv ι (lv_args (if v.category = 2 then i + 2 else i + 1) av)
    rw [zcat, zlv_args]
theorem zlg (ι : Nat → Nat) (av : List Value) : (lg_sl (av.map (zcv ι))).length = (lg_sl av).length := by
  induction av with
  | nil => rfl
  | cons v av ih =>
    simp only [lg_sl, List.map_cons, List.flatMap_cons, List.length_append] at ih ⊢
    rw [zcat, ih]
    congr 1
    by_cases h : v.category = 2 <;> simp [h]
set_option maxHeartbeats 1000000 in
theorem zMet.of {y : MethodName} {bytes : ByteArray} {maxL d : Nat} {ret : Option FieldType} {Sp : List Value → List va_E → (Option Value → List va_E → Prop) → Prop} (hy : plainName y.cls = true) (h18 : maxL ≤ 18) (hn : ∀ av w Qr, Sp av w Qr → (lg_sl av).length ≤ maxL)
    (body : ∀ (C : zCx) (τ : Nat → ClassId) (ι : Nat → Nat) (av : List Value) (w : List va_E) (Qr : Option Value → List va_E → Prop), Sp av w Qr → zOK C τ (zrm d 0 0) y.cls bytes maxL → zRet C τ ι ret Qr → zR C τ ι maxL 0 0 0 (lv_args 0 av) [] w) : zMet y bytes maxL ret d Sp := by
  refine ⟨h18, fun l D ι τ av w sz Qr hSp => ?_⟩
  refine Met.ofW (cc := bytes) (maxL := maxL) (ret := ret) hy rfl ?_
  intro p e s m args below meth c s₁ B hml hv
  obtain ⟨rfl, hsz, hP, hK, hD0, hN⟩ := hv
  subst hsz
  have hts := atoms_spec (ws := (.code y bytes maxL ret :: zT)) B.pre
  have hD := hD0.self (sz := s.heap.size)
  have hA : ∀ q : Nat, s.heap.size ≤ q → va_A (zW ι τ w) s.heap.size q := fun q h => Or.inr h
  have hl := lv_entry (av.map (zcv ι)) (n := maxL) (by rw [zlg]; exact hn av w Qr hSp)
  rw [lg_entry_eq]
  rw [zlv_args] at hl
  exact body (p, l, e, (headSpec (.code y bytes maxL ret :: zT) (zrm d 0 0)).room, s, m, (av.map (zcv ι)).toArray, below, meth, c, D, va_A (zW ι τ w) s.heap.size, s.heap, MQ below (zQc D ι τ Qr (va_A (zW ι τ w) s.heap.size)) (av.map (zcv ι)).toArray s 0 0 (va_A (zW ι τ w) s.heap.size)) τ ι av w Qr hSp
    ⟨B.exec, B.bytes, hml, findClass_of_methodNamed B.named, fun w hw => hts w (List.mem_cons_of_mem _ hw), hK, hN, rfl, B.notSynchronized, hA⟩ ⟨rfl, B.returns, rfl⟩ s.heap [] _ hP hD va_S.rf hl
theorem zT_in {y : MethodName} {bytes : ByteArray} {maxL : Nat} {ret : Option FieldType} (h : Cond.code y bytes maxL ret ∈ zT) : GoodIn zT (.code y bytes maxL ret :: zT) := by
  intro w hw
  rcases List.mem_cons.mp hw with rfl | hw
  · exact ⟨h, zT_good _ h⟩
  · exact ⟨hw, zT_good _ hw⟩
theorem zcats (ι : Nat → Nat) (st : List Value) : ((st.map (zcv ι)).map fun v => v.category).sum = (st.map fun v => v.category).sum := by
  rw [List.map_map]
  congr 1
  exact List.map_congr_left fun v _ => zcat ι v
theorem zPc_blind {D : va_G} {ι : Nat → Nat} {τ : Nat → ClassId} {av : List Value} {w : List va_E} {sz : Nat} : FrameBlind (zPc D ι τ av w sz) := by
  intro a U g mk q
  obtain ⟨q0, q1, qP, qK, qD, qN⟩ := q
  exact ⟨q0, q1, qP, va_K.moved (u := U) (U := U.calling g mk a) (Vm.Alike.refl U.vm) qK, qD, zNw_vm (u := U) (U := U.calling g mk a) rfl qN⟩
section ZC
variable {C : zCx} {τ : Nat → ClassId} {ι : Nat → Nat} {own : String} {cc : ByteArray} {nL kc ks pc d mc ms : Nat} {lv : List (Nat × Value)} {w : List va_E}
/-- behind a call: the callee's end is the caller's next step -/
theorem zr_back {p : Program} {l : Launch} {e : Env} {R : Room} {s : State} {m : MethodId} {args : Array Value} {below : List Frame} {meth : Method} {c : Code} {D : va_G} {A : Nat → Prop} {H0 : Heap} {Q : State → Prop} {H : Heap} {locs : List Loc} {ls : Array Slot} {a : Array Value} {rest st0 : List Value} {Qr : Option Value → List va_E → Prop}
    (hr : va_Run p l e R s m args below meth c H locs kc ks 0 0 (F0 m pc ls st0) (rest.map (zcv ι)) (zQc D ι τ Qr (va_A (zW ι τ w) H.size) a) (va_A (zW ι τ w) H.size)) (hP : va_P D vwCl (zW ι τ w) H) (hD : va_D A (zW ι τ w)) (hS : va_S A H0 H locs) (hA : ∀ q, H0.size ≤ q → A q) (hl : lv_has ls nL (zlv ι lv))
    (kk : ∀ r w', Qr r w' → zR (p, l, e, R, s, m, args, below, meth, c, D, A, H0, Q) τ ι nL kc ks (pc + 3) lv (r.toList ++ rest) w') : W p l e R s m args below meth c H locs kc ks Q (F0 m pc ls st0) := by
  have hF : ∀ q, va_A (zW ι τ w) H.size q → A q := by
    intro q hq
    rcases hq with ⟨k, e, hk⟩ | hq
    · exact hD.2 k (q, e) hk
    · exact hA q (Nat.le_trans hS.1 hq)
  intro T hT X
  obtain ⟨v, st₀, t, T', L, h0, X', hL, e1, e2, ⟨⟨r, w', hv, hq, hP1, hK1, hD1, hN1⟩, hz, hk⟩, st⟩ := hr T hT X
  cases hv
  rw [h0] at hz hk
  have hS' : va_S A H0 T'.heap (locs ++ L) := by
    refine ⟨Nat.le_trans hS.1 (by rw [e1]; exact hz), fun q h1 h2 => ?_, fun q hq => ?_⟩
    · rw [e1, hk q (Nat.lt_of_lt_of_le h1 hS.1) (fun z => h2 (hF q z))]
      exact hS.2.1 q h1 h2
    · rcases List.mem_append.mp hq with h | h
      · exact hS.2.2 q h
      · exact hF _ (hL q h)
  have k2 := kk r w' hq T'.heap (locs ++ L) ls (by rw [e1]; exact hP1) (hD1.weaken (fun k q _ h => hF q.1 h)) hS' hl
  have es : (r.toList ++ rest).map (zcv ι) = (r.map (zcv ι)).toList ++ rest.map (zcv ι) := by cases r <;> simp
  rw [es] at k2
  obtain ⟨t2, a1, b1⟩ := k2 T' rfl X'
  exact ⟨t2, st t2 a1, b1⟩
theorem zr_callV (hC : zOK C τ (zrm d mc ms) own cc nL) {y : MethodName} {bytes : ByteArray} {maxL d' n index b ci : Nat} {ret : Option FieldType} {Sp} {As rest fs : List Value} (hdg : decode cc pc = .ok (.invokevirtual index, 3)) (hlink : Cond.methodLink own index y ∈ zT) (hm : zMv y bytes maxL ret n) (hM : zMet y bytes maxL ret d' Sp) (hd : d' + 1 ≤ d) (hkc : kc ≤ mc) (hks : ks ≤ ms) (hn : As.length = n) (he : w[b]? = some (.inr (ci, fs))) (hcl : (vwCl[ci]?).map (fun q => q.1) = some y.cls) (hrest : (rest.map fun v => v.category).sum ≤ 8)
    (kk : Sp (.ref b :: As) w (fun r w' => zR C τ ι nL kc ks (pc + 3) lv (r.toList ++ rest) w')) {st0 : List Value} (hst : st0 = As.reverse ++ .ref b :: rest) : zR C τ ι nL kc ks pc lv st0 w := by
  subst hst
  obtain ⟨p, l, e, R', s, m, args, below, meth, c, D, A, H0, Q⟩ := C
  obtain ⟨hx, hb, hml, hown, hts, hK, hN, hR, hlk, hA⟩ := hC
  subst hR
  intro H locs ls hP hD hS hl
  obtain ⟨h18, hM⟩ := hM
  have hM' := hM l D ι τ (.ref b :: As) w H.size _ kk
  obtain ⟨hcode, hini, hins, hsel, hd1, hd2, hd3⟩ := hm
  obtain ⟨q, hq, hq1⟩ := Option.map_eq_some_iff.mp hcl
  have cw : CallW (zrm d mc ms) s args own y.cls index y bytes maxL ret (.code y bytes maxL ret :: zT) (zrm d' 0 0) 0 0 n := ⟨callB_of n hts (zT_in hcode) rfl rfl rfl (hts _ hini) (hts _ hlink) ⟨hd1, hd2, hd3⟩ ⟨hd, by show 8 + (maxL + 11) + 37 * d' ≤ 37 * d; omega⟩, hts _ hins, hts _ hsel⟩
  refine zr_back (va_runV (As := As.map (zcv ι)) (rest := rest.map (zcv ι)) (b := ι b) ⟨hx, hb, hml, hown, hts⟩ hM' cw ⟨zPc_blind, ?_, fun U hU hW => ⟨rfl, by rw [hU], by rw [hU]; exact hP, va_K.moved hW.alike hK, hD.weaken (fun _ _ _ _ => trivial), zNw_moved hW hN⟩⟩ rfl (by simpa using hn) hl.1 ?_ (by show 2 * 0 + _ ≤ 8; rw [zcats]; omega) hdg ⟨by show kc + 0 ≤ mc; omega, by show ks + 0 ≤ ms; omega⟩) hP hD hS hA hl (fun r w' h => h)
  · rw [← hq1]
    exact va_recv hK hP hq (zW_get he)
  · simp [List.map_reverse, zcv]
theorem zr_callS (hC : zOK C τ (zrm d mc ms) own cc nL) {y : MethodName} {bytes : ByteArray} {maxL d' n index : Nat} {ret : Option FieldType} {Sp} {As rest : List Value} (hdg : decode cc pc = .ok (.invokestatic index, 3)) (hlink : Cond.methodLink own index y ∈ zT) (hm : zMs y bytes maxL ret n) (hM : zMet y bytes maxL ret d' Sp) (hd : d' + 1 ≤ d) (hkc : kc ≤ mc) (hks : ks ≤ ms) (hn : As.length = n) (hrest : (rest.map fun v => v.category).sum ≤ 8)
    (kk : Sp As w (fun r w' => zR C τ ι nL kc ks (pc + 3) lv (r.toList ++ rest) w')) {st0 : List Value} (hst : st0 = As.reverse ++ rest) : zR C τ ι nL kc ks pc lv st0 w := by
  subst hst
  obtain ⟨p, l, e, R', s, m, args, below, meth, c, D, A, H0, Q⟩ := C
  obtain ⟨hx, hb, hml, hown, hts, hK, hN, hR, hlk, hA⟩ := hC
  subst hR
  intro H locs ls hP hD hS hl
  obtain ⟨h18, hM⟩ := hM
  have hM' := hM l D ι τ As w H.size _ kk
  obtain ⟨hcode, hini, hins, hd1, hd2, hd3⟩ := hm
  have cw : CallB (zrm d mc ms) s args own index y bytes maxL ret (.code y bytes maxL ret :: zT) (zrm d' 0 0) 0 0 n ∧ (Cond.static y).before args s = true := ⟨callB_of n hts (zT_in hcode) rfl rfl rfl (hts _ hini) (hts _ hlink) ⟨hd1, hd2, hd3⟩ ⟨hd, by show 8 + (maxL + 11) + 37 * d' ≤ 37 * d; omega⟩, hts _ hins⟩
  refine zr_back (va_runS (As := As.map (zcv ι)) (rest := rest.map (zcv ι)) ⟨hx, hb, hml, hown, hts⟩ hM' cw ⟨zPc_blind, fun U hU hW => ⟨rfl, by rw [hU], by rw [hU]; exact hP, va_K.moved hW.alike hK, hD.weaken (fun _ _ _ _ => trivial), zNw_moved hW hN⟩⟩ rfl (by simpa using hn) hl.1 ?_ (by show 2 * 0 + _ ≤ 8; rw [zcats]; omega) hdg ⟨by show kc + 0 ≤ mc; omega, by show ks + 0 ≤ ms; omega⟩) hP hD hS hA hl (fun r w' h => h)
  simp [List.map_reverse]
theorem zr_callSN (hC : zOK C τ (zrm d mc ms) own cc nL) {y : MethodName} {bytes : ByteArray} {maxL d' n index : Nat} {host : String} {ret : Option FieldType} {Sp} {As rest : List Value} (hdg : decode cc pc = .ok (.invokestatic index, 3)) (hlink : Cond.methodLinkNest own index y host ∈ zNest) (hm : zMs y bytes maxL ret n) (hM : zMet y bytes maxL ret d' Sp) (hd : d' + 1 ≤ d) (hkc : kc ≤ mc) (hks : ks ≤ ms) (hn : As.length = n) (hrest : (rest.map fun v => v.category).sum ≤ 8)
    (kk : Sp As w (fun r w' => zR C τ ι nL kc ks (pc + 3) lv (r.toList ++ rest) w')) {st0 : List Value} (hst : st0 = As.reverse ++ rest) : zR C τ ι nL kc ks pc lv st0 w := by
  subst hst
  obtain ⟨p, l, e, R', s, m, args, below, meth, c, D, A, H0, Q⟩ := C
  obtain ⟨hx, hb, hml, hown, hts, hK, hN, hR, hlk, hA⟩ := hC
  subst hR
  intro H locs ls hP hD hS hl
  obtain ⟨h18, hM⟩ := hM
  have hM' := hM l D ι τ As w H.size _ kk
  obtain ⟨hcode, hini, hins, hd1, hd2, hd3⟩ := hm
  have cw : va_CN (zrm d mc ms) s args own index y host bytes maxL ret (.code y bytes maxL ret :: zT) (zrm d' 0 0) 0 0 n ∧ (Cond.static y).before args s = true ∧ True := ⟨va_cnB n hts (zT_in hcode) rfl rfl rfl (hN _ hlink) (hts _ hini) ⟨hd1, hd2, hd3⟩ ⟨hd, by show 8 + (maxL + 11) + 37 * d' ≤ 37 * d; omega⟩, hts _ hins, trivial⟩
  refine zr_back (va_runSN (As := As.map (zcv ι)) (rest := rest.map (zcv ι)) ⟨hx, hb, hml, hown, hts⟩ hM' cw ⟨zPc_blind, fun U hU hW => ⟨rfl, by rw [hU], by rw [hU]; exact hP, va_K.moved hW.alike hK, hD.weaken (fun _ _ _ _ => trivial), zNw_moved hW hN⟩⟩ rfl (by simpa using hn) hl.1 ?_ (by show 2 * 0 + _ ≤ 8; rw [zcats]; omega) hdg ⟨by show kc + 0 ≤ mc; omega, by show ks + 0 ≤ ms; omega⟩) hP hD hS hA hl (fun r w' h => h)
  simp [List.map_reverse]
variable {Qr : Option Value → List va_E → Prop} {R : Room}
theorem zr_ireturn (hC : zOK C τ R own cc nL) (hE : zRet C τ ι (some .int) Qr) {x : Int32} (hdg : decode cc pc = .ok (.ireturn, 1)) (hq : Qr (some (.int x)) w) : zR C τ ι nL 0 0 pc lv [.int x] w := by
  obtain ⟨p, l, e, R', s, m, args, below, meth, c, D, A, H0, Q⟩ := C
  obtain ⟨hx, hb, hml, hown, hts, hK, hN, hR, hlk, hA⟩ := hC
  obtain ⟨rfl, hr, rfl⟩ := hE
  intro H locs ls hP hD hS hl
  exact W.iret (v := x) hx hb hr (fun t ht hW => ⟨⟨some (.int x), w, rfl, hq, by rw [ht]; exact hP, va_K.moved hW.alike hK, hD, zNw_moved hW hN⟩, hS.F ht⟩) hS.2.2 hdg
theorem zr_zreturn (hC : zOK C τ R own cc nL) (hE : zRet C τ ι (some .boolean) Qr) {x : Int32} (hdg : decode cc pc = .ok (.ireturn, 1)) (h01 : x = 0 ∨ x = 1) (hq : Qr (some (.int x)) w) : zR C τ ι nL 0 0 pc lv [.int x] w := by
  obtain ⟨p, l, e, R', s, m, args, below, meth, c, D, A, H0, Q⟩ := C
  obtain ⟨hx, hb, hml, hown, hts, hK, hN, hR, hlk, hA⟩ := hC
  obtain ⟨rfl, hr, rfl⟩ := hE
  intro H locs ls hP hD hS hl
  exact W.zret (v := x) hx hb hr (by rcases h01 with rfl | rfl <;> decide) (fun t ht hW => ⟨⟨some (.int x), w, rfl, hq, by rw [ht]; exact hP, va_K.moved hW.alike hK, hD, zNw_moved hW hN⟩, hS.F ht⟩) hS.2.2 hdg
theorem zr_lreturn (hC : zOK C τ R own cc nL) (hE : zRet C τ ι (some .long) Qr) {x : Int64} (hdg : decode cc pc = .ok (.lreturn, 1)) (hq : Qr (some (.long x)) w) : zR C τ ι nL 0 0 pc lv [.long x] w := by
  obtain ⟨p, l, e, R', s, m, args, below, meth, c, D, A, H0, Q⟩ := C
  obtain ⟨hx, hb, hml, hown, hts, hK, hN, hR, hlk, hA⟩ := hC
  obtain ⟨rfl, hr, rfl⟩ := hE
  intro H locs ls hP hD hS hl
  exact W.lret (v := x) hx hb hr (fun t ht hW => ⟨⟨some (.long x), w, rfl, hq, by rw [ht]; exact hP, va_K.moved hW.alike hK, hD, zNw_moved hW hN⟩, hS.F ht⟩) hS.2.2 hdg
theorem zr_vreturn (hC : zOK C τ R own cc nL) (hE : zRet C τ ι none Qr) (hdg : decode cc pc = .ok (.return_, 1)) (hq : Qr none w) : zR C τ ι nL 0 0 pc lv [] w := by
  obtain ⟨p, l, e, R', s, m, args, below, meth, c, D, A, H0, Q⟩ := C
  obtain ⟨hx, hb, hml, hown, hts, hK, hN, hR, hlk, hA⟩ := hC
  obtain ⟨rfl, hr, rfl⟩ := hE
  intro H locs ls hP hD hS hl
  exact W.vret hx hb hr (fun t ht hW => ⟨⟨none, w, rfl, hq, by rw [ht]; exact hP, va_K.moved hW.alike hK, hD, zNw_moved hW hN⟩, hS.F ht⟩) hS.2.2 hdg
end ZC
