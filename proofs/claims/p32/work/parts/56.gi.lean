/-! WHAT HOLDS OF G STAYS, through all calls; the first G -/
theorem mm_lt {n m : Nat} {x : Int32} (hn : n < 2147483648) (h : mm n x = some m) : m < n := by
  rcases pk_ix x (n := n) hn with q | q | ⟨j, hj, rfl⟩
  · rw [mm_no (Or.inl q)] at h; cases h
  · rw [mm_no (Or.inr q)] at h; cases h
  · rw [mm_yes hj hn] at h; cases h; exact hj
theorem rg_mem {a b m : Nat} {x : Int32} (ha : a < 2147483648) (hb : b < 2147483648) (h : rg a b x = some m) : a ≤ m ∧ m ≤ b := by
  by_cases q : x < nI a ∨ nI b < x
  · rw [rg_no q] at h; cases h
  · obtain ⟨j, h1, h2, rfl⟩ := rg_in (fun z => q (Or.inl z)) (fun z => q (Or.inr z)) ha hb
    rw [rg_yes h1 h2 hb] at h; cases h; exact ⟨h1, h2⟩
theorem gi_come {G : zG} (h : GI G) (x : Int32) : GI (fCome x G).2 := by
  unfold fCome
  split
  · exact h
  · split
    next hb => exact h.kp.set (h.1.come hb.1)
    next => exact h
theorem gi_leave {G : zG} (h : GI G) (x : Int32) : GI (fLeave x G).2 := by
  unfold fLeave
  split
  · exact h
  · split
    next hb => exact h.kp.set (h.1.leave hb.1)
    next => exact h
theorem gi_batch {G : zG} (h : GI G) : GI (fBatch G).2 := by
  unfold fBatch
  split
  next hb => exact h.kp.set (h.1.btc hb)
  next => exact h
theorem gi_late {G : zG} (h : GI G) (x v : Int32) : GI (fLate x v G).2 := by
  unfold fLate
  split
  · split
    next hb => exact h.kp.set (h.1.sleep hb.1)
    next => exact h
  next m _ _ hm _ =>
    split
    next hb => exact h.kp.set ((h.1.wake).rdm (mm_lt (by decide) hm))
    next => exact h
  · exact h
theorem gi_lose {G : zG} (h : GI G) (x n : Int32) : GI (fLose x n G).2 := by
  unfold fLose
  split
  next m n hm _ =>
    split
    next hb =>
      refine h.kp.set (h.1.lose (fun h0 => ?_))
      have := h.1.read (mm_lt (by decide) hm) h0
      omega
    next => exact h
  · exact h
theorem gi_mend {G : zG} (h : GI G) (x : Int32) : GI (fMend x G).2 := by
  unfold fMend
  split
  · exact h
  next m hm =>
    split
    next hb => exact h.kp.set (h.1.mnd (mm_lt (by decide) hm) hb)
    next => exact h
theorem gi_begin {G : zG} (h : GI G) : GI (fBegin G).2 := by
  unfold fBegin
  split
  · exact h
  · exact h.kp.set h.1.begun
theorem GI.tape {G : zG} (h : GI G) {t : (Nat → Nat) × Nat} (h1 : t.2 ≤ 90) (h2 : ∀ i, i < t.2 → 32 ≤ t.1 i ∧ t.1 i ≤ 126) : GI (gtape G t) := ⟨h.1, h.2.1, h.2.2.1, ⟨h1, h2⟩, h.2.2.2.2⟩
theorem gi_type {G : zG} (h : GI G) (x : Int32) : GI (fType x G).2 := by
  unfold fType
  split
  next c hc =>
    split
    next hn =>
      refine h.tape (by show G.2.2.2.1.2 + 1 ≤ 90; omega) (fun i hi => ?_)
      replace hi : i < G.2.2.2.1.2 + 1 := hi
      show 32 ≤ fup G.2.2.2.1.1 G.2.2.2.1.2 c i ∧ fup G.2.2.2.1.1 G.2.2.2.1.2 c i ≤ 126
      by_cases q : i = G.2.2.2.1.2
      · rw [q, fup_at]; exact rg_mem (by decide) (by decide) hc
      · rw [fup_ne _ _ q]; exact h.2.2.2.1.2 i (by omega)
    next => exact h
  · exact h
theorem evd_inv {tp : Nat → Nat} {tn : Nat} : ∀ (d : Nat) (D : zD) (n : Nat) (cm : Bool), INV D → INV (evd tp tn d D n cm).1
  | 0, D, n, cm, h => h
  | d + 1, D, n, cm, h => by
    unfold evd
    split
    · exact evd_inv d D n _ h
    · split
      · exact evd_inv d D n _ h
      · split
        next D' he => exact evd_inv d D' _ _ (ev1_inv h he)
        next => exact h
theorem gi_read {G : zG} (h : GI G) : GI (fRead G).2 := by
  unfold fRead
  split
  · exact h.tape (Nat.zero_le _) (fun i hi => absurd hi (Nat.not_lt_zero i))
  · exact (h.kp.set (evd_inv _ _ _ _ h.1)).tape (Nat.zero_le _) (fun i hi => absurd hi (Nat.not_lt_zero i))
theorem gi_drift {G : zG} (h : GI G) (x : Int32) : GI (fDrift x G).2 := by
  unfold fDrift
  split
  · exact drt_GI h _
  · exact h
theorem gi_undo {G : zG} (h : GI G) : GI (fUndo G).2 := by
  unfold fUndo
  split
  · exact h
  next h0 =>
    have h6 := h.2.1.1
    exact ⟨h.2.1.2 _ (by omega), ⟨by show G.2.1.2 - 1 ≤ 6; omega, fun j hj => h.2.1.2 j (by replace hj : j < G.2.1.2 - 1 := hj; omega)⟩, h.2.2⟩
theorem gi_seed {G : zG} (h : GI G) (x : Int32) : GI (fSeed x G).2 := by
  unfold fSeed
  split
  · exact h
  next hx =>
    obtain ⟨j, hj, rfl⟩ := nI_of hx
    rw [pk_tn (by omega)]
    exact h.set (h.1.draw1 hj)
theorem gi_image {G : zG} (h : GI G) : GI (fImage G).2 := ⟨h.1, h.2.1, fun _ => ⟨h.1, h.2.1⟩, h.2.2.2⟩
theorem gi_restore {G : zG} (h : GI G) : GI (fRestore G).2 := by
  unfold fRestore
  split
  next hi => exact ⟨(h.2.2.1 hi).1, (h.2.2.1 hi).2, h.2.2⟩
  next => exact h
theorem GI.sh {G : zG} (h : GI G) {hh : zH} (h1 : ∀ t, t < 4 → hh.1 t ≤ 4 ∧ hh.2.1 t ≤ 24) : GI (gsh G hh) := ⟨h.1, h.2.1, h.2.2.1, h.2.2.2.1, h1⟩
theorem GI.new {G : zG} (h : GI G) {t c z : Nat} (hc : c ≤ 4) (hz : z ≤ 24) : GI (gsh G (shnew G.2.2.2.2 t c z)) := h.sh (fun u hu => by
  show fup G.2.2.2.2.1 t c u ≤ 4 ∧ fup G.2.2.2.2.2.1 t z u ≤ 24
  by_cases q : u = t
  · subst q; rw [fup_at, fup_at]; exact ⟨hc, hz⟩
  · rw [fup_ne _ _ q, fup_ne _ _ q]; exact h.2.2.2.2 u hu)
theorem gi_sheet {G : zG} (h : GI G) (s l n : Int32) : GI (fSheet s l n G).2 := by
  unfold fSheet
  split
  next t c ht hc =>
    split
    · exact h
    next h1 =>
      split
      · exact h
      next h2 =>
        obtain ⟨j, hj, rfl⟩ := nI_of h2
        rw [pk_tn (by omega)]
        rw [z_nlt (by decide) hj] at h1
        have := mm_lt (by decide) hc
        exact h.new (by omega) h1
  · exact h
theorem gi_drop {G : zG} (h : GI G) (s : Int32) : GI (fDrop s G).2 := by
  unfold fDrop
  split
  · split
    · exact h
    · exact h.new (by decide) (by decide)
  · exact h
theorem gi_item {G : zG} (h : GI G) (s l i : Int32) (v : Int64) : GI (fItem s l i v G).2 := by
  unfold fItem
  split
  · split
    · exact h
    · exact h.sh h.2.2.2.2
  · exact h
theorem gi_copy {G : zG} (h : GI G) (s i t j n : Int32) : GI (fCopy s i t j n G).2 := by
  unfold fCopy
  split
  · split
    · exact h
    · split
      · exact h
      · split
        · exact h.sh h.2.2.2.2
        · exact h
  · exact h
theorem flm_same {D : zD} {c t : Nat} : ∀ (n a v : Nat) (h : zH), (flm D c t a n v h).1 = h.1 ∧ (flm D c t a n v h).2.1 = h.2.1
  | 0, _, _, _ => ⟨rfl, rfl⟩
  | n + 1, a, v, h => flm_same n (a + 1) (v / 2) (itset h t a (lcut c (kof (D 0) D v).toInt64))
theorem gi_film {G : zG} (h : GI G) (x s l i : Int32) : GI (fFilm x s l i G).2 := by
  unfold fFilm
  split
  · split
    · exact h
    · refine h.sh (fun t ht => ?_)
      rw [(flm_same _ _ _ _).1, (flm_same _ _ _ _).2]
      exact h.2.2.2.2 t ht
  · exact h
/-- how all begins -/
def D00 : zD := fun f k => if f = 6 ∧ k = 3 then 1 else 0
def G00 : zG := (D00, (fun _ => D00, 0), (false, D00, (fun _ => D00, 0)), (fun _ => 0, 0), (fun _ => 0, fun _ => 0, fun _ _ => 0))
theorem D00_f {f : Nat} (h : f ≠ 6) : D00 f = fun _ => 0 := funext fun k => if_neg (fun q => h q.1)
theorem INV00 : INV D00 := by
  have e0 := D00_f (f := 0) (by decide)
  have e1 := D00_f (f := 1) (by decide)
  have e2 := D00_f (f := 2) (by decide)
  have e4 := D00_f (f := 4) (by decide)
  have e5 := D00_f (f := 5) (by decide)
  have z0 : D00 6 0 = 0 := rfl
  have z1 : D00 6 1 = 0 := rfl
  have z2 : D00 6 2 = 0 := rfl
  have z3 : D00 6 3 = 1 := rfl
  unfold INV
  rw [e0, e1, e2, e4, e5, z0, z1, z2, z3]
  refine ⟨fun m _ => Or.inl rfl, fun m j _ _ _ q => absurd rfl q, fun m _ => Or.inl rfl, fun m _ => Or.inl rfl, fun m _ q => absurd rfl q, fun m _ => ⟨Nat.le_refl _, Nat.le_refl _, fun q => absurd rfl q⟩, ⟨by decide, by decide, ?_, by decide⟩, fun k hk => absurd hk (Nat.not_lt_zero k), fun i hi => absurd hi (Nat.not_lt_zero i), fun v _ _ q => absurd (sm_none v) q, fun i _ hi => absurd hi (Nat.not_lt_zero i), fun _ => rfl⟩
  rw [sm_none]
  decide
theorem GI00 : GI G00 := ⟨INV00, ⟨Nat.zero_le _, fun j hj => absurd hj (Nat.not_lt_zero j)⟩, fun q => absurd (show false = true from q) (by decide), ⟨Nat.zero_le _, fun i hi => absurd hi (Nat.not_lt_zero i)⟩, fun t _ => ⟨Nat.zero_le _, Nat.zero_le _⟩⟩
