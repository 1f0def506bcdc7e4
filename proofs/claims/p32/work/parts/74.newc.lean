/-! A NEWCOMER: what it is opened, when it has come, and when it has left -/
theorem SEC.cong {D D' : zD} (e0 : D' 0 = D 0) (e2 : D' 2 = D 2) (e3 : D' 3 = D 3) (e6 : D' 6 = D 6) (e7 : D' 7 = D 7) (e9 : D' 9 = D 9) (e10 : D' 10 = D 10) (e11 : D' 11 = D 11) (h : SEC D) : SEC D' := by
  have hk : ∀ v, key D' v = key D v := fun v => key_cong e7 (congrFun e6 0) v
  have hc := cur_cong e0 e7 (congrFun e6 0)
  obtain ⟨a, b, c, d⟩ := h
  refine ⟨fun k q m hm hh => ?_, fun i hi q => ?_, fun m hm q => ?_, fun m hm q => ?_⟩
  · rw [e0, e7]
    refine a k ((hc k).mp q) m hm ?_
    show (D 9 k).testBit m = true
    rw [← e9]; exact hh
  · rw [e6] at hi
    rw [e10] at q ⊢
    rw [e11, e7]
    obtain ⟨x, y⟩ := b i hi ((hc _).mp q)
    exact ⟨(hc _).mpr x, y⟩
  · unfold awk at q
    rw [e0, e2] at q
    obtain ⟨x, y⟩ := c m hm q
    rw [e3, e6]
    refine ⟨x, fun v hv hb => ?_⟩
    rw [e0] at hb
    rw [hk]
    show (D' 9 _).testBit m = true
    rw [e9]; exact y v hv hb
  · rw [e0] at q ⊢
    rw [hk]
    show (D' 9 _).testBit m = true
    rw [e9]; exact d m hm q
theorem SEC.told {D : zD} (h : SEC D) {m x : Nat} : SEC (dset D 1 m x) := h.cong (dset_ff _ _ _ (by decide)) (dset_ff _ _ _ (by decide)) (dset_ff _ _ _ (by decide)) (dset_ff _ _ _ (by decide)) (dset_ff _ _ _ (by decide)) (dset_ff _ _ _ (by decide)) (dset_ff _ _ _ (by decide)) (dset_ff _ _ _ (by decide))
theorem S3.told {D : zD} (h : S3 D) {m x : Nat} : S3 (dset D 1 m x) := by
  unfold S3
  rw [dset_ff _ _ _ (show 6 ≠ 1 by decide), dset_ff _ _ _ (show 8 ≠ 1 by decide), dset_ff _ _ _ (show 10 ≠ 1 by decide), dset_ff _ _ _ (show 11 ≠ 1 by decide)]
  exact h
/-- nobody is told, nobody is late, all hold what they must and no more -/
def WS (D : zD) : Prop := INV D ∧ SEC D ∧ (∀ m, m < 16 → D 1 m = 0) ∧ ∀ m, m < 16 → D 2 m = 0
theorem btc_WS {E : zD} (h : INV E) (hb : brf E = nI 0) (hs : SEC E) (hl : ∀ m, m < 16 → E 2 m = 0) : WS (btc E) := by
  have hB := bt_BT h
  refine ⟨h.btc hb, btc_SEC h hb hs, fun m hm => ?_, fun m hm => ?_⟩
  · rw [btc_f (by decide) (by decide)]; exact hB.1.2.1 m
  · rw [btc_f (by decide) (by decide), hB.1.2.2.1 m]
    split
    · exact hl m hm
    · rfl
theorem come_ok {D : zD} (w : WS D) {m : Nat} (h0 : D 0 m = 0) : INV (dset D 1 m 1) ∧ one (dset D 1 m 1) m ∧ SEC (dset D 1 m 1) ∧ ∀ j, j < 16 → dset D 1 m 1 2 j = 0 := by
  obtain ⟨w1, w2, w3, w4⟩ := w
  refine ⟨w1.come h0, ⟨dset_at _ _ _ _, fun j hj e => ?_⟩, w2.told, fun j hj => ?_⟩
  · rw [dset_k _ _ _ e]; exact w3 j hj
  · rw [dset_ff _ _ _ (by decide)]; exact w4 j hj
theorem leave_ok {D : zD} (w : WS D) {m : Nat} (h0 : D 0 m ≠ 0) : INV (dset D 1 m 2) ∧ SEC (dset D 1 m 2) ∧ ∀ j, j < 16 → dset D 1 m 2 2 j = 0 := by
  obtain ⟨w1, w2, w3, w4⟩ := w
  refine ⟨w1.leave h0, w2.told, fun j hj => ?_⟩
  rw [dset_ff _ _ _ (by decide)]; exact w4 j hj
theorem f0_one {D : zD} {m k : Nat} (h : f0 D (2 ^ m) k = true) : hd D m k = true := by
  obtain ⟨j, m1, m2⟩ := f0_ex h
  rw [Nat.testBit_two_pow, decide_eq_true_iff] at m1
  rw [m1]; exact m2
section NEWC
variable {E : zD} {m : Nat}
theorem nc_1 (h : INV E) (hb : brf E = nI 0) (h3 : S3 E) (hm : m < 16) (h1 : one E m) (hf : ∀ k, k < E 6 0 → hd E m k = false) {r k : Nat} (hk : k < btc E 6 0) (ho : (opr (btc E) (f0 (btc E) (2 ^ m)) r).1 k = true) : E 6 2 ≤ btc E 8 k := by
  have hB := bt_BT h
  have hI := h.btc hb
  have hs := btc_S3 h hb h3
  have e6 : btc E 6 = btB E 6 := btc_f (by decide) (by decide)
  have e8 : btc E 8 = btB E 8 := btc_f (by decide) (by decide)
  refine opr_sub (P := fun k => k < btc E 6 0 → E 6 2 ≤ btc E 8 k) (fun k q hk => ?_) (fun i hi ih hk => ?_) r k ho hk
  · rw [e6] at hk
    have := btc_new h hm h1.1 hf k hk (f0_one q)
    rw [e8, (hB.2.2.2.1 k this hk).2.2.2.2.1]
    exact Nat.le_refl _
  · exact Nat.le_trans (ih (hI.lets hi).2.1) (hs i hi)
theorem nc_2 (h : INV E) (hb : brf E = nI 0) (hm : m < 16) (h1 : one E m) : fa_cnt (nlp (btc E) m) (btc E 6 1) = 4 := by
  have hB := bt_BT h
  have hI := h.btc hb
  have e0 : btc E 0 = btB E 0 := btc_f (by decide) (by decide)
  have e6 : btc E 6 = btB E 6 := btc_f (by decide) (by decide)
  have e7 : btc E 7 = btB E 7 := btc_f (by decide) (by decide)
  have e11 : btc E 11 = btB E 11 := btc_f (by decide) (by decide)
  have e12 : btc E 12 = btB E 12 := btc_f (by decide) (by decide)
  obtain ⟨q, a, b, c, d, e, hq⟩ := one_four h hB (h.btc1 hb) hm h1.1
  have hn : ∀ j, j < 4 → nlp (btc E) m (q j) = true := fun j hj => by
    obtain ⟨x, y, z⟩ := hq j hj
    unfold nlp
    rw [Bool.and_eq_true, Bool.and_eq_true, decide_eq_true_iff, decide_eq_true_iff, e0, e6, e7, e11, e12, hB.1.1, hB.2.1.2.2.1]
    exact ⟨x, y, z⟩
  have h4 := cnt_four (N := btc E 6 1) b c d (by rw [e6]; exact e) (hn 0 (by decide)) (hn 1 (by decide)) (hn 2 (by decide)) (hn 3 (by decide))
  have := nlp_le hI hm
  omega
theorem nc_3 (h : INV E) (hm : m < 16) (h1 : one E m) (hf : ∀ k, k < E 6 0 → hd E m k = false) (h61 : 0 < E 6 1) : wsh (btc E) m (btc E 11 0) = 2 := by
  have hB := bt_BT h
  have e4 : btc E 4 = btB E 4 := btc_f (by decide) (by decide)
  have e6 : btc E 6 = btB E 6 := btc_f (by decide) (by decide)
  have e8 : btc E 8 = btB E 8 := btc_f (by decide) (by decide)
  have e11 : btc E 11 = btB E 11 := btc_f (by decide) (by decide)
  have p11 : btc E 11 0 = E 11 0 := by rw [e11]; exact (hB.2.2.2.2.1 0 h61).2.1
  have hu := (h.lets h61).2.1
  have hk := (h.keys hu).2.2.1
  have p4 : btc E 4 m = E 6 2 + 1 := by rw [e4, hB.1.2.2.2.2, if_pos h1.1]
  have p8 : btc E 8 (E 11 0) = E 8 (E 11 0) := by rw [e8]; exact (hB.2.2.1 _ hu).2.1
  rw [p11]
  unfold wsh
  rw [p4, p8, if_neg (fun q => ?_), if_neg (by omega), if_pos (by omega)]
  have := btc_new h hm h1.1 hf _ (Nat.lt_of_lt_of_le hu hB.2.1.1) q
  omega
theorem nc_lf (h : INV E) (hb : brf E = nI 0) (hm : m < 16) (h1 : one E m) : btc E 0 m ≠ 0 := by
  rw [btc_f (by decide) (by decide), (bt_BT h).1.1]
  have := one_lf h hm h1.1
  omega
theorem nc_4 (h : INV E) (hb : brf E = nI 0) (h3 : S3 E) (hm : m < 16) (h1 : one E m) (hf : ∀ k, k < E 6 0 → hd E m k = false) (hb2 : brf (dset (btc E) 1 m 2) = nI 0) {r k : Nat} (hk : k < btc (dset (btc E) 1 m 2) 6 0) (ho : (opr (btc (dset (btc E) 1 m 2)) (f0 (btc (dset (btc E) 1 m 2)) (2 ^ m)) r).1 k = true) : btc (dset (btc E) 1 m 2) 8 k = E 6 2 := by
  have hB := bt_BT h
  have hI := h.btc hb
  have hs := btc_S3 h hb h3
  have e6 : btc E 6 = btB E 6 := btc_f (by decide) (by decide)
  have e8 : btc E 8 = btB E 8 := btc_f (by decide) (by decide)
  have e0 : btc E 0 = btB E 0 := btc_f (by decide) (by decide)
  have e7 : btc E 7 = btB E 7 := btc_f (by decide) (by decide)
  have hn := fun k hk => btc_new (k := k) h hm h1.1 hf hk
  have h0 := nc_lf h hb hm h1
  have IF : INV (dset (btc E) 1 m 2) := hI.leave h0
  have ff : ∀ f, f ≠ 1 → dset (btc E) 1 m 2 f = btc E f := fun f hf => dset_ff _ _ _ hf
  have f1 : dset (btc E) 1 m 2 1 m = 2 := dset_at _ _ _ _
  have h62 : btc E 6 2 = E 6 2 + 1 := by rw [e6]; exact hB.2.1.2.2.1
  have hnew : ∀ k, E 6 0 ≤ k → k < btB E 6 0 → btc E 8 k = E 6 2 ∧ bn (btc E 0 m) (btc E 7 k) = true := fun k a b => by
    obtain ⟨-, -, a3, -, a5, -⟩ := hB.2.2.2.1 k a b
    rw [e8, e0, e7, hB.1.1]
    exact ⟨a5, (one_ch h hm h1).mp a3⟩
  have holdb : ∀ k, k < btB E 6 0 → btc E 8 k = E 6 2 → E 6 0 ≤ k := fun k a b => by
    rcases Nat.lt_or_ge k (E 6 0) with q | q
    · rw [e8, (hB.2.2.1 k q).2.1] at b
      have := (h.keys q).2.2.1
      omega
    · exact q
  generalize dset (btc E) 1 m 2 = F at *
  have hB2 := bt_BT IF
  have g6 : btc F 6 = btB F 6 := btc_f (by decide) (by decide)
  have g8 : btc F 8 = btB F 8 := btc_f (by decide) (by decide)
  have g10 : btc F 10 = btB F 10 := btc_f (by decide) (by decide)
  have g11 : btc F 11 = btB F 11 := btc_f (by decide) (by decide)
  have IG := IF.btc hb2
  have hlf : lfD F m = 0 := by rcases mvD_at IF hm with z | z | z <;> first | omega | exact z.2
  have F6 : F 6 = btB E 6 := (ff 6 (by decide)).trans e6
  have F8 : F 8 = btc E 8 := ff 8 (by decide)
  refine opr_sub (P := fun k => k < btc F 6 0 → btc F 8 k = E 6 2) (fun k q hk => ?_) (fun i hi ih hk => ?_) r k ho hk
  · rw [g6] at hk
    have hh := f0_one q
    rw [btc_out IF hm hlf hk, Bool.and_eq_true, decide_eq_true_iff] at hh
    obtain ⟨k1, k2⟩ := hh
    have k2' : hd (btc E) m k = true := by
      show (btc E 9 k).testBit m = true
      rw [← ff 9 (by decide)]; exact k2
    rw [g8, (hB2.2.2.1 k k1).2.1, F8]
    rw [F6] at k1
    exact (hnew k (hn k k1 k2') k1).1
  · rw [g6] at hi
    rw [g8] at ih ⊢
    rw [g11] at ih
    rw [g10]
    rcases Nat.lt_or_ge i (F 6 1) with z | z
    · obtain ⟨p1, p2, -⟩ := hB2.2.2.2.2.1 i z
      have l1 := (IF.lets z).1
      have l2 := (IF.lets z).2.1
      rw [p2, (hB2.2.2.1 _ l2).2.1, F8] at ih
      rw [p1, (hB2.2.2.1 _ l1).2.1, F8]
      have k1 := (IF.keys l1).2.2.1
      rw [F8, F6, ← e6, h62] at k1
      have hz : i < btc E 6 1 := by rw [e6, ← F6]; exact z
      have hs' := hs i hz
      rw [← ff 10 (by decide), ← ff 11 (by decide)] at hs'
      have := ih (by rw [g6]; exact Nat.lt_of_lt_of_le l2 hB2.2.1.1)
      omega
    · exfalso
      obtain ⟨w, w1, w2, w3, w4, w5, w6, -⟩ := hB2.2.2.2.2.2.1 i z hi
      have h8 := ih (by rw [← g11]; exact (IG.lets (by rw [g6]; exact hi)).2.1)
      rw [w6] at h8
      cases hc : (chD F).testBit w with
      | true =>
        obtain ⟨c1, c2, c3⟩ := (hB2.2.2.2.2.2.2.2 w (by omega) w2).2 hc w3
        rw [(hB2.2.2.2.1 _ c1 c2).2.2.2.2.1, F6, ← e6, h62] at h8
        omega
      | false =>
        rw [(hB2.2.2.2.2.2.2.2 w (by omega) w2).1 hc] at h8
        have hl := (mvD_F IF).live w3 hc
        obtain ⟨k1, k2⟩ := IF.live (v := w) (by omega) w2 hl
        rw [(hB2.2.2.1 _ k1).2.1, F8] at h8
        rw [F6] at k1
        have hw := (hnew _ (holdb _ k1 h8) k1).2
        rw [← ff 7 (by decide), k2, ← ff 0 (by decide)] at hw
        rcases Nat.lt_or_ge w 16 with y | y
        · have := bt_left IF hm f1 y hw
          rw [hc] at this; cases this
        · have e1 := (bn_leaf _ (IF.ok.lt hm) w w2 y).mp hw
          obtain ⟨j, hj, qj⟩ := sm_ne.mp w3
          rw [show bn ((mvD F).1 j) w = bn (F 0 j) w from bt_same IF w2 w3 hc hj] at qj
          have e2 := (bn_leaf _ (IF.ok.lt hj) w w2 y).mp qj
          have e3 := IF.inj j m hj hm (by rw [e1, e2]) (by omega)
          have e4 := bt_same IF w2 w3 hc hm
          rw [hlf, hw] at e4
          rw [show bn 0 w = false from bnf_0 5 w] at e4
          cases e4
theorem nc_5 (h : INV E) (hb : brf E = nI 0) (h3 : S3 E) (hm : m < 16) (h1 : one E m) (hf : ∀ k, k < E 6 0 → hd E m k = false) (hb2 : brf (dset (btc E) 1 m 2) = nI 0) {r : Nat} (hl : sm (btc (dset (btc E) 1 m 2) 0) 1 ≠ 0) : (opr (btc (dset (btc E) 1 m 2)) (f0 (btc (dset (btc E) 1 m 2)) (2 ^ m)) r).1 (key (btc (dset (btc E) 1 m 2)) 1) = false := by
  cases q : (opr (btc (dset (btc E) 1 m 2)) (f0 (btc (dset (btc E) 1 m 2)) (2 ^ m)) r).1 (key (btc (dset (btc E) 1 m 2)) 1) with
  | false => rfl
  | true =>
    exfalso
    have hI := h.btc hb
    have h0 := nc_lf h hb hm h1
    have IF : INV (dset (btc E) 1 m 2) := hI.leave h0
    have IG := IF.btc hb2
    have hk := (IG.live (v := 1) (by decide) (by decide) hl).1
    have h8 := nc_4 h hb h3 hm h1 hf hb2 hk q
    have f1 : dset (btc E) 1 m 2 1 m = 2 := dset_at _ _ _ _
    have f0' : dset (btc E) 1 m 2 0 m ≠ 0 := by rw [dset_ff _ _ _ (by decide)]; exact h0
    have f62 : dset (btc E) 1 m 2 6 2 = E 6 2 + 1 := by rw [dset_ff _ _ _ (by decide), btc_f (by decide) (by decide)]; exact (bt_BT h).2.1.2.2.1
    generalize dset (btc E) 1 m 2 = F at *
    have hB2 := bt_BT IF
    have g0 : btc F 0 = btB F 0 := btc_f (by decide) (by decide)
    have g6 : btc F 6 = btB F 6 := btc_f (by decide) (by decide)
    have g7 : btc F 7 = btB F 7 := btc_f (by decide) (by decide)
    have g8 : btc F 8 = btB F 8 := btc_f (by decide) (by decide)
    have hc := bt_left IF hm f1 (v := 1) (by decide) (bn_root _ (IF.ok.lt hm) f0')
    rw [g0, hB2.1.1] at hl
    obtain ⟨c1, c2, c3⟩ := (hB2.2.2.2.2.2.2.2 1 (by decide) (by decide)).2 hc hl
    rw [key_cong g7 (congrFun g6 0), g8, (hB2.2.2.2.1 _ c1 c2).2.2.2.2.1] at h8
    omega
end NEWC
