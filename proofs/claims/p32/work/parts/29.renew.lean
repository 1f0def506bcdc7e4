/-! NEW KEYS AND LETTERS, the class's side -/
theorem zk_dec {a : Nat} (h : 1 ≤ a) : nI a + Int32.ofInt (-1) = nI (a - 1) := by
  obtain ⟨b, rfl⟩ : ∃ b, a = b + 1 := ⟨a - 1, by omega⟩
  exact pk_m1 b
theorem SR.cases {S : zS} {q v : Nat} {lf : Nat → Nat} (h : SR S q lf) (h1 : 1 ≤ v) (h2 : v < 32) {r : Int32} (e : (r = nI 1 ∧ ¬ S.1 (q + 2) v = 0) ∨ (r = nI 0 ∧ S.1 (q + 2) v = 0)) : (r = nI 1 ∧ sm lf v ≠ 0) ∨ (r = nI 0 ∧ sm lf v = 0) := by
  rcases e with ⟨rfl, h3⟩ | ⟨rfl, h3⟩
  · exact Or.inl ⟨rfl, fun q => h3 ((h.live h1 h2).mpr q)⟩
  · exact Or.inr ⟨rfl, (h.live h1 h2).mp h3⟩
theorem bt_cases {n b : Nat} (hb : b < 32) {r : Int32} (e : (r = nI 1 ∧ bt (nI n) b = true) ∨ (r = nI 0 ∧ bt (nI n) b = false)) : (r = nI 1 ∧ n.testBit b = true) ∨ (r = nI 0 ∧ n.testBit b = false) := by
  rw [bt_nI _ _ hb] at e; exact e
theorem KR.add {S : zS} {D : zD} (h : KR S D) {v b : Nat} (hb : b = D 6 2) (x : Int32) : KR (zput (zput (zput (zput (zput S 6 (D 6 0) (nI v)) 7 (D 6 0) (nI b)) 8 (D 6 0) (nI 0)) 5 0 (nI (D 6 0 + 1))) 9 v x) (kadd D v 0) := by
  subst hb
  refine ⟨?_, fun k hk => ?_⟩
  · rw [zput_ne _ _ (by decide), zput_at, kadd_60]
  · rw [kadd_60] at hk
    rw [zput_ne _ _ (show 6 ≠ 9 by decide), zput_ne _ _ (show 7 ≠ 9 by decide), zput_ne _ _ (show 8 ≠ 9 by decide), zput_ne _ _ (show 6 ≠ 5 by decide), zput_ne _ _ (show 7 ≠ 5 by decide), zput_ne _ _ (show 8 ≠ 5 by decide), zput_ne _ _ (show 6 ≠ 8 by decide), zput_ne _ _ (show 7 ≠ 8 by decide), zput_ne _ _ (show 6 ≠ 7 by decide)]
    by_cases e : k = D 6 0
    · subst e
      rw [zput_at, zput_at, zput_at, kadd_7n, kadd_8n, kadd_9n]
      exact ⟨rfl, rfl, rfl⟩
    · rw [zput_k _ _ e, zput_k _ _ e, zput_k _ _ e, zput_ne _ _ (by decide), zput_ne _ _ (by decide), zput_ne _ _ (by decide), kadd_7 e, kadd_8 e, kadd_9 e]
      exact h.2 k (by omega)
abbrev hz : Nat → Nat := fun _ => 0
/-- between new keys -/
def RNR (lf : Nat → Nat) (ch : Nat) (D : zD) (S0 S : zS) (t : Nat) : Prop :=
  KR S (rnh hz lf ch D t) ∧ (∀ v, 32 ≤ v + t → v < 32 → S.1 9 v = kof lf (rnh hz lf ch D t) v) ∧ (∀ v, v + t ≤ 31 → S.1 9 v = S0.1 9 v) ∧ zfrm 5 10 S0 S
theorem RNR.dead {lf : Nat → Nat} {ch : Nat} {D : zD} {S0 S : zS} {t : Nat} (h : RNR lf ch D S0 S t) (ht : t < 31) (hs : sm lf (31 - t) = 0) : RNR lf ch D S0 (zput S 9 (31 - t) (-4)) (t + 1) := by
  obtain ⟨h1, h2, h3, h4⟩ := h
  have e : rnh hz lf ch D (t + 1) = rnh hz lf ch D t := if_neg (fun q => q.1 hs)
  unfold RNR
  rw [e]
  refine ⟨h1.kept (zput_ne _ _ (by decide)) (zput_ne _ _ (by decide)) (zput_ne _ _ (by decide)) (zput_ne _ _ (by decide)), fun v a b => ?_, fun v a => ?_, h4.put (by decide) (by decide)⟩
  · by_cases q : v = 31 - t
    · subst q; rw [zput_at, kof, if_pos hs]
    · rw [zput_k _ _ q]; exact h2 v (by omega) b
  · rw [zput_k _ _ (by omega)]; exact h3 v (by omega)
theorem RNR.same {lf : Nat → Nat} {ch : Nat} {D : zD} {S0 S : zS} {t : Nat} (h : RNR lf ch D S0 S t) (ht : t < 31) (hs : sm lf (31 - t) ≠ 0) (hc : ch.testBit (31 - t) = false) (hk : S0.1 9 (31 - t) = nI (key D (31 - t))) : RNR lf ch D S0 S (t + 1) := by
  obtain ⟨h1, h2, h3, h4⟩ := h
  have e : rnh hz lf ch D (t + 1) = rnh hz lf ch D t := if_neg (fun q => by rw [hc] at q; exact absurd q.2 (by decide))
  unfold RNR
  rw [e]
  refine ⟨h1, fun v a b => ?_, fun v a => h3 v (by omega), h4⟩
  by_cases q : v = 31 - t
  · subst q
    rw [h3 _ (by omega), hk, kof, if_neg hs, rnh_key t (by omega)]
  · exact h2 v (by omega) b
theorem RNR.new {lf : Nat → Nat} {ch : Nat} {D : zD} {S0 S : zS} {t b : Nat} (h : RNR lf ch D S0 S t) (ht : t < 31) (hs : sm lf (31 - t) ≠ 0) (hc : ch.testBit (31 - t) = true) (hb : b = D 6 2) : RNR lf ch D S0 (zput (zput (zput (zput (zput S 6 (rnh hz lf ch D t 6 0) (nI (31 - t))) 7 (rnh hz lf ch D t 6 0) (nI b)) 8 (rnh hz lf ch D t 6 0) (nI 0)) 5 0 (nI (rnh hz lf ch D t 6 0 + 1))) 9 (31 - t) (nI (rnh hz lf ch D t 6 0))) (t + 1) := by
  obtain ⟨h1, h2, h3, h4⟩ := h
  have e : rnh hz lf ch D (t + 1) = kadd (rnh hz lf ch D t) (31 - t) 0 := if_pos ⟨hs, hc⟩
  unfold RNR
  rw [e]
  refine ⟨h1.add (by rw [rnh_6 (by decide)]; exact hb) _, fun v a b => ?_, fun v a => ?_, ((((h4.put (by decide) (by decide)).put (by decide) (by decide)).put (by decide) (by decide)).put (by decide) (by decide)).put (by decide) (by decide)⟩
  · by_cases q : v = 31 - t
    · subst q
      rw [zput_at, kof, if_neg hs, kadd_key]
    · rw [zput_k _ _ q, zput_ne _ _ (by decide), zput_ne _ _ (by decide), zput_ne _ _ (by decide), zput_ne _ _ (by decide), h2 v (by omega) b]
      unfold kof
      rw [kadd_key' q]
  · rw [zput_k _ _ (by omega), zput_ne _ _ (by decide), zput_ne _ _ (by decide), zput_ne _ _ (by decide), zput_ne _ _ (by decide)]; exact h3 v (by omega)
set_option maxHeartbeats 4000000 in
set_option maxRecDepth 100000 in
theorem l1_renew {C : zCx} {τ : Nat → ClassId} {ι : Nat → Nat} (hC : zOK C τ (zrm 2 0 0) yX1_renew.cls cX1_renew 5) {S0 : zS} {D : zD} {lf : Nat → Nat} {ch b : Nat} (hS : SR S0 2 lf) (h200 : D 6 0 < 200) (hb : b = D 6 2) (hkeep : ∀ v, 1 ≤ v → v < 32 → sm lf v ≠ 0 → ch.testBit v = false → S0.1 9 v = nI (key D v)) (k : ∀ S' lv, RNR lf ch D S0 S' 31 → zR C τ ι 5 0 0 60 lv [] (zcells S')) : ∀ (n t : Nat) (S : zS), t + n = 31 → RNR lf ch D S0 S t → zR C τ ι 5 0 0 4 [(0, .ref 5), (1, .ref 2), (2, .int (nI ch)), (3, .int (nI b)), (4, .int (nI (31 - t)))] [] (zcells S) := by
  intro n
  induction n with
  | zero =>
    intro t S ht hI
    refine zr_iload hC dX1_renew_4 rfl ?_
    refine zk_iconst hC dX1_renew_6 (v := nI 1) (by decide +kernel) ?_
    refine zr_icmp_lt hC dX1_renew_7 (tgt := 60) (by decide) (fun c_7 => ?_) (fun c => absurd c (not_not_intro (nI_lt (by omega) (by decide))))
    exact k S _ (by rw [show 31 = t by omega]; exact hI)
  | succ n ih =>
    intro t S ht hI
    have hSt : SR S 2 lf := hS.kept (hI.2.2.2.1 _ (by decide)) (hI.2.2.2.1 _ (by decide))
    refine zr_iload hC dX1_renew_4 rfl ?_
    refine zk_iconst hC dX1_renew_6 (v := nI 1) (by decide +kernel) ?_
    refine zr_icmp_lt hC dX1_renew_7 (tgt := 60) (by decide) (fun c => absurd c (nI_nlt (by omega) (by omega))) (fun c_7 => ?_)
    refine zr_aload_n hC dX1_renew_10 rfl ?_
    refine zr_iload hC dX1_renew_11 rfl ?_
    refine zs_callV hC (b := 2) [_] [] dX1_renew_13 ml_X1_40 mtX5_live tX5_live (by decide) (by decide) (by decide) rfl rfl (by decide) (by decide +kernel) (Nat.le_of_ble_eq_true rfl) rfl ?_
    refine ⟨2, 31 - t, rfl, Or.inl rfl, by omega, fun r e => ?_⟩
    have e := hSt.cases (by omega) (by omega) e
    rcases e with ⟨rfl, hx⟩ | ⟨rfl, hx⟩
    · dsimp only [Option.toList, List.cons_append, List.nil_append]
      refine zr_if_ne hC dX1_renew_16 (tgt := 31) (by decide) (fun c_16 => ?_) (fun c => absurd c (by decide +kernel))
      refine zr_iload_n hC dX1_renew_31 rfl ?_
      refine zr_iload hC dX1_renew_32 rfl ?_
      refine zs_callSN hC [_, _] [] dX1_renew_34 mn_X1_46 mtX8_has tX8_has (by decide) (by decide) (by decide) rfl (Nat.le_of_ble_eq_true rfl) rfl ?_
      refine ⟨_, 31 - t, rfl, by omega, fun r e => ?_⟩
      have e := bt_cases (by omega) e
      rcases e with ⟨rfl, hy⟩ | ⟨rfl, hy⟩
      · dsimp only [Option.toList, List.cons_append, List.nil_append]
        refine zr_if_eq hC dX1_renew_37 (tgt := 54) (by decide) (fun c => absurd c (by decide +kernel)) (fun c_37 => ?_)
        refine zr_aload_n hC dX1_renew_40 rfl ?_
        refine zs_getr hC dX1_renew_41 fl_X1_21 (a := 5) (r := 9) rfl (by decide) ?_
        refine zr_iload hC dX1_renew_44 rfl ?_
        refine zr_aload_n hC dX1_renew_46 rfl ?_
        refine zr_iload hC dX1_renew_47 rfl ?_
        refine zr_iload_n hC dX1_renew_49 rfl ?_
        refine zs_callV hC (b := 5) [_, _] [_, _] dX1_renew_50 ml_X1_50 mtX1_add tX1_add (by decide) (by decide) (by decide) rfl rfl (by decide) (by decide +kernel) (Nat.le_of_ble_eq_true rfl) rfl ?_
        refine ⟨rnh hz lf ch D t 6 0, 31 - t, b, rfl, hI.1.1, by have := (rnh_I (h := hz) (lf := lf) (ch := ch) (D := D) t (by omega)).1.2; omega, ?_⟩
        dsimp only [Option.toList, List.cons_append, List.nil_append]
        refine zs_iast hC dX1_renew_53 (a := 9) (n := 32) rfl (by decide) (by decide) (j := 31 - t) rfl (by omega) ?_
        refine zn_iinc hC dX1_renew_54 rfl (by decide) (zk_dec (by omega)) ?_
        refine zr_goto hC dX1_renew_57 (tgt := 4) (by decide) ?_
        first | exact zR_sub [(0, .ref 5), (1, .ref 2), (2, .int (nI ch)), (3, .int (nI b)), (4, .int (nI (31 - (t + 1))))] ⟨rfl, rfl, rfl, rfl, rfl, trivial⟩ (ih (t + 1) _ (by omega) (hI.dead (by omega) hx)) | exact zR_sub [(0, .ref 5), (1, .ref 2), (2, .int (nI ch)), (3, .int (nI b)), (4, .int (nI (31 - (t + 1))))] ⟨rfl, rfl, rfl, rfl, rfl, trivial⟩ (ih (t + 1) _ (by omega) (hI.same (by omega) hx hy (hkeep _ (by omega) (by omega) hx hy))) | exact zR_sub [(0, .ref 5), (1, .ref 2), (2, .int (nI ch)), (3, .int (nI b)), (4, .int (nI (31 - (t + 1))))] ⟨rfl, rfl, rfl, rfl, rfl, trivial⟩ (ih (t + 1) _ (by omega) (hI.new (by omega) hx hy hb))
      · dsimp only [Option.toList, List.cons_append, List.nil_append]
        refine zr_if_eq hC dX1_renew_37 (tgt := 54) (by decide) (fun c_37 => ?_) (fun c => absurd c (by decide +kernel))
        refine zn_iinc hC dX1_renew_54 rfl (by decide) (zk_dec (by omega)) ?_
        refine zr_goto hC dX1_renew_57 (tgt := 4) (by decide) ?_
        first | exact zR_sub [(0, .ref 5), (1, .ref 2), (2, .int (nI ch)), (3, .int (nI b)), (4, .int (nI (31 - (t + 1))))] ⟨rfl, rfl, rfl, rfl, rfl, trivial⟩ (ih (t + 1) _ (by omega) (hI.dead (by omega) hx)) | exact zR_sub [(0, .ref 5), (1, .ref 2), (2, .int (nI ch)), (3, .int (nI b)), (4, .int (nI (31 - (t + 1))))] ⟨rfl, rfl, rfl, rfl, rfl, trivial⟩ (ih (t + 1) _ (by omega) (hI.same (by omega) hx hy (hkeep _ (by omega) (by omega) hx hy))) | exact zR_sub [(0, .ref 5), (1, .ref 2), (2, .int (nI ch)), (3, .int (nI b)), (4, .int (nI (31 - (t + 1))))] ⟨rfl, rfl, rfl, rfl, rfl, trivial⟩ (ih (t + 1) _ (by omega) (hI.new (by omega) hx hy hb))
    · dsimp only [Option.toList, List.cons_append, List.nil_append]
      refine zr_if_ne hC dX1_renew_16 (tgt := 31) (by decide) (fun c => absurd c (by decide +kernel)) (fun c_16 => ?_)
      refine zr_aload_n hC dX1_renew_19 rfl ?_
      refine zs_getr hC dX1_renew_20 fl_X1_21 (a := 5) (r := 9) rfl (by decide) ?_
      refine zr_iload hC dX1_renew_23 rfl ?_
      refine zk_bipush hC dX1_renew_25 (v := (-4)) (by decide +kernel) ?_
      refine zs_iast hC dX1_renew_27 (a := 9) (n := 32) rfl (by decide) (by decide) (j := 31 - t) rfl (by omega) ?_
      refine zr_goto hC dX1_renew_28 (tgt := 54) (by decide) ?_
      refine zn_iinc hC dX1_renew_54 rfl (by decide) (zk_dec (by omega)) ?_
      refine zr_goto hC dX1_renew_57 (tgt := 4) (by decide) ?_
      first | exact zR_sub [(0, .ref 5), (1, .ref 2), (2, .int (nI ch)), (3, .int (nI b)), (4, .int (nI (31 - (t + 1))))] ⟨rfl, rfl, rfl, rfl, rfl, trivial⟩ (ih (t + 1) _ (by omega) (hI.dead (by omega) hx)) | exact zR_sub [(0, .ref 5), (1, .ref 2), (2, .int (nI ch)), (3, .int (nI b)), (4, .int (nI (31 - (t + 1))))] ⟨rfl, rfl, rfl, rfl, rfl, trivial⟩ (ih (t + 1) _ (by omega) (hI.same (by omega) hx hy (hkeep _ (by omega) (by omega) hx hy))) | exact zR_sub [(0, .ref 5), (1, .ref 2), (2, .int (nI ch)), (3, .int (nI b)), (4, .int (nI (31 - (t + 1))))] ⟨rfl, rfl, rfl, rfl, rfl, trivial⟩ (ih (t + 1) _ (by omega) (hI.new (by omega) hx hy hb))
def spX1_renew : zSp := fun av S Q => ∃ (D : zD) (lf : Nat → Nat) (ch b : Nat), av = [.ref 5, .ref 2, .int (nI ch), .int (nI b)] ∧ SR S 2 lf ∧ KR S D ∧ D 6 0 < 200 ∧ b = D 6 2 ∧ (∀ v, 1 ≤ v → v < 32 → sm lf v ≠ 0 → ch.testBit v = false → S.1 9 v = nI (key D v)) ∧ ∀ S', KR S' (rnh hz lf ch D 31) → (∀ v, 1 ≤ v → v < 32 → S'.1 9 v = kof lf (rnh hz lf ch D 31) v) → zfrm 5 10 S S' → Q none S'
set_option maxHeartbeats 4000000 in
set_option maxRecDepth 100000 in
theorem tX1_renew : zM yX1_renew cX1_renew 5 none 2 spX1_renew := by
  refine zM.of (by decide) (by decide) (fun av S Q h => by obtain ⟨D, lf, ch, b, rfl, hS, hK, h200, hb, hkeep, hQ⟩ := h; exact Nat.le_of_ble_eq_true rfl) (fun C τ ι av S Q Qr h hr hC hE => ?_)
  obtain ⟨D, lf, ch, b, rfl, hS, hK, h200, hb, hkeep, hQ⟩ := h
  show zR C τ ι _ 0 0 0 [(0, .ref 5), (1, .ref 2), (2, .int (nI ch)), (3, .int (nI b))] [] _
  refine zk_bipush hC dX1_renew_0 (v := nI 31) (by decide +kernel) ?_
  refine zr_istore hC dX1_renew_2 (by decide) ?_
  refine zR_sub [(0, .ref 5), (1, .ref 2), (2, .int (nI ch)), (3, .int (nI b)), (4, .int (nI (31 - 0)))] ⟨rfl, rfl, rfl, rfl, rfl, trivial⟩ ?_
  exact l1_renew (S0 := S) hC hS h200 hb hkeep (fun S1 lv h1 => zr_vreturn hC hE dX1_renew_60 (hr _ _ (hQ _ h1.1 (fun v a b => h1.2.1 v (by omega) b) h1.2.2.2))) 31 0 S (by omega) ⟨hK, fun v a b => absurd a (by omega), fun v _ => rfl, zfrm.rf⟩
theorem LR.add {S : zS} {D : zD} (h : LR S D) {a b c : Nat} {z : Int32} (hz : z = lbI c) : LR (zput (zput (zput (zput S 11 (D 6 1) (nI a)) 12 (D 6 1) (nI b)) 13 (D 6 1) z) 10 0 (nI (D 6 1 + 1))) (ladd D a b c) := by
  subst hz
  obtain ⟨n1, n2, n3⟩ := ladd_n (D := D) (a := a) (b := b) (c := c)
  refine ⟨?_, fun i hi => ?_⟩
  · rw [zput_at, ladd_61]
  · rw [ladd_61] at hi
    rw [zput_ne _ _ (show 11 ≠ 10 by decide), zput_ne _ _ (show 12 ≠ 10 by decide), zput_ne _ _ (show 13 ≠ 10 by decide), zput_ne _ _ (show 11 ≠ 13 by decide), zput_ne _ _ (show 12 ≠ 13 by decide), zput_ne _ _ (show 11 ≠ 12 by decide)]
    by_cases e : i = D 6 1
    · subst e
      rw [zput_at, zput_at, zput_at, n1, n2, n3]
      exact ⟨rfl, rfl, rfl⟩
    · obtain ⟨q1, q2, q3⟩ := ladd_o (D := D) (a := a) (b := b) (c := c) e
      rw [zput_k _ _ e, zput_k _ _ e, zput_k _ _ e, zput_ne _ _ (by decide), zput_ne _ _ (by decide), zput_ne _ _ (by decide), q1, q2, q3]
      exact h.2 i (by omega)
theorem sm_up {lf : Nat → Nat} (h : lfok lf) {v w : Nat} (h1 : 1 ≤ v) (h2 : v < 16) (hw : w = 2 * v ∨ w = 2 * v + 1) (hs : sm lf w ≠ 0) : sm lf v ≠ 0 := by
  obtain ⟨m, hm, hb⟩ := sm_ne.mp hs
  refine sm_ne.mpr ⟨m, hm, ?_⟩
  rw [(bn_kid _ (h.lt hm) v h2 h1 ((h m hm).imp id (fun q => q.1))).1]
  rcases hw with rfl | rfl
  · rw [hb, Bool.true_or]
  · rw [hb, Bool.or_true]
def spX0_tell : zSp := fun av S Q => ∃ (v w : Nat) (lf : Nat → Nat) (D : zD), av = [.ref 1, .int (nI v), .int (nI w)] ∧ 1 ≤ v ∧ v < 16 ∧ (w = 2 * v ∨ w = 2 * v + 1) ∧ lfok lf ∧ SR S 2 lf ∧ (∀ v, 1 ≤ v → v < 32 → S.1 9 v = kof lf D v) ∧ S.1 1 6 = nI (D 6 2) ∧ LR S D ∧ D 6 1 < 192 ∧ ∀ S', LR S' (tl1 lf D v w) → zfrm 10 14 S S' → Q none S'
set_option maxHeartbeats 4000000 in
set_option maxRecDepth 100000 in
theorem tX0_tell : zM yX0_tell cX0_tell 3 none 1 spX0_tell := by
  refine zM.of (by decide) (by decide) (fun av S Q h => by obtain ⟨v, w, lf, D, rfl, h1, h2, hw, hlf, hS, hO, hB, hL, hn, hQ⟩ := h; exact Nat.le_of_ble_eq_true rfl) (fun C τ ι av S Q Qr h hr hC hE => ?_)
  obtain ⟨v, w, lf, D, rfl, h1, h2, hw, hlf, hS, hO, hB, hL, hn, hQ⟩ := h
  show zR C τ ι _ 0 0 0 [(0, .ref 1), (1, .int (nI v)), (2, .int (nI w))] [] _
  refine zr_aload_n hC dX0_tell_0 rfl ?_
  refine zs_getr hC dX0_tell_1 fl_X0_12 (a := 1) (r := 2) rfl (by decide) ?_
  refine zr_iload_n hC dX0_tell_4 rfl ?_
  refine zs_callV hC (b := 2) [_] [] dX0_tell_5 ml_X0_157 mtX5_live tX5_live (by decide) (by decide) (by decide) rfl rfl (by decide) (by decide +kernel) (Nat.le_of_ble_eq_true rfl) rfl ?_
  refine ⟨2, w, rfl, Or.inl rfl, by omega, fun r e => ?_⟩
  have e := hS.cases (by omega) (by omega) e
  rcases e with ⟨rfl, hx⟩ | ⟨rfl, hx⟩
  · dsimp only [Option.toList, List.cons_append, List.nil_append]
    refine zr_if_eq hC dX0_tell_8 (tgt := 40) (by decide) (fun c => absurd c (by decide +kernel)) (fun c_8 => ?_)
    refine zr_aload_n hC dX0_tell_11 rfl ?_
    refine zs_getr hC dX0_tell_12 fl_X0_28 (a := 1) (r := 10) rfl (by decide) ?_
    refine zr_aload_n hC dX0_tell_15 rfl ?_
    refine zs_getr hC dX0_tell_16 fl_X0_21 (a := 1) (r := 5) rfl (by decide) ?_
    refine zs_getr hC dX0_tell_19 fl_X0_87 (a := 5) (r := 9) rfl (by decide) ?_
    refine zr_iload_n hC dX0_tell_22 rfl ?_
    refine zv_iald hC dX0_tell_23 (a := 9) (n := 32) rfl (by decide) (by decide) (j := v) rfl (by omega) ((hO v h1 (by omega)).trans (if_neg (sm_up hlf h1 h2 hw hx))) ?_
    refine zr_aload_n hC dX0_tell_24 rfl ?_
    refine zs_getr hC dX0_tell_25 fl_X0_21 (a := 1) (r := 5) rfl (by decide) ?_
    refine zs_getr hC dX0_tell_28 fl_X0_87 (a := 5) (r := 9) rfl (by decide) ?_
    refine zr_iload_n hC dX0_tell_31 rfl ?_
    refine zv_iald hC dX0_tell_32 (a := 9) (n := 32) rfl (by decide) (by decide) (j := w) rfl (by omega) ((hO w (by omega) (by omega)).trans (if_neg hx)) ?_
    refine zr_aload_n hC dX0_tell_33 rfl ?_
    refine zv_geti hC dX0_tell_34 fl_X0_71 (a := 1) rfl (by decide) (hB) ?_
    refine zs_callV hC (b := 10) [_, _, _] [] dX0_tell_37 ml_X0_160 mtX2_add tX2_add (by decide) (by decide) (by decide) rfl rfl (by decide) (by decide +kernel) (Nat.le_of_ble_eq_true rfl) rfl ?_
    refine ⟨D 6 1, _, _, _, rfl, hL.1, hn, ?_⟩
    have hq := hL.add (a := key D v) (b := key D w) (c := D 6 2 + 1) (z := nI (D 6 2)) rfl
    dsimp only [Option.toList, List.nil_append]
    exact zr_vreturn hC hE dX0_tell_40 (hr _ _ (by first | exact hQ _ (by rw [tl1, if_neg hx]; exact hq) ((((zfrm.rf.put (by decide) (by decide)).put (by decide) (by decide)).put (by decide) (by decide)).put (by decide) (by decide)) | exact hQ _ (by rw [tl1, if_pos hx]; exact hL) zfrm.rf))
  · dsimp only [Option.toList, List.cons_append, List.nil_append]
    refine zr_if_eq hC dX0_tell_8 (tgt := 40) (by decide) (fun c_8 => ?_) (fun c => absurd c (by decide +kernel))
    exact zr_vreturn hC hE dX0_tell_40 (hr _ _ (by first | exact hQ _ (by rw [tl1, if_neg hx]; exact hq) ((((zfrm.rf.put (by decide) (by decide)).put (by decide) (by decide)).put (by decide) (by decide)).put (by decide) (by decide)) | exact hQ _ (by rw [tl1, if_pos hx]; exact hL) zfrm.rf))
set_option maxHeartbeats 4000000 in
set_option maxRecDepth 100000 in
theorem l0_tellChanged {C : zCx} {τ : Nat → ClassId} {ι : Nat → Nat} (hC : zOK C τ (zrm 2 0 0) yX0_tellChanged.cls cX0_tellChanged 3) {S0 : zS} {D : zD} {lf : Nat → Nat} {ch : Nat} (hlf : lfok lf) (hS : SR S0 2 lf) (hO : ∀ v, 1 ≤ v → v < 32 → S0.1 9 v = kof lf D v) (hB : S0.1 1 6 = nI (D 6 2)) (h160 : D 6 1 < 160) (k : ∀ S' lv, LR S' (tl lf ch D 15) → zfrm 10 14 S0 S' → zR C τ ι 3 0 0 40 lv [] (zcells S')) : ∀ (n t : Nat) (S : zS), t + n = 15 → LR S (tl lf ch D t) → zfrm 10 14 S0 S → zR C τ ι 3 0 0 3 [(0, .ref 1), (1, .int (nI ch)), (2, .int (nI (15 - t)))] [] (zcells S) := by
  intro n
  induction n with
  | zero =>
    intro t S ht hL hF
    refine zr_iload_n hC dX0_tellChanged_3 rfl ?_
    refine zk_iconst hC dX0_tellChanged_4 (v := nI 1) (by decide +kernel) ?_
    refine zr_icmp_lt hC dX0_tellChanged_5 (tgt := 40) (by decide) (fun c_5 => ?_) (fun c => absurd c (not_not_intro (nI_lt (by omega) (by decide))))
    exact k S _ (by rw [show 15 = t by omega]; exact hL) hF
  | succ n ih =>
    intro t S ht hL hF
    have hE := tl_E (lf := lf) (ch := ch) (D := D) t
    have hn := tl_n (lf := lf) (ch := ch) (D := D) t
    have hE1 := hE.tl lf (15 - t) (2 * (15 - t))
    have hOt : ∀ v, 1 ≤ v → v < 32 → S.1 9 v = kof lf (tl lf ch D t) v := fun v a b => by rw [hF.1 9 (by decide), hO v a b]; unfold kof; rw [hE.key]
    refine zr_iload_n hC dX0_tellChanged_3 rfl ?_
    refine zk_iconst hC dX0_tellChanged_4 (v := nI 1) (by decide +kernel) ?_
    refine zr_icmp_lt hC dX0_tellChanged_5 (tgt := 40) (by decide) (fun c => absurd c (nI_nlt (by omega) (by omega))) (fun c_5 => ?_)
    refine zr_iload_n hC dX0_tellChanged_8 rfl ?_
    refine zr_iload_n hC dX0_tellChanged_9 rfl ?_
    refine zs_callSN hC [_, _] [] dX0_tellChanged_10 mn_X0_94 mtX8_has tX8_has (by decide) (by decide) (by decide) rfl (Nat.le_of_ble_eq_true rfl) rfl ?_
    refine ⟨_, 15 - t, rfl, by omega, fun r e => ?_⟩
    have e := bt_cases (by omega) e
    rcases e with ⟨rfl, hy⟩ | ⟨rfl, hy⟩
    · dsimp only [Option.toList, List.cons_append, List.nil_append]
      refine zr_if_eq hC dX0_tellChanged_13 (tgt := 34) (by decide) (fun c => absurd c (by decide +kernel)) (fun c_13 => ?_)
      refine zr_aload_n hC dX0_tellChanged_16 rfl ?_
      refine zr_iload_n hC dX0_tellChanged_17 rfl ?_
      refine zk_iconst hC dX0_tellChanged_18 (v := nI 2) (by decide +kernel) ?_
      refine zr_iload_n hC dX0_tellChanged_19 rfl ?_
      refine zn_imul hC dX0_tellChanged_20 (pk_mul _ _) ?_
      refine zs_callV hC (b := 1) [_, _] [] dX0_tellChanged_21 ml_X0_154 mtX0_tell tX0_tell (by decide) (by decide) (by decide) rfl rfl (by decide) (by decide +kernel) (Nat.le_of_ble_eq_true rfl) rfl ?_
      refine ⟨15 - t, 2 * (15 - t), lf, tl lf ch D t, rfl, by omega, by omega, Or.inl rfl, hlf, hS.kept (hF.1 _ (by decide)) (hF.1 _ (by decide)), hOt, by rw [hF.1 1 (by decide), hE.2.1 2 (by decide)]; exact hB, hL, by omega, fun S1 f1 f2 => ?_⟩
      dsimp only [Option.toList, List.nil_append]
      refine zr_aload_n hC dX0_tellChanged_24 rfl ?_
      refine zr_iload_n hC dX0_tellChanged_25 rfl ?_
      refine zk_iconst hC dX0_tellChanged_26 (v := nI 2) (by decide +kernel) ?_
      refine zr_iload_n hC dX0_tellChanged_27 rfl ?_
      refine zn_imul hC dX0_tellChanged_28 (pk_mul _ _) ?_
      refine zk_iconst hC dX0_tellChanged_29 (v := nI 1) (by decide +kernel) ?_
      refine zn_iadd hC dX0_tellChanged_30 (nI_add _ _) ?_
      refine zs_callV hC (b := 1) [_, _] [] dX0_tellChanged_31 ml_X0_154 mtX0_tell tX0_tell (by decide) (by decide) (by decide) rfl rfl (by decide) (by decide +kernel) (Nat.le_of_ble_eq_true rfl) rfl ?_
      refine ⟨15 - t, 2 * (15 - t) + 1, lf, _, rfl, by omega, by omega, Or.inr rfl, hlf, hS.kept ((f2.1 _ (by decide)).trans (hF.1 _ (by decide))) ((f2.1 _ (by decide)).trans (hF.1 _ (by decide))), ?_, ?_, f1, ?_, fun S2 g1 g2 => ?_⟩
      · intro v a b; rw [f2.1 9 (by decide), hF.1 9 (by decide), hO v a b]; unfold kof; rw [hE1.key]
      · rw [f2.1 1 (by decide), hF.1 1 (by decide), hE1.2.1 2 (by decide)]; exact hB
      · have := tl1_n (lf := lf) (T := tl lf ch D t) (v := 15 - t) (w := 2 * (15 - t)); omega
      dsimp only [Option.toList, List.nil_append]
      refine zn_iinc hC dX0_tellChanged_34 rfl (by decide) (zk_dec (by omega)) ?_
      refine zr_goto hC dX0_tellChanged_37 (tgt := 3) (by decide) ?_
      first | exact zR_sub [(0, .ref 1), (1, .int (nI ch)), (2, .int (nI (15 - (t + 1))))] ⟨rfl, rfl, rfl, trivial⟩ (ih (t + 1) _ (by omega) (by rw [tl, if_pos hy]; exact g1) ((hF.tr f2).tr g2)) | exact zR_sub [(0, .ref 1), (1, .int (nI ch)), (2, .int (nI (15 - (t + 1))))] ⟨rfl, rfl, rfl, trivial⟩ (ih (t + 1) _ (by omega) (by rw [tl, if_neg (by rw [hy]; decide)]; exact hL) hF)
    · dsimp only [Option.toList, List.cons_append, List.nil_append]
      refine zr_if_eq hC dX0_tellChanged_13 (tgt := 34) (by decide) (fun c_13 => ?_) (fun c => absurd c (by decide +kernel))
      refine zn_iinc hC dX0_tellChanged_34 rfl (by decide) (zk_dec (by omega)) ?_
      refine zr_goto hC dX0_tellChanged_37 (tgt := 3) (by decide) ?_
      first | exact zR_sub [(0, .ref 1), (1, .int (nI ch)), (2, .int (nI (15 - (t + 1))))] ⟨rfl, rfl, rfl, trivial⟩ (ih (t + 1) _ (by omega) (by rw [tl, if_pos hy]; exact g1) ((hF.tr f2).tr g2)) | exact zR_sub [(0, .ref 1), (1, .int (nI ch)), (2, .int (nI (15 - (t + 1))))] ⟨rfl, rfl, rfl, trivial⟩ (ih (t + 1) _ (by omega) (by rw [tl, if_neg (by rw [hy]; decide)]; exact hL) hF)
def spX0_tellChanged : zSp := fun av S Q => ∃ (D : zD) (lf : Nat → Nat) (ch : Nat), av = [.ref 1, .int (nI ch)] ∧ lfok lf ∧ SR S 2 lf ∧ (∀ v, 1 ≤ v → v < 32 → S.1 9 v = kof lf D v) ∧ S.1 1 6 = nI (D 6 2) ∧ LR S D ∧ D 6 1 < 160 ∧ ∀ S', LR S' (tl lf ch D 15) → zfrm 10 14 S S' → Q none S'
set_option maxHeartbeats 4000000 in
set_option maxRecDepth 100000 in
theorem tX0_tellChanged : zM yX0_tellChanged cX0_tellChanged 3 none 2 spX0_tellChanged := by
  refine zM.of (by decide) (by decide) (fun av S Q h => by obtain ⟨D, lf, ch, rfl, hlf, hS, hO, hB, hL, h160, hQ⟩ := h; exact Nat.le_of_ble_eq_true rfl) (fun C τ ι av S Q Qr h hr hC hE => ?_)
  obtain ⟨D, lf, ch, rfl, hlf, hS, hO, hB, hL, h160, hQ⟩ := h
  show zR C τ ι _ 0 0 0 [(0, .ref 1), (1, .int (nI ch))] [] _
  refine zk_bipush hC dX0_tellChanged_0 (v := nI 15) (by decide +kernel) ?_
  refine zr_istore_n hC dX0_tellChanged_2 (by decide) ?_
  refine zR_sub [(0, .ref 1), (1, .int (nI ch)), (2, .int (nI (15 - 0)))] ⟨rfl, rfl, rfl, trivial⟩ ?_
  exact l0_tellChanged (S0 := S) hC hlf hS hO hB h160 (fun S1 lv h1 h2 => zr_vreturn hC hE dX0_tellChanged_40 (hr _ _ (hQ _ h1 h2))) 15 0 S (by omega) hL zfrm.rf
