/-! THE CALLS OF THE MODEL: luck -/
theorem cnt_none {p : Nat → Bool} : ∀ N, (∀ i, i < N → p i = false) → fa_cnt p N = 0
  | 0, _ => rfl
  | N + 1, h => by rw [fa_cnt_no (h N (by omega))]; exact cnt_none N (fun i hi => h i (by omega))
theorem cnt_one {p : Nat → Bool} : ∀ N, (∀ i j, i < N → j < N → p i = true → p j = true → i = j) → fa_cnt p N ≤ 1
  | 0, _ => Nat.zero_le _
  | N + 1, h => by
    cases q : p N with
    | false => rw [fa_cnt_no q]; exact cnt_one N (fun i j hi hj => h i j (by omega) (by omega))
    | true =>
      rw [fa_cnt_yes q, cnt_none N (fun i hi => by
        cases r : p i with
        | false => rfl
        | true => exact absurd (h i N (by omega) (by omega) r q) (by omega))]
      exact Nat.le_refl 1
theorem cnt_split (p r : Nat → Bool) : ∀ N, fa_cnt p N = fa_cnt (fun i => p i && r i) N + fa_cnt (fun i => p i && !r i) N
  | 0 => rfl
  | N + 1 => by
    have ih := cnt_split p r N
    unfold fa_cnt
    rw [ih]
    cases p N <;> cases r N <;> simp <;> omega
/-- no more than there are places -/
theorem cnt_pig {g : Nat → Nat} : ∀ K {p : Nat → Bool} {N : Nat}, (∀ i, i < N → p i = true → g i < K) → (∀ i j, i < N → j < N → p i = true → p j = true → g i = g j → i = j) → fa_cnt p N ≤ K
  | 0, p, N, h, _ => Nat.le_of_eq (cnt_none N (fun i hi => by
      cases r : p i with
      | false => rfl
      | true => exact absurd (h i hi r) (Nat.not_lt_zero _)))
  | K + 1, p, N, h, hu => by
    rw [cnt_split p (fun i => g i == K) N]
    have h1 : fa_cnt (fun i => p i && g i == K) N ≤ 1 := cnt_one N (fun i j hi hj q1 q2 => by
      simp only [Bool.and_eq_true, beq_iff_eq] at q1 q2
      exact hu i j hi hj q1.1 q2.1 (q1.2.trans q2.2.symm))
    have h2 : fa_cnt (fun i => p i && !(g i == K)) N ≤ K := cnt_pig K (g := g) (fun i hi q => by
      simp only [Bool.and_eq_true, Bool.not_eq_true', beq_eq_false_iff_ne] at q
      have := h i hi q.1
      omega) (fun i j hi hj q1 q2 e => by
      simp only [Bool.and_eq_true] at q1 q2
      exact hu i j hi hj q1.1 q2.1 e)
    omega
def lvl (v : Nat) : Nat := if v < 4 then 0 else if v < 8 then 1 else if v < 16 then 2 else 3
theorem lvl_lt (v : Nat) : lvl v < 4 := by
  unfold lvl
  split
  · decide
  · split
    · decide
    · split <;> decide
theorem bn_lvl : ∀ l, l < 32 → ∀ v, v < 32 → (1 < v ∧ (l = 0 ∨ 16 ≤ l) ∧ bn l v = true) → v = l / 2 ^ (3 - lvl v) := by decide +kernel
theorem nlp_le {D : zD} (hI : INV D) {m : Nat} (hm : m < 16) : fa_cnt (nlp D m) (D 6 1) ≤ 4 := by
  refine cnt_pig (g := fun i => lvl (D 7 (D 11 i))) 4 (fun i _ _ => lvl_lt _) (fun i j hi hj q1 q2 e => ?_)
  simp only [nlp, Bool.and_eq_true, decide_eq_true_iff] at q1 q2
  have hl : D 0 m = 0 ∨ 16 ≤ D 0 m := (hI.leaf hm).imp id And.left
  have hl2 : D 0 m < 32 := by rcases hI.leaf hm with h | h <;> omega
  have b : ∀ i, i < D 6 1 → D 7 (D 11 i) < 32 := fun i hi => (hI.keys (hI.lets hi).2.1).2.1
  refine hI.uniq hi hj q1.1 q2.1 ?_
  have e1 := bn_lvl _ hl2 _ (b i hi) ⟨q1.2.1, hl, q1.2.2⟩
  have e2 := bn_lvl _ hl2 _ (b j hj) ⟨q2.2.1, hl, q2.2.2⟩
  have e3 : lvl (D 7 (D 11 i)) = lvl (D 7 (D 11 j)) := e
  rw [e3] at e1
  exact e1.trans e2.symm
theorem lk_0 : ∀ c, c < 11 → ∀ n, n < 5 → (10 - c) ^ n / Nat.gcd (10 ^ n) ((10 - c) ^ n) = lbase c 0 ^ n := by decide +kernel
theorem lk_1 : ∀ c, c < 11 → ∀ n, n < 5 → 10 ^ n / Nat.gcd (10 ^ n) ((10 - c) ^ n) = lbase c 1 ^ n := by decide +kernel
theorem lk_lt : ∀ c, c < 11 → ∀ n, n < 5 → (10 - c) ^ n < 2147483648 ∧ 10 ^ n < 2147483648 ∧ 0 < Nat.gcd (10 ^ n) ((10 - c) ^ n) ∧ Nat.gcd (10 ^ n) ((10 - c) ^ n) < 2147483648 := by decide +kernel
theorem z_pred_eq {a b : Nat} (ha : a < 2147483648) (hb : b < 2147483648) : nI a - nI 1 = nI b - nI 1 ↔ a = b := by
  constructor
  · intro e
    have h := congrArg Int32.toInt e
    rw [z_pred ha, z_pred hb] at h
    omega
  · intro e; rw [e]
set_option maxHeartbeats 4000000 in
set_option maxRecDepth 100000 in
theorem l9_luck {C : zCx} {τ : Nat → ClassId} {ι : Nat → Nat} (hC : zOK C τ (zrm 2 0 0) yX9_luck.cls cX9_luck 9) {S : zS} {D : zD} {m c w : Nat} (hM : MW (S.1 246) D) (hI : INV D) (hm : m < 16) (hc : c < 11) (k : ∀ lv, zlk 3 lv = some (.int (nI w)) → zlk 4 lv = some (.int (nI ((10 - c) ^ fa_cnt (nlp D m) (D 6 1)))) → zlk 5 lv = some (.int (nI (10 ^ fa_cnt (nlp D m) (D 6 1)))) → zR C τ ι 9 0 0 133 lv [] (zcells S)) : ∀ (d i : Nat), i + d = D 6 1 → zR C τ ι 9 0 0 51 [(0, .ref 245), (1, .int (nI m)), (2, .int (nI c)), (3, .int (nI w)), (4, .int (nI ((10 - c) ^ fa_cnt (nlp D m) i))), (5, .int (nI (10 ^ fa_cnt (nlp D m) i))), (6, .int (nI i))] [] (zcells S) := by
  intro d
  induction d with
  | zero =>
    intro i hi
    refine zr_iload hC dX9_luck_51 rfl ?_
    refine zr_aload_n hC dX9_luck_53 rfl ?_
    refine zs_getr hC dX9_luck_54 fl_X9_7 (a := 245) (r := 246) rfl (by decide) ?_
    refine zk_iconst hC dX9_luck_57 (v := nI 1) (by decide +kernel) ?_
    refine zv_iald hC dX9_luck_58 (a := 246) (n := 752) rfl (by decide) (by decide) (j := 1) rfl (by decide) (hM.1.1.2.1) ?_
    refine zr_icmp_ge hC dX9_luck_59 (tgt := 133) (by decide) (fun c_59 => ?_) (fun c => absurd c (not_not_intro (nI_le (by omega) (by have := hM.writ; omega))))
    obtain rfl : i = D 6 1 := (by omega)
    exact k _ rfl rfl rfl
  | succ d ih =>
    intro i hi
    refine zr_iload hC dX9_luck_51 rfl ?_
    refine zr_aload_n hC dX9_luck_53 rfl ?_
    refine zs_getr hC dX9_luck_54 fl_X9_7 (a := 245) (r := 246) rfl (by decide) ?_
    refine zk_iconst hC dX9_luck_57 (v := nI 1) (by decide +kernel) ?_
    refine zv_iald hC dX9_luck_58 (a := 246) (n := 752) rfl (by decide) (by decide) (j := 1) rfl (by decide) (hM.1.1.2.1) ?_
    refine zr_icmp_ge hC dX9_luck_59 (tgt := 133) (by decide) (fun c => absurd c (nI_ge (by omega) (by have := hM.writ; omega))) (fun c_59 => ?_)
    have hi1 : i < D 6 1 := by omega
    have hu := (hI.lets hi1).2.1
    have hv := (hI.keys hu).2.1
    have h12 := (hI.lets hi1).2.2
    have h62 := hI.batches
    refine zr_aload_n hC dX9_luck_62 rfl ?_
    refine zr_aload_n hC dX9_luck_63 rfl ?_
    refine zr_iload hC dX9_luck_64 rfl ?_
    refine zs_callV hC (b := 245) [_] [_] dX9_luck_66 ml_X9_114 mtX9_underOf tX9_underOf (by decide) (by decide) (by decide) rfl rfl (by decide) (by decide +kernel) (Nat.le_of_ble_eq_true rfl) rfl ?_
    refine ⟨i, D, rfl, hi1, hM, ?_⟩
    dsimp only [Option.toList, List.cons_append, List.nil_append]
    refine zs_callV hC (b := 245) [_] [] dX9_luck_69 ml_X9_80 mtX9_nodeOf tX9_nodeOf (by decide) (by decide) (by decide) rfl rfl (by decide) (by decide +kernel) (Nat.le_of_ble_eq_true rfl) rfl ?_
    refine ⟨_, D, rfl, hu, hM, ?_⟩
    dsimp only [Option.toList, List.cons_append, List.nil_append]
    refine zr_istore hC dX9_luck_72 (by decide) ?_
    refine zr_aload_n hC dX9_luck_74 rfl ?_
    refine zr_iload hC dX9_luck_75 rfl ?_
    refine zs_callV hC (b := 245) [_] [] dX9_luck_77 ml_X9_187 mtX9_batchOfLetter tX9_batchOfLetter (by decide) (by decide) (by decide) rfl rfl (by decide) (by decide +kernel) (Nat.le_of_ble_eq_true rfl) rfl ?_
    refine ⟨i, D, rfl, hi1, hM, ?_⟩
    dsimp only [Option.toList, List.cons_append, List.nil_append]
    refine zr_aload_n hC dX9_luck_80 rfl ?_
    refine zs_getr hC dX9_luck_81 fl_X9_7 (a := 245) (r := 246) rfl (by decide) ?_
    refine zk_iconst hC dX9_luck_84 (v := nI 2) (by decide +kernel) ?_
    refine zv_iald hC dX9_luck_85 (a := 246) (n := 752) rfl (by decide) (by decide) (j := 2) rfl (by decide) (hM.1.1.2.2.1) ?_
    refine zk_iconst hC dX9_luck_86 (v := nI 1) (by decide +kernel) ?_
    refine zr_isub hC dX9_luck_87 ?_
    refine zr_icmp_ne hC dX9_luck_88 (tgt := 127) (by decide) (fun c_88 => ?_) (fun c_88 => ?_)
    · rw [z_pred_eq (by omega) (by omega)] at c_88
      have hp : nlp D m i = false := by simp [nlp, c_88]
      refine zn_iinc hC dX9_luck_127 rfl (by decide) (zk_inc _ 1) ?_
      refine zr_goto hC dX9_luck_130 (tgt := 51) (by decide) ?_
      first
        | exact zR_sub [(0, .ref 245), (1, .int (nI m)), (2, .int (nI c)), (3, .int (nI w)), (4, .int (nI ((10 - c) ^ fa_cnt (nlp D m) (i + 1)))), (5, .int (nI (10 ^ fa_cnt (nlp D m) (i + 1)))), (6, .int (nI (i + 1)))] ⟨rfl, rfl, rfl, rfl, zlk_eq rfl (by rw [fa_cnt_no hp]), zlk_eq rfl (by rw [fa_cnt_no hp]), rfl, trivial⟩ (ih (i + 1) (by omega))
        | exact zR_sub [(0, .ref 245), (1, .int (nI m)), (2, .int (nI c)), (3, .int (nI w)), (4, .int (nI ((10 - c) ^ fa_cnt (nlp D m) (i + 1)))), (5, .int (nI (10 ^ fa_cnt (nlp D m) (i + 1)))), (6, .int (nI (i + 1)))] ⟨rfl, rfl, rfl, rfl, zlk_eq rfl (by rw [fa_cnt_yes hp, Nat.pow_succ]), zlk_eq rfl (by rw [fa_cnt_yes hp, Nat.pow_succ]), rfl, trivial⟩ (ih (i + 1) (by omega))
    · rw [z_pred_eq (by omega) (by omega)] at c_88
      refine zr_iload hC dX9_luck_91 rfl ?_
      refine zk_iconst hC dX9_luck_93 (v := nI 1) (by decide +kernel) ?_
      refine zr_icmp_le hC dX9_luck_94 (tgt := 127) (by decide) (fun c_94 => ?_) (fun c_94 => ?_)
      · rw [nI_leI (by omega) (by decide)] at c_94
        have hp : nlp D m i = false := by
          have h2 : ¬ 1 < D 7 (D 11 i) := by omega
          simp [nlp, h2]
        refine zn_iinc hC dX9_luck_127 rfl (by decide) (zk_inc _ 1) ?_
        refine zr_goto hC dX9_luck_130 (tgt := 51) (by decide) ?_
        first
          | exact zR_sub [(0, .ref 245), (1, .int (nI m)), (2, .int (nI c)), (3, .int (nI w)), (4, .int (nI ((10 - c) ^ fa_cnt (nlp D m) (i + 1)))), (5, .int (nI (10 ^ fa_cnt (nlp D m) (i + 1)))), (6, .int (nI (i + 1)))] ⟨rfl, rfl, rfl, rfl, zlk_eq rfl (by rw [fa_cnt_no hp]), zlk_eq rfl (by rw [fa_cnt_no hp]), rfl, trivial⟩ (ih (i + 1) (by omega))
          | exact zR_sub [(0, .ref 245), (1, .int (nI m)), (2, .int (nI c)), (3, .int (nI w)), (4, .int (nI ((10 - c) ^ fa_cnt (nlp D m) (i + 1)))), (5, .int (nI (10 ^ fa_cnt (nlp D m) (i + 1)))), (6, .int (nI (i + 1)))] ⟨rfl, rfl, rfl, rfl, zlk_eq rfl (by rw [fa_cnt_yes hp, Nat.pow_succ]), zlk_eq rfl (by rw [fa_cnt_yes hp, Nat.pow_succ]), rfl, trivial⟩ (ih (i + 1) (by omega))
      · rw [z_nle (by omega) (by decide)] at c_94
        refine zr_aload_n hC dX9_luck_97 rfl ?_
        refine zr_iload_n hC dX9_luck_98 rfl ?_
        refine zk_iconst hC dX9_luck_99 (v := nI 0) (by decide +kernel) ?_
        refine zs_callV hC (b := 245) [_, _] [] dX9_luck_100 ml_X9_64 mtX9_of tX9_of (by decide) (by decide) (by decide) rfl rfl (by decide) (by decide +kernel) (Nat.le_of_ble_eq_true rfl) rfl ?_
        refine ⟨m, 0, rfl, hm, by decide, ?_⟩
        rw [show S.1 246 (4 + 6 * m + 0) = nI (D 0 m) from MW.mem hM hm (by decide)]
        dsimp only [Option.toList, List.cons_append, List.nil_append]
        refine zr_iload hC dX9_luck_103 rfl ?_
        refine zs_callS hC [_, _] [] dX9_luck_105 ml_X9_77 mtX9_isBeneath tX9_isBeneath (by decide) (by decide) (by decide) rfl (Nat.le_of_ble_eq_true rfl) rfl ?_
        refine ⟨_, _, rfl, hM.lt0 hm, by omega, fun r e => ?_⟩
        rcases e with ⟨rfl, hx⟩ | ⟨rfl, hx⟩
        · have hp : nlp D m i = true := by simp [nlp, c_88, c_94, hx]
          dsimp only [Option.toList, List.cons_append, List.nil_append]
          refine zr_if_eq hC dX9_luck_108 (tgt := 127) (by decide) (fun c => absurd c (by decide +kernel)) (fun c_108 => ?_)
          refine zr_iload hC dX9_luck_111 rfl ?_
          refine zk_bipush hC dX9_luck_113 (v := nI 10) (by decide +kernel) ?_
          refine zr_iload_n hC dX9_luck_115 rfl ?_
          refine zn_isub hC dX9_luck_116 (pk_sub (by omega)) ?_
          refine zn_imul hC dX9_luck_117 (pk_mul _ _) ?_
          refine zr_istore hC dX9_luck_118 (by decide) ?_
          refine zr_iload hC dX9_luck_120 rfl ?_
          refine zk_bipush hC dX9_luck_122 (v := nI 10) (by decide +kernel) ?_
          refine zn_imul hC dX9_luck_124 (pk_mul _ _) ?_
          refine zr_istore hC dX9_luck_125 (by decide) ?_
          refine zn_iinc hC dX9_luck_127 rfl (by decide) (zk_inc _ 1) ?_
          refine zr_goto hC dX9_luck_130 (tgt := 51) (by decide) ?_
          first
            | exact zR_sub [(0, .ref 245), (1, .int (nI m)), (2, .int (nI c)), (3, .int (nI w)), (4, .int (nI ((10 - c) ^ fa_cnt (nlp D m) (i + 1)))), (5, .int (nI (10 ^ fa_cnt (nlp D m) (i + 1)))), (6, .int (nI (i + 1)))] ⟨rfl, rfl, rfl, rfl, zlk_eq rfl (by rw [fa_cnt_no hp]), zlk_eq rfl (by rw [fa_cnt_no hp]), rfl, trivial⟩ (ih (i + 1) (by omega))
            | exact zR_sub [(0, .ref 245), (1, .int (nI m)), (2, .int (nI c)), (3, .int (nI w)), (4, .int (nI ((10 - c) ^ fa_cnt (nlp D m) (i + 1)))), (5, .int (nI (10 ^ fa_cnt (nlp D m) (i + 1)))), (6, .int (nI (i + 1)))] ⟨rfl, rfl, rfl, rfl, zlk_eq rfl (by rw [fa_cnt_yes hp, Nat.pow_succ]), zlk_eq rfl (by rw [fa_cnt_yes hp, Nat.pow_succ]), rfl, trivial⟩ (ih (i + 1) (by omega))
        · have hp : nlp D m i = false := by simp [nlp, hx]
          dsimp only [Option.toList, List.cons_append, List.nil_append]
          refine zr_if_eq hC dX9_luck_108 (tgt := 127) (by decide) (fun c_108 => ?_) (fun c => absurd c (by decide +kernel))
          refine zn_iinc hC dX9_luck_127 rfl (by decide) (zk_inc _ 1) ?_
          refine zr_goto hC dX9_luck_130 (tgt := 51) (by decide) ?_
          first
            | exact zR_sub [(0, .ref 245), (1, .int (nI m)), (2, .int (nI c)), (3, .int (nI w)), (4, .int (nI ((10 - c) ^ fa_cnt (nlp D m) (i + 1)))), (5, .int (nI (10 ^ fa_cnt (nlp D m) (i + 1)))), (6, .int (nI (i + 1)))] ⟨rfl, rfl, rfl, rfl, zlk_eq rfl (by rw [fa_cnt_no hp]), zlk_eq rfl (by rw [fa_cnt_no hp]), rfl, trivial⟩ (ih (i + 1) (by omega))
            | exact zR_sub [(0, .ref 245), (1, .int (nI m)), (2, .int (nI c)), (3, .int (nI w)), (4, .int (nI ((10 - c) ^ fa_cnt (nlp D m) (i + 1)))), (5, .int (nI (10 ^ fa_cnt (nlp D m) (i + 1)))), (6, .int (nI (i + 1)))] ⟨rfl, rfl, rfl, rfl, zlk_eq rfl (by rw [fa_cnt_yes hp, Nat.pow_succ]), zlk_eq rfl (by rw [fa_cnt_yes hp, Nat.pow_succ]), rfl, trivial⟩ (ih (i + 1) (by omega))
set_option maxHeartbeats 4000000 in
set_option maxRecDepth 100000 in
theorem l9_gcd {C : zCx} {τ : Nat → ClassId} {ι : Nat → Nat} (hC : zOK C τ (zrm 2 0 0) yX9_luck.cls cX9_luck 9) {S : zS} {w x y g : Nat} (k : ∀ lv, zlk 3 lv = some (.int (nI w)) → zlk 4 lv = some (.int (nI x)) → zlk 5 lv = some (.int (nI y)) → zlk 6 lv = some (.int (nI g)) → zR C τ ι 9 0 0 164 lv [] (zcells S)) : ∀ (d a b : Nat), b ≤ d → a < 2147483648 → b < 2147483648 → Nat.gcd b a = g → zR C τ ι 9 0 0 141 [(3, .int (nI w)), (4, .int (nI x)), (5, .int (nI y)), (6, .int (nI (a))), (7, .int (nI (b)))] [] (zcells S) := by
  intro d
  induction d with
  | zero =>
    intro a b hb ha hb2 hg
    obtain rfl : b = 0 := (by omega)
    refine zr_iload hC dX9_luck_141 rfl ?_
    refine zr_if_eq hC dX9_luck_143 (tgt := 164) (by decide) (fun c_143 => ?_) (fun c => absurd c (not_not_intro rfl))
    exact k _ rfl rfl rfl (zlk_eq rfl ((Nat.gcd_zero_left a).symm.trans hg))
  | succ d ih =>
    intro a b hb ha hb2 hg
    refine zr_iload hC dX9_luck_141 rfl ?_
    refine zr_if_eq hC dX9_luck_143 (tgt := 164) (by decide) (fun c_143 => ?_) (fun c_143 => ?_)
    · rw [z_ne0 hb2] at c_143
      subst c_143
      exact k _ rfl rfl rfl (zlk_eq rfl ((Nat.gcd_zero_left a).symm.trans hg))
    · have hb0 : 0 < b := by have h2 : b ≠ 0 := fun q => c_143 (by rw [q]; rfl); omega
      refine zr_iload hC dX9_luck_146 rfl ?_
      refine zr_iload hC dX9_luck_148 rfl ?_
      refine zn_irem hC dX9_luck_150 (by exact c_143) (z_rem ha hb0 hb2) ?_
      refine zr_istore hC dX9_luck_151 (by decide) ?_
      refine zr_iload hC dX9_luck_153 rfl ?_
      refine zr_istore hC dX9_luck_155 (by decide) ?_
      refine zr_iload hC dX9_luck_157 rfl ?_
      refine zr_istore hC dX9_luck_159 (by decide) ?_
      refine zr_goto hC dX9_luck_161 (tgt := 141) (by decide) ?_
      exact zR_sub [(3, .int (nI w)), (4, .int (nI x)), (5, .int (nI y)), (6, .int (nI (b))), (7, .int (nI (a % b)))] ⟨rfl, rfl, rfl, rfl, rfl, trivial⟩ (ih b (a % b) (by have := Nat.mod_lt a hb0; omega) hb2 (Nat.lt_trans (Nat.mod_lt a hb0) hb2) (by rw [← Nat.gcd_rec]; exact hg))
def spX9_luck : zSp := fun av S Q => ∃ (G : zG) (x : Int32) (c : Int32) (w : Int32), av = [.ref 245, .int x, .int c, .int w] ∧ MG S G ∧ GI G ∧ ∀ S', MG S' G → zfm S S' → Q (some (.int (fLuck x c w G))) S'
set_option maxHeartbeats 4000000 in
set_option maxRecDepth 100000 in
theorem tX9_luck : zM yX9_luck cX9_luck 9 (some .int) 2 spX9_luck := by
  refine zM.of (by decide) (by decide) (fun av S Q h => by obtain ⟨G, x, c, w, rfl, hMG, hGI, hQ⟩ := h; exact Nat.le_of_ble_eq_true rfl) (fun C τ ι av S Q Qr h hr hC hE => ?_)
  obtain ⟨G, x, c, w, rfl, hMG, hGI, hQ⟩ := h
  show zR C τ ι _ 0 0 0 [(0, .ref 245), (1, .int x), (2, .int c), (3, .int w)] [] _
  refine zr_iload_n hC dX9_luck_0 rfl ?_
  refine zs_callS hC [_] [] dX9_luck_1 ml_X9_98 mtX9_isMember tX9_isMember (by decide) (by decide) (by decide) rfl (Nat.le_of_ble_eq_true rfl) rfl ?_
  refine ⟨x, rfl, fun r e => ?_⟩
  rcases e with ⟨rfl, m, hm, rfl⟩ | ⟨rfl, hx⟩
  · dsimp only [Option.toList, List.cons_append, List.nil_append]
    refine zr_if_eq hC dX9_luck_4 (tgt := 29) (by decide) (fun c => absurd c (by decide +kernel)) (fun c_4 => ?_)
    refine zr_iload_n hC dX9_luck_7 rfl ?_
    refine zr_i2l hC dX9_luck_8 ?_
    refine zr_lconst hC dX9_luck_9 ?_
    refine zr_ldc2 hC dX9_luck_10 kl_X9_198 ?_
    refine zs_callS hC [_, _, _] [] dX9_luck_13 ml_X9_60 mtX9_in tX9_in (by decide) (by decide) (by decide) rfl (Nat.le_of_ble_eq_true rfl) rfl ?_
    refine ⟨_, _, _, rfl, fun r e => ?_⟩
    obtain ⟨w1, w2⟩ := z_one (x := c) (lo := nI 0) (hi := nI 10) rfl (show Int64.ofNat 0 = _ by decide +kernel) (show (10 : Int64) = _ by decide +kernel)
    have e : (r = nI 1 ∧ ¬ c < nI 0 ∧ ¬ nI 10 < c) ∨ (r = nI 0 ∧ (c < nI 0 ∨ nI 10 < c)) := by
      rcases e with ⟨e, e1, e2⟩ | ⟨e, e1⟩
      · exact Or.inl ⟨e, fun q => e1 (w1.mpr q), fun q => e2 (w2.mpr q)⟩
      · exact Or.inr ⟨e, e1.imp w1.mp w2.mp⟩
    rcases e with ⟨rfl, e1, e2⟩ | ⟨rfl, e1⟩
    · obtain ⟨c, -, hc10, rfl⟩ := rg_in e1 e2 (by decide) (by decide)
      have hc11 : c < 11 := by omega
      dsimp only [Option.toList, List.cons_append, List.nil_append]
      refine zr_if_eq hC dX9_luck_16 (tgt := 29) (by decide) (fun c => absurd c (by decide +kernel)) (fun c_16 => ?_)
      refine zr_iload_n hC dX9_luck_19 rfl ?_
      refine zr_i2l hC dX9_luck_20 ?_
      refine zr_lconst hC dX9_luck_21 ?_
      refine zr_lconst hC dX9_luck_22 ?_
      refine zs_callS hC [_, _, _] [] dX9_luck_23 ml_X9_60 mtX9_in tX9_in (by decide) (by decide) (by decide) rfl (Nat.le_of_ble_eq_true rfl) rfl ?_
      refine ⟨_, _, _, rfl, fun r e => ?_⟩
      obtain ⟨w1, w2⟩ := z_one (x := w) (lo := nI 0) (hi := nI 1) rfl (show Int64.ofNat 0 = _ by decide +kernel) (show Int64.ofNat 1 = _ by decide +kernel)
      have e : (r = nI 1 ∧ ¬ w < nI 0 ∧ ¬ nI 1 < w) ∨ (r = nI 0 ∧ (w < nI 0 ∨ nI 1 < w)) := by
        rcases e with ⟨e, e1, e2⟩ | ⟨e, e1⟩
        · exact Or.inl ⟨e, fun q => e1 (w1.mpr q), fun q => e2 (w2.mpr q)⟩
        · exact Or.inr ⟨e, e1.imp w1.mp w2.mp⟩
      rcases e with ⟨rfl, e1, e2⟩ | ⟨rfl, e1⟩
      · have hw : w = nI 0 ∨ w = nI 1 := by obtain ⟨j, j1, j2, j3⟩ := rg_in e1 e2 (by decide) (by decide); rcases (by omega : j = 0 ∨ j = 1) with rfl | rfl; exact Or.inl j3; exact Or.inr j3
        dsimp only [Option.toList, List.cons_append, List.nil_append]
        refine zr_if_ne hC dX9_luck_26 (tgt := 31) (by decide) (fun c_26 => ?_) (fun c => absurd c (by decide +kernel))
        rcases hw with rfl | rfl
        · simp only [fLuck, mm_yes hm (show 16 < 2147483648 by decide), mm_yes hc11 (show 11 < 2147483648 by decide), mm_yes (show 0 < 2 by decide) (show 2 < 2147483648 by decide)] at hQ
          refine zr_aload_n hC dX9_luck_31 rfl ?_
          refine zr_iload_n hC dX9_luck_32 rfl ?_
          refine zs_callV hC (b := 245) [_] [] dX9_luck_33 ml_X9_68 mtX9_sits tX9_sits (by decide) (by decide) (by decide) rfl rfl (by decide) (by decide +kernel) (Nat.le_of_ble_eq_true rfl) rfl ?_
          refine ⟨m, G.1, rfl, hm, hMG.1, fun r e => ?_⟩
          rcases e with ⟨rfl, hx⟩ | ⟨rfl, hx⟩
          · rw [if_pos hx] at hQ
            dsimp only [Option.toList, List.cons_append, List.nil_append]
            refine zr_if_ne hC dX9_luck_36 (tgt := 42) (by decide) (fun c_36 => ?_) (fun c => absurd c (by decide +kernel))
            refine zk_iconst hC dX9_luck_42 (v := nI 1) (by decide +kernel) ?_
            refine zr_istore hC dX9_luck_43 (by decide) ?_
            refine zk_iconst hC dX9_luck_45 (v := nI 1) (by decide +kernel) ?_
            refine zr_istore hC dX9_luck_46 (by decide) ?_
            refine zk_iconst hC dX9_luck_48 (v := nI 0) (by decide +kernel) ?_
            refine zr_istore hC dX9_luck_49 (by decide) ?_
            have hn5 : fa_cnt (nlp G.1 m) (G.1 6 1) < 5 := Nat.lt_succ_of_le (nlp_le hGI.1 hm)
            obtain ⟨l1, l2, l3, l4⟩ := lk_lt c hc11 _ hn5
            refine zR_sub [(0, .ref 245), (1, .int (nI m)), (2, .int (nI c)), (3, .int (nI 0)), (4, .int (nI ((10 - c) ^ fa_cnt (nlp G.1 m) 0))), (5, .int (nI (10 ^ fa_cnt (nlp G.1 m) 0))), (6, .int (nI 0))] ⟨rfl, rfl, rfl, rfl, rfl, rfl, rfl, trivial⟩ (l9_luck (w := 0) hC hMG.1 hGI.1 hm hc11 (fun lv h3 h4 h5 => ?_) (G.1 6 1) 0 (by omega))
            refine zR_sub [(3, .int (nI 0)), (4, .int (nI ((10 - c) ^ fa_cnt (nlp G.1 m) (G.1 6 1)))), (5, .int (nI (10 ^ fa_cnt (nlp G.1 m) (G.1 6 1))))] ⟨h3, h4, h5, trivial⟩ ?_
            refine zr_iload hC dX9_luck_133 rfl ?_
            refine zr_istore hC dX9_luck_135 (by decide) ?_
            refine zr_iload hC dX9_luck_137 rfl ?_
            refine zr_istore hC dX9_luck_139 (by decide) ?_
            refine zR_sub [(3, .int (nI 0)), (4, .int (nI ((10 - c) ^ fa_cnt (nlp G.1 m) (G.1 6 1)))), (5, .int (nI (10 ^ fa_cnt (nlp G.1 m) (G.1 6 1)))), (6, .int (nI ((10 - c) ^ fa_cnt (nlp G.1 m) (G.1 6 1)))), (7, .int (nI (10 ^ fa_cnt (nlp G.1 m) (G.1 6 1))))] ⟨rfl, rfl, rfl, rfl, rfl, trivial⟩ (l9_gcd hC (fun lv g3 g4 g5 g6 => ?_) _ _ _ (Nat.le_refl _) l1 l2 rfl)
            refine zR_sub [(3, .int (nI 0)), (4, .int (nI ((10 - c) ^ fa_cnt (nlp G.1 m) (G.1 6 1)))), (5, .int (nI (10 ^ fa_cnt (nlp G.1 m) (G.1 6 1)))), (6, .int (nI (Nat.gcd (10 ^ fa_cnt (nlp G.1 m) (G.1 6 1)) ((10 - c) ^ fa_cnt (nlp G.1 m) (G.1 6 1)))))] ⟨g3, g4, g5, g6, trivial⟩ ?_
            rw [← lk_0 c hc11 _ hn5] at hQ
            refine zr_iload_n hC dX9_luck_164 rfl ?_
            refine zr_if_ne hC dX9_luck_165 (tgt := 173) (by decide) (fun c => absurd c (by decide +kernel)) (fun c_165 => ?_)
            refine zr_iload hC dX9_luck_168 rfl ?_
            refine zr_goto hC dX9_luck_170 (tgt := 175) (by decide) ?_
            refine zr_iload hC dX9_luck_175 rfl ?_
            refine zn_idiv hC dX9_luck_177 (by exact nI_ne0 l3 l4) (pk_div l1 l3 l4) ?_
            exact zr_ireturn hC hE dX9_luck_178 (hr _ _ (hQ _ hMG zfm.rf))
          · rw [if_neg (not_not_intro hx)] at hQ
            dsimp only [Option.toList, List.cons_append, List.nil_append]
            refine zr_if_ne hC dX9_luck_36 (tgt := 42) (by decide) (fun c => absurd c (by decide +kernel)) (fun c_36 => ?_)
            refine zk_bipush hC dX9_luck_39 (v := (-2)) (by decide +kernel) ?_
            exact zr_ireturn hC hE dX9_luck_41 (hr _ _ (hQ _ hMG zfm.rf))
        · simp only [fLuck, mm_yes hm (show 16 < 2147483648 by decide), mm_yes hc11 (show 11 < 2147483648 by decide), mm_yes (show 1 < 2 by decide) (show 2 < 2147483648 by decide)] at hQ
          refine zr_aload_n hC dX9_luck_31 rfl ?_
          refine zr_iload_n hC dX9_luck_32 rfl ?_
          refine zs_callV hC (b := 245) [_] [] dX9_luck_33 ml_X9_68 mtX9_sits tX9_sits (by decide) (by decide) (by decide) rfl rfl (by decide) (by decide +kernel) (Nat.le_of_ble_eq_true rfl) rfl ?_
          refine ⟨m, G.1, rfl, hm, hMG.1, fun r e => ?_⟩
          rcases e with ⟨rfl, hx⟩ | ⟨rfl, hx⟩
          · rw [if_pos hx] at hQ
            dsimp only [Option.toList, List.cons_append, List.nil_append]
            refine zr_if_ne hC dX9_luck_36 (tgt := 42) (by decide) (fun c_36 => ?_) (fun c => absurd c (by decide +kernel))
            refine zk_iconst hC dX9_luck_42 (v := nI 1) (by decide +kernel) ?_
            refine zr_istore hC dX9_luck_43 (by decide) ?_
            refine zk_iconst hC dX9_luck_45 (v := nI 1) (by decide +kernel) ?_
            refine zr_istore hC dX9_luck_46 (by decide) ?_
            refine zk_iconst hC dX9_luck_48 (v := nI 0) (by decide +kernel) ?_
            refine zr_istore hC dX9_luck_49 (by decide) ?_
            have hn5 : fa_cnt (nlp G.1 m) (G.1 6 1) < 5 := Nat.lt_succ_of_le (nlp_le hGI.1 hm)
            obtain ⟨l1, l2, l3, l4⟩ := lk_lt c hc11 _ hn5
            refine zR_sub [(0, .ref 245), (1, .int (nI m)), (2, .int (nI c)), (3, .int (nI 1)), (4, .int (nI ((10 - c) ^ fa_cnt (nlp G.1 m) 0))), (5, .int (nI (10 ^ fa_cnt (nlp G.1 m) 0))), (6, .int (nI 0))] ⟨rfl, rfl, rfl, rfl, rfl, rfl, rfl, trivial⟩ (l9_luck (w := 1) hC hMG.1 hGI.1 hm hc11 (fun lv h3 h4 h5 => ?_) (G.1 6 1) 0 (by omega))
            refine zR_sub [(3, .int (nI 1)), (4, .int (nI ((10 - c) ^ fa_cnt (nlp G.1 m) (G.1 6 1)))), (5, .int (nI (10 ^ fa_cnt (nlp G.1 m) (G.1 6 1))))] ⟨h3, h4, h5, trivial⟩ ?_
            refine zr_iload hC dX9_luck_133 rfl ?_
            refine zr_istore hC dX9_luck_135 (by decide) ?_
            refine zr_iload hC dX9_luck_137 rfl ?_
            refine zr_istore hC dX9_luck_139 (by decide) ?_
            refine zR_sub [(3, .int (nI 1)), (4, .int (nI ((10 - c) ^ fa_cnt (nlp G.1 m) (G.1 6 1)))), (5, .int (nI (10 ^ fa_cnt (nlp G.1 m) (G.1 6 1)))), (6, .int (nI ((10 - c) ^ fa_cnt (nlp G.1 m) (G.1 6 1)))), (7, .int (nI (10 ^ fa_cnt (nlp G.1 m) (G.1 6 1))))] ⟨rfl, rfl, rfl, rfl, rfl, trivial⟩ (l9_gcd hC (fun lv g3 g4 g5 g6 => ?_) _ _ _ (Nat.le_refl _) l1 l2 rfl)
            refine zR_sub [(3, .int (nI 1)), (4, .int (nI ((10 - c) ^ fa_cnt (nlp G.1 m) (G.1 6 1)))), (5, .int (nI (10 ^ fa_cnt (nlp G.1 m) (G.1 6 1)))), (6, .int (nI (Nat.gcd (10 ^ fa_cnt (nlp G.1 m) (G.1 6 1)) ((10 - c) ^ fa_cnt (nlp G.1 m) (G.1 6 1)))))] ⟨g3, g4, g5, g6, trivial⟩ ?_
            rw [← lk_1 c hc11 _ hn5] at hQ
            refine zr_iload_n hC dX9_luck_164 rfl ?_
            refine zr_if_ne hC dX9_luck_165 (tgt := 173) (by decide) (fun c_165 => ?_) (fun c => absurd c (by decide +kernel))
            refine zr_iload hC dX9_luck_173 rfl ?_
            refine zr_iload hC dX9_luck_175 rfl ?_
            refine zn_idiv hC dX9_luck_177 (by exact nI_ne0 l3 l4) (pk_div l2 l3 l4) ?_
            exact zr_ireturn hC hE dX9_luck_178 (hr _ _ (hQ _ hMG zfm.rf))
          · rw [if_neg (not_not_intro hx)] at hQ
            dsimp only [Option.toList, List.cons_append, List.nil_append]
            refine zr_if_ne hC dX9_luck_36 (tgt := 42) (by decide) (fun c => absurd c (by decide +kernel)) (fun c_36 => ?_)
            refine zk_bipush hC dX9_luck_39 (v := (-2)) (by decide +kernel) ?_
            exact zr_ireturn hC hE dX9_luck_41 (hr _ _ (hQ _ hMG zfm.rf))
      · simp only [fLuck, mm_yes hm (show 16 < 2147483648 by decide), mm_yes hc11 (show 11 < 2147483648 by decide), mm_no (e1.imp id z_1lt)] at hQ
        dsimp only [Option.toList, List.cons_append, List.nil_append]
        refine zr_if_ne hC dX9_luck_26 (tgt := 31) (by decide) (fun c => absurd c (by decide +kernel)) (fun c_26 => ?_)
        refine zk_iconst hC dX9_luck_29 (v := (-1)) (by decide +kernel) ?_
        exact zr_ireturn hC hE dX9_luck_30 (hr _ _ (hQ _ hMG zfm.rf))
    · simp only [fLuck, mm_yes hm (show 16 < 2147483648 by decide), mm_no (e1.imp id z_11)] at hQ
      dsimp only [Option.toList, List.cons_append, List.nil_append]
      refine zr_if_eq hC dX9_luck_16 (tgt := 29) (by decide) (fun c_16 => ?_) (fun c => absurd c (by decide +kernel))
      refine zk_iconst hC dX9_luck_29 (v := (-1)) (by decide +kernel) ?_
      exact zr_ireturn hC hE dX9_luck_30 (hr _ _ (hQ _ hMG zfm.rf))
  · simp only [fLuck, mm_no hx] at hQ
    dsimp only [Option.toList, List.cons_append, List.nil_append]
    refine zr_if_eq hC dX9_luck_4 (tgt := 29) (by decide) (fun c_4 => ?_) (fun c => absurd c (by decide +kernel))
    refine zk_iconst hC dX9_luck_29 (v := (-1)) (by decide +kernel) ?_
    exact zr_ireturn hC hE dX9_luck_30 (hr _ _ (hQ _ hMG zfm.rf))
