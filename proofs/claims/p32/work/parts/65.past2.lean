/-! THE CONSTRUCTOR of what may be undone, as a contract -/
set_option maxHeartbeats 1000000 in
theorem tX3_init : zMetN yX3_init cX3_init 2 3 97 8538 (zIni 3 [.null, .int 0, .int 0] obX3_init LxX3_init) := by
  refine zMetN.of (by decide) (by decide +kernel) (by decide) (fun av w Qr h => by obtain ⟨b, rfl, -⟩ := h; exact Nat.le_of_ble_eq_true rfl) (fun C τ ι av w Qr h hC hE => ?_)
  obtain ⟨b, rfl, hb, hw, hQ⟩ := h
  have hB := zNB.start hb hw
  have hag : ∀ k, k < w.length → ι k = ι k := fun _ _ => rfl
  show zR C τ ι _ 0 0 0 [(0, .ref b)] [] w
  rw [← zN_0 hb]
  refine zr_aload_n hC dX3_init_0 rfl ?_
  refine zr_objI hC (by decide) dX3_init_1 ml_X3_3 oI_i oI_c ?_
  refine zr_aload_n hC dX3_init_4 rfl ?_
  refine zk_bipush hC dX3_init_5 (v := nI 6) (by decide +kernel) ?_
  refine zo_anewa hC hE dX3_init_7 (N := 6) (Or.inl ⟨rfl, rfl⟩) cl_X3_9 (by decide) (by decide +kernel) (by decide) (by decide) (by decide) hB hag (zl1 hB.1) (zs1 hB.1) (fun ι hag hB => ?_)
  refine zo_put hC hE dX3_init_10 fl_X3_11 fp_X3_0 (Or.inr ⟨_, rfl⟩) ⟨_, _, rfl⟩ (Nat.le_of_ble_eq_true rfl) (by simp) hB (fun hB => ?_)
  refine zk_iconst hC dX3_init_13 (v := nI 0) (by decide +kernel) ?_
  refine zr_istore_n hC dX3_init_14 (by decide) ?_
  refine zR_sub [(0, .ref b), (1, .int (nI 0))] ⟨rfl, rfl, trivial⟩ ?_
  have h := l3_init hC hE hQ 6 0 ι rfl hag
  rw [pf_0] at h
  exact h hB
theorem bks_good (m : Nat) : ∀ t, ∀ x ∈ bks m t, zeb (m + 16 * t) x
  | 0, x, hx => by cases hx
  | t + 1, x, hx => by
    rcases List.mem_append.mp hx with q | q
    · exact (bks_good m t x q).up (by omega)
    · obtain ⟨h1, h2⟩ := gX0_init (m + 16 * t + 1)
      have e : m + 16 * t + 1 + (LxX0_init (m + 16 * t + 1)).length = m + 16 * (t + 1) := by
        show m + 16 * t + 1 + 15 = _
        omega
      rw [e] at h1 h2
      rcases List.mem_cons.mp q with q | q
      · rw [q]; exact h1
      · exact h2 x q
theorem LxX3_len (N : Nat) : (LxX3_init N).length = 97 := by
  show (zqa 4 6 (pf N 6) :: bks (N + 1) 6).length = 97
  rw [List.length_cons, bks_len]
theorem gX3_init : zGood obX3_init LxX3_init := fun N => by
  rw [LxX3_len]
  refine ⟨zeb_o (fun v hv => by simp only [List.mem_cons, List.mem_nil_iff, or_false] at hv; rcases hv with rfl | rfl | rfl <;> simp [zvb]), fun x hx => ?_⟩
  rcases List.mem_cons.mp hx with q | q
  · rw [q]
    refine zeb_q (fun j y hj hf => ?_)
    unfold pf at hf
    rw [if_pos hj] at hf
    cases hf
    omega
  · exact (bks_good (N + 1) 6 x q).up (by omega)
theorem zcan {L M : List va_E} {x y : va_E} : (L ++ [x]).set L.length y ++ M = L ++ (y :: M) := by
  rw [List.set_append_right _ _ (Nat.le_refl _), Nat.sub_self, List.append_assoc]
  rfl
theorem zlast {L : List va_E} {x : va_E} : (L ++ [x])[L.length]? = some x := by simp
theorem zlt {L : List va_E} {x : va_E} : L.length < (L ++ [x]).length := by simp
