/-- the tables' words that stay true wherever a call leads -/
def zT : List Cond := lw_tbl.filter goodWord
theorem zT_tb {w : Cond} {i : Nat} (h : tables_1[i]? = some w) (g : goodWord w = true) : w ∈ zT := List.mem_filter.mpr ⟨List.mem_append_right _ (List.mem_of_getElem? h), g⟩
theorem zT_pr {w : Cond} {i : Nat} (h : (k2_sels lw_privs)[i]? = some w) (g : goodWord w = true) : w ∈ zT := List.mem_filter.mpr ⟨List.mem_append_left _ (List.mem_of_getElem? h), g⟩
theorem zT_good : ∀ w ∈ zT, (w.onTables && w.keeps) = true ∨ ∃ ty, w = .arrayClass ty := fun w h => good_of_word (List.mem_filter.mp h).2
theorem zT_lw {args : Array Value} {s : State} (h : ∀ w ∈ lw_tbl, w.before args s = true) : ∀ w ∈ zT, w.before args s = true := fun w hw => h w (List.mem_filter.mp hw).1
/-- a field as an instruction names it -/
def zFl (own : String) (index ci k : Nat) : Prop := ∃ (Cn : String) (T : u_T) (N : Nat), vwCl[ci]? = some (Cn, T, N) ∧ (∀ w ∈ u_ws Cn T N, w ∈ zT) ∧ k < N ∧ Cond.fieldLink own index (T k).1 (T k).2.1 (T k).2.2.1 ∈ zT
/-- what a store wants to know of a field -/
def zFp (ci k : Nat) (fin : Bool) (ty : FieldType) : Prop := ∃ (Cn : String) (T : u_T) (N : Nat) (ty0 : Nat → FieldType), vwCl[ci]? = some (Cn, T, N) ∧ (∀ k, k < N → parseFieldDescriptor (T k).2.2.1 = some (ty0 k)) ∧ (∀ a, a < N → ∀ b, b < N → a ≠ b → (T a).2.1 ≠ (T b).2.1) ∧ (T k).2.2.2 = fin ∧ (T k).1 = Cn ∧ parseFieldDescriptor (T k).2.2.1 = some ty
/-- a method that is called: an instance's -/
def zMv (y : MethodName) (bytes : ByteArray) (maxL : Nat) (ret : Option FieldType) (n : Nat) : Prop := Cond.code y bytes maxL ret ∈ zT ∧ Cond.initialized y.cls ∈ zT ∧ Cond.instanceMethod y ∈ zT ∧ Cond.selects y.cls y y ∈ zT ∧ (y.cls ≠ "java/lang/invoke/MethodHandle" ∧ y.cls ≠ "java/lang/invoke/VarHandle" ∧ (parseMethodDescriptor y.desc).map (fun d => d.parameters.length) = some n)
/-- a static one -/
def zMs (y : MethodName) (bytes : ByteArray) (maxL : Nat) (ret : Option FieldType) (n : Nat) : Prop := Cond.code y bytes maxL ret ∈ zT ∧ Cond.initialized y.cls ∈ zT ∧ Cond.static y ∈ zT ∧ (y.cls ≠ "java/lang/invoke/MethodHandle" ∧ y.cls ≠ "java/lang/invoke/VarHandle" ∧ (parseMethodDescriptor y.desc).map (fun d => d.parameters.length) = some n)
/-- a constructor -/
def zMi (y : MethodName) (bytes : ByteArray) (maxL : Nat) (n : Nat) : Prop := Cond.code y bytes maxL none ∈ zT ∧ Cond.initialized y.cls ∈ zT ∧ Cond.instanceMethod y ∈ zT ∧ y.name = "<init>" ∧ (y.cls ≠ "java/lang/invoke/MethodHandle" ∧ y.cls ≠ "java/lang/invoke/VarHandle" ∧ (parseMethodDescriptor y.desc).map (fun d => d.parameters.length) = some n)
theorem iX0 : ∀ w ∈ wsX00, w ∈ zT := fun w h => List.mem_filter.mpr ⟨(show ∀ w ∈ wsX00, w ∈ lw_tbl by decide +kernel) w h, List.all_eq_true.mp (show wsX00.all goodWord = true by decide +kernel) w h⟩
theorem fp_X0_0 : zFp 0 0 true (.object "KeyTrees$Seats") := ⟨RX0, TX0, 11, tyX0, rfl, tyX0_ok, nmX0, by decide +kernel, by decide +kernel, by decide +kernel⟩
theorem fp_X0_1 : zFp 0 1 true (.object "KeyTrees$Keys") := ⟨RX0, TX0, 11, tyX0, rfl, tyX0_ok, nmX0, by decide +kernel, by decide +kernel, by decide +kernel⟩
theorem fp_X0_2 : zFp 0 2 true (.object "KeyTrees$Letters") := ⟨RX0, TX0, 11, tyX0, rfl, tyX0_ok, nmX0, by decide +kernel, by decide +kernel, by decide +kernel⟩
theorem fp_X0_3 : zFp 0 3 false (.int) := ⟨RX0, TX0, 11, tyX0, rfl, tyX0_ok, nmX0, by decide +kernel, by decide +kernel, by decide +kernel⟩
theorem fp_X0_4 : zFp 0 4 false (.int) := ⟨RX0, TX0, 11, tyX0, rfl, tyX0_ok, nmX0, by decide +kernel, by decide +kernel, by decide +kernel⟩
theorem fp_X0_5 : zFp 0 5 false (.int) := ⟨RX0, TX0, 11, tyX0, rfl, tyX0_ok, nmX0, by decide +kernel, by decide +kernel, by decide +kernel⟩
theorem fp_X0_6 : zFp 0 6 false (.int) := ⟨RX0, TX0, 11, tyX0, rfl, tyX0_ok, nmX0, by decide +kernel, by decide +kernel, by decide +kernel⟩
theorem fp_X0_7 : zFp 0 7 false (.int) := ⟨RX0, TX0, 11, tyX0, rfl, tyX0_ok, nmX0, by decide +kernel, by decide +kernel, by decide +kernel⟩
theorem fp_X0_8 : zFp 0 8 true (.array .int) := ⟨RX0, TX0, 11, tyX0, rfl, tyX0_ok, nmX0, by decide +kernel, by decide +kernel, by decide +kernel⟩
theorem fp_X0_9 : zFp 0 9 true (.array .int) := ⟨RX0, TX0, 11, tyX0, rfl, tyX0_ok, nmX0, by decide +kernel, by decide +kernel, by decide +kernel⟩
theorem fp_X0_10 : zFp 0 10 true (.array .int) := ⟨RX0, TX0, 11, tyX0, rfl, tyX0_ok, nmX0, by decide +kernel, by decide +kernel, by decide +kernel⟩
theorem iX1 : ∀ w ∈ wsX10, w ∈ zT := fun w h => List.mem_filter.mpr ⟨(show ∀ w ∈ wsX10, w ∈ lw_tbl by decide +kernel) w h, List.all_eq_true.mp (show wsX10.all goodWord = true by decide +kernel) w h⟩
theorem fp_X1_0 : zFp 1 0 false (.int) := ⟨RX1, TX1, 5, tyX1, rfl, tyX1_ok, nmX1, by decide +kernel, by decide +kernel, by decide +kernel⟩
theorem fp_X1_1 : zFp 1 1 true (.array .int) := ⟨RX1, TX1, 5, tyX1, rfl, tyX1_ok, nmX1, by decide +kernel, by decide +kernel, by decide +kernel⟩
theorem fp_X1_2 : zFp 1 2 true (.array .int) := ⟨RX1, TX1, 5, tyX1, rfl, tyX1_ok, nmX1, by decide +kernel, by decide +kernel, by decide +kernel⟩
theorem fp_X1_3 : zFp 1 3 true (.array .int) := ⟨RX1, TX1, 5, tyX1, rfl, tyX1_ok, nmX1, by decide +kernel, by decide +kernel, by decide +kernel⟩
theorem fp_X1_4 : zFp 1 4 true (.array .int) := ⟨RX1, TX1, 5, tyX1, rfl, tyX1_ok, nmX1, by decide +kernel, by decide +kernel, by decide +kernel⟩
theorem iX2 : ∀ w ∈ wsX20, w ∈ zT := fun w h => List.mem_filter.mpr ⟨(show ∀ w ∈ wsX20, w ∈ lw_tbl by decide +kernel) w h, List.all_eq_true.mp (show wsX20.all goodWord = true by decide +kernel) w h⟩
theorem fp_X2_0 : zFp 2 0 false (.int) := ⟨RX2, TX2, 4, tyX2, rfl, tyX2_ok, nmX2, by decide +kernel, by decide +kernel, by decide +kernel⟩
theorem fp_X2_1 : zFp 2 1 true (.array .int) := ⟨RX2, TX2, 4, tyX2, rfl, tyX2_ok, nmX2, by decide +kernel, by decide +kernel, by decide +kernel⟩
theorem fp_X2_2 : zFp 2 2 true (.array .int) := ⟨RX2, TX2, 4, tyX2, rfl, tyX2_ok, nmX2, by decide +kernel, by decide +kernel, by decide +kernel⟩
theorem fp_X2_3 : zFp 2 3 true (.array .int) := ⟨RX2, TX2, 4, tyX2, rfl, tyX2_ok, nmX2, by decide +kernel, by decide +kernel, by decide +kernel⟩
theorem iX3 : ∀ w ∈ wsX30, w ∈ zT := fun w h => List.mem_filter.mpr ⟨(show ∀ w ∈ wsX30, w ∈ lw_tbl by decide +kernel) w h, List.all_eq_true.mp (show wsX30.all goodWord = true by decide +kernel) w h⟩
theorem fp_X3_0 : zFp 3 0 true (.array (.object "KeyTrees$Book")) := ⟨RX3, TX3, 3, tyX3, rfl, tyX3_ok, nmX3, by decide +kernel, by decide +kernel, by decide +kernel⟩
theorem fp_X3_1 : zFp 3 1 false (.int) := ⟨RX3, TX3, 3, tyX3, rfl, tyX3_ok, nmX3, by decide +kernel, by decide +kernel, by decide +kernel⟩
theorem fp_X3_2 : zFp 3 2 false (.int) := ⟨RX3, TX3, 3, tyX3, rfl, tyX3_ok, nmX3, by decide +kernel, by decide +kernel, by decide +kernel⟩
theorem iX4 : ∀ w ∈ wsX40, w ∈ zT := fun w h => List.mem_filter.mpr ⟨(show ∀ w ∈ wsX40, w ∈ lw_tbl by decide +kernel) w h, List.all_eq_true.mp (show wsX40.all goodWord = true by decide +kernel) w h⟩
theorem fp_X4_0 : zFp 4 0 true (.array .boolean) := ⟨RX4, TX4, 2, tyX4, rfl, tyX4_ok, nmX4, by decide +kernel, by decide +kernel, by decide +kernel⟩
theorem fp_X4_1 : zFp 4 1 false (.int) := ⟨RX4, TX4, 2, tyX4, rfl, tyX4_ok, nmX4, by decide +kernel, by decide +kernel, by decide +kernel⟩
theorem iX5 : ∀ w ∈ wsX50, w ∈ zT := fun w h => List.mem_filter.mpr ⟨(show ∀ w ∈ wsX50, w ∈ lw_tbl by decide +kernel) w h, List.all_eq_true.mp (show wsX50.all goodWord = true by decide +kernel) w h⟩
theorem fp_X5_0 : zFp 5 0 true (.array .int) := ⟨RX5, TX5, 2, tyX5, rfl, tyX5_ok, nmX5, by decide +kernel, by decide +kernel, by decide +kernel⟩
theorem fp_X5_1 : zFp 5 1 true (.array .int) := ⟨RX5, TX5, 2, tyX5, rfl, tyX5_ok, nmX5, by decide +kernel, by decide +kernel, by decide +kernel⟩
theorem iX6 : ∀ w ∈ wsX60, w ∈ zT := fun w h => List.mem_filter.mpr ⟨(show ∀ w ∈ wsX60, w ∈ lw_tbl by decide +kernel) w h, List.all_eq_true.mp (show wsX60.all goodWord = true by decide +kernel) w h⟩
theorem fp_X6_0 : zFp 6 0 true (.array .long) := ⟨RX6, TX6, 3, tyX6, rfl, tyX6_ok, nmX6, by decide +kernel, by decide +kernel, by decide +kernel⟩
theorem fp_X6_1 : zFp 6 1 false (.int) := ⟨RX6, TX6, 3, tyX6, rfl, tyX6_ok, nmX6, by decide +kernel, by decide +kernel, by decide +kernel⟩
theorem fp_X6_2 : zFp 6 2 false (.int) := ⟨RX6, TX6, 3, tyX6, rfl, tyX6_ok, nmX6, by decide +kernel, by decide +kernel, by decide +kernel⟩
theorem iX7 : ∀ w ∈ wsX70, w ∈ zT := fun w h => List.mem_filter.mpr ⟨(show ∀ w ∈ wsX70, w ∈ lw_tbl by decide +kernel) w h, List.all_eq_true.mp (show wsX70.all goodWord = true by decide +kernel) w h⟩
theorem fp_X7_0 : zFp 7 0 true (.array .char) := ⟨RX7, TX7, 2, tyX7, rfl, tyX7_ok, nmX7, by decide +kernel, by decide +kernel, by decide +kernel⟩
theorem fp_X7_1 : zFp 7 1 false (.int) := ⟨RX7, TX7, 2, tyX7, rfl, tyX7_ok, nmX7, by decide +kernel, by decide +kernel, by decide +kernel⟩
theorem iX8 : ∀ w ∈ wsX80, w ∈ zT := fun w h => List.mem_filter.mpr ⟨(show ∀ w ∈ wsX80, w ∈ lw_tbl by decide +kernel) w h, List.all_eq_true.mp (show wsX80.all goodWord = true by decide +kernel) w h⟩
theorem fp_X8_0 : zFp 8 0 true (.object "KeyTrees$Book") := ⟨RX8, TX8, 9, tyX8, rfl, tyX8_ok, nmX8, by decide +kernel, by decide +kernel, by decide +kernel⟩
theorem fp_X8_1 : zFp 8 1 true (.object "KeyTrees$Past") := ⟨RX8, TX8, 9, tyX8, rfl, tyX8_ok, nmX8, by decide +kernel, by decide +kernel, by decide +kernel⟩
theorem fp_X8_2 : zFp 8 2 true (.object "KeyTrees$Book") := ⟨RX8, TX8, 9, tyX8, rfl, tyX8_ok, nmX8, by decide +kernel, by decide +kernel, by decide +kernel⟩
theorem fp_X8_3 : zFp 8 3 true (.object "KeyTrees$Past") := ⟨RX8, TX8, 9, tyX8, rfl, tyX8_ok, nmX8, by decide +kernel, by decide +kernel, by decide +kernel⟩
theorem fp_X8_4 : zFp 8 4 false (.boolean) := ⟨RX8, TX8, 9, tyX8, rfl, tyX8_ok, nmX8, by decide +kernel, by decide +kernel, by decide +kernel⟩
theorem fp_X8_5 : zFp 8 5 true (.object "KeyTrees$Tape") := ⟨RX8, TX8, 9, tyX8, rfl, tyX8_ok, nmX8, by decide +kernel, by decide +kernel, by decide +kernel⟩
theorem fp_X8_6 : zFp 8 6 true (.array (.object "KeyTrees$Sheet")) := ⟨RX8, TX8, 9, tyX8, rfl, tyX8_ok, nmX8, by decide +kernel, by decide +kernel, by decide +kernel⟩
theorem fp_X8_7 : zFp 8 7 true (.object "KeyTrees$Seats") := ⟨RX8, TX8, 9, tyX8, rfl, tyX8_ok, nmX8, by decide +kernel, by decide +kernel, by decide +kernel⟩
theorem fp_X8_8 : zFp 8 8 true (.object "KeyTrees$Ring") := ⟨RX8, TX8, 9, tyX8, rfl, tyX8_ok, nmX8, by decide +kernel, by decide +kernel, by decide +kernel⟩
theorem cl_L_9 : Cond.classLink RL 9 RX8 ∈ zT := zT_tb (i := 14) (by decide +kernel) (by decide +kernel)
theorem ml_L_11 : Cond.methodLink RL 11 yX8_init ∈ zT := zT_tb (i := 16) (by decide +kernel) (by decide +kernel)
theorem ml_X8_3 : Cond.methodLink RX8 3 objectInit ∈ zT := zT_tb (i := 19) (by decide +kernel) (by decide +kernel)
theorem cl_X8_9 : Cond.classLink RX8 9 RX0 ∈ zT := zT_tb (i := 22) (by decide +kernel) (by decide +kernel)
theorem ml_X8_11 : Cond.methodLink RX8 11 yX0_init ∈ zT := zT_tb (i := 24) (by decide +kernel) (by decide +kernel)
theorem ml_X0_3 : Cond.methodLink RX0 3 objectInit ∈ zT := zT_tb (i := 27) (by decide +kernel) (by decide +kernel)
theorem cl_X0_9 : Cond.classLink RX0 9 RX5 ∈ zT := zT_tb (i := 28) (by decide +kernel) (by decide +kernel)
theorem ml_X5_3 : Cond.methodLink RX5 3 objectInit ∈ zT := zT_tb (i := 33) (by decide +kernel) (by decide +kernel)
theorem fl_X5_9 : zFl RX5 9 5 0 := ⟨RX5, TX5, 2, rfl, iX5, by decide +kernel, zT_tb (i := 34) (by decide +kernel) (by decide +kernel)⟩
theorem fl_X8_138 : zFl RX8 138 5 0 := ⟨RX5, TX5, 2, rfl, iX5, by decide +kernel, zT_tb (i := 35) (by decide +kernel) (by decide +kernel)⟩
theorem fl_X0_111 : zFl RX0 111 5 0 := ⟨RX5, TX5, 2, rfl, iX5, by decide +kernel, zT_tb (i := 36) (by decide +kernel) (by decide +kernel)⟩
theorem fl_X5_15 : zFl RX5 15 5 1 := ⟨RX5, TX5, 2, rfl, iX5, by decide +kernel, zT_tb (i := 37) (by decide +kernel) (by decide +kernel)⟩
theorem fl_X8_163 : zFl RX8 163 5 1 := ⟨RX5, TX5, 2, rfl, iX5, by decide +kernel, zT_tb (i := 38) (by decide +kernel) (by decide +kernel)⟩
theorem fl_X0_190 : zFl RX0 190 5 1 := ⟨RX5, TX5, 2, rfl, iX5, by decide +kernel, zT_tb (i := 39) (by decide +kernel) (by decide +kernel)⟩
theorem cl_X0_18 : Cond.classLink RX0 18 RX1 ∈ zT := zT_tb (i := 46) (by decide +kernel) (by decide +kernel)
theorem ml_X0_20 : Cond.methodLink RX0 20 yX1_init ∈ zT := zT_tb (i := 48) (by decide +kernel) (by decide +kernel)
theorem ml_X1_3 : Cond.methodLink RX1 3 objectInit ∈ zT := zT_tb (i := 51) (by decide +kernel) (by decide +kernel)
theorem ml_X1_24 : Cond.methodLink RX1 24 yJ7_fill_53178 ∈ zT := zT_tb (i := 52) (by decide +kernel) (by decide +kernel)
theorem fl_X1_30 : zFl RX1 30 1 0 := ⟨RX1, TX1, 5, rfl, iX1, by decide +kernel, zT_tb (i := 55) (by decide +kernel) (by decide +kernel)⟩
theorem fl_X4_15 : zFl RX4 15 1 0 := ⟨RX1, TX1, 5, rfl, iX1, by decide +kernel, zT_tb (i := 56) (by decide +kernel) (by decide +kernel)⟩
theorem fl_X8_124 : zFl RX8 124 1 0 := ⟨RX1, TX1, 5, rfl, iX1, by decide +kernel, zT_tb (i := 57) (by decide +kernel) (by decide +kernel)⟩
theorem fl_X0_108 : zFl RX0 108 1 0 := ⟨RX1, TX1, 5, rfl, iX1, by decide +kernel, zT_tb (i := 58) (by decide +kernel) (by decide +kernel)⟩
theorem fl_X1_9 : zFl RX1 9 1 1 := ⟨RX1, TX1, 5, rfl, iX1, by decide +kernel, zT_tb (i := 59) (by decide +kernel) (by decide +kernel)⟩
theorem fl_X8_169 : zFl RX8 169 1 1 := ⟨RX1, TX1, 5, rfl, iX1, by decide +kernel, zT_tb (i := 60) (by decide +kernel) (by decide +kernel)⟩
theorem fl_X1_15 : zFl RX1 15 1 2 := ⟨RX1, TX1, 5, rfl, iX1, by decide +kernel, zT_tb (i := 61) (by decide +kernel) (by decide +kernel)⟩
theorem fl_X8_172 : zFl RX8 172 1 2 := ⟨RX1, TX1, 5, rfl, iX1, by decide +kernel, zT_tb (i := 62) (by decide +kernel) (by decide +kernel)⟩
theorem fl_X1_18 : zFl RX1 18 1 3 := ⟨RX1, TX1, 5, rfl, iX1, by decide +kernel, zT_tb (i := 63) (by decide +kernel) (by decide +kernel)⟩
theorem fl_X4_24 : zFl RX4 24 1 3 := ⟨RX1, TX1, 5, rfl, iX1, by decide +kernel, zT_tb (i := 64) (by decide +kernel) (by decide +kernel)⟩
theorem fl_X8_175 : zFl RX8 175 1 3 := ⟨RX1, TX1, 5, rfl, iX1, by decide +kernel, zT_tb (i := 65) (by decide +kernel) (by decide +kernel)⟩
theorem fl_X1_21 : zFl RX1 21 1 4 := ⟨RX1, TX1, 5, rfl, iX1, by decide +kernel, zT_tb (i := 66) (by decide +kernel) (by decide +kernel)⟩
theorem fl_X0_87 : zFl RX0 87 1 4 := ⟨RX1, TX1, 5, rfl, iX1, by decide +kernel, zT_tb (i := 67) (by decide +kernel) (by decide +kernel)⟩
theorem fl_X8_160 : zFl RX8 160 1 4 := ⟨RX1, TX1, 5, rfl, iX1, by decide +kernel, zT_tb (i := 68) (by decide +kernel) (by decide +kernel)⟩
theorem cl_X0_25 : Cond.classLink RX0 25 RX2 ∈ zT := zT_tb (i := 80) (by decide +kernel) (by decide +kernel)
theorem ml_X2_3 : Cond.methodLink RX2 3 objectInit ∈ zT := zT_tb (i := 85) (by decide +kernel) (by decide +kernel)
theorem fl_X2_21 : zFl RX2 21 2 0 := ⟨RX2, TX2, 4, rfl, iX2, by decide +kernel, zT_tb (i := 86) (by decide +kernel) (by decide +kernel)⟩
theorem fl_X0_84 : zFl RX0 84 2 0 := ⟨RX2, TX2, 4, rfl, iX2, by decide +kernel, zT_tb (i := 87) (by decide +kernel) (by decide +kernel)⟩
theorem fl_X4_43 : zFl RX4 43 2 0 := ⟨RX2, TX2, 4, rfl, iX2, by decide +kernel, zT_tb (i := 88) (by decide +kernel) (by decide +kernel)⟩
theorem fl_X8_195 : zFl RX8 195 2 0 := ⟨RX2, TX2, 4, rfl, iX2, by decide +kernel, zT_tb (i := 89) (by decide +kernel) (by decide +kernel)⟩
theorem fl_X2_9 : zFl RX2 9 2 1 := ⟨RX2, TX2, 4, rfl, iX2, by decide +kernel, zT_tb (i := 90) (by decide +kernel) (by decide +kernel)⟩
theorem fl_X4_28 : zFl RX4 28 2 1 := ⟨RX2, TX2, 4, rfl, iX2, by decide +kernel, zT_tb (i := 91) (by decide +kernel) (by decide +kernel)⟩
theorem fl_X8_185 : zFl RX8 185 2 1 := ⟨RX2, TX2, 4, rfl, iX2, by decide +kernel, zT_tb (i := 92) (by decide +kernel) (by decide +kernel)⟩
theorem fl_X0_168 : zFl RX0 168 2 1 := ⟨RX2, TX2, 4, rfl, iX2, by decide +kernel, zT_tb (i := 93) (by decide +kernel) (by decide +kernel)⟩
theorem fl_X2_15 : zFl RX2 15 2 2 := ⟨RX2, TX2, 4, rfl, iX2, by decide +kernel, zT_tb (i := 94) (by decide +kernel) (by decide +kernel)⟩
theorem fl_X4_33 : zFl RX4 33 2 2 := ⟨RX2, TX2, 4, rfl, iX2, by decide +kernel, zT_tb (i := 95) (by decide +kernel) (by decide +kernel)⟩
theorem fl_X8_188 : zFl RX8 188 2 2 := ⟨RX2, TX2, 4, rfl, iX2, by decide +kernel, zT_tb (i := 96) (by decide +kernel) (by decide +kernel)⟩
theorem fl_X0_171 : zFl RX0 171 2 2 := ⟨RX2, TX2, 4, rfl, iX2, by decide +kernel, zT_tb (i := 97) (by decide +kernel) (by decide +kernel)⟩
theorem fl_X2_18 : zFl RX2 18 2 3 := ⟨RX2, TX2, 4, rfl, iX2, by decide +kernel, zT_tb (i := 98) (by decide +kernel) (by decide +kernel)⟩
theorem fl_X8_191 : zFl RX8 191 2 3 := ⟨RX2, TX2, 4, rfl, iX2, by decide +kernel, zT_tb (i := 99) (by decide +kernel) (by decide +kernel)⟩
theorem fl_X0_188 : zFl RX0 188 2 3 := ⟨RX2, TX2, 4, rfl, iX2, by decide +kernel, zT_tb (i := 100) (by decide +kernel) (by decide +kernel)⟩
theorem ml_X0_46 : Cond.methodLink RX0 46 yJ7_fill_53178 ∈ zT := zT_tb (i := 110) (by decide +kernel) (by decide +kernel)
theorem fl_X0_12 : zFl RX0 12 0 0 := ⟨RX0, TX0, 11, rfl, iX0, by decide +kernel, zT_tb (i := 111) (by decide +kernel) (by decide +kernel)⟩
theorem fl_X8_132 : zFl RX8 132 0 0 := ⟨RX0, TX0, 11, rfl, iX0, by decide +kernel, zT_tb (i := 112) (by decide +kernel) (by decide +kernel)⟩
theorem fl_X0_21 : zFl RX0 21 0 1 := ⟨RX0, TX0, 11, rfl, iX0, by decide +kernel, zT_tb (i := 113) (by decide +kernel) (by decide +kernel)⟩
theorem fl_X8_120 : zFl RX8 120 0 1 := ⟨RX0, TX0, 11, rfl, iX0, by decide +kernel, zT_tb (i := 114) (by decide +kernel) (by decide +kernel)⟩
theorem fl_X0_28 : zFl RX0 28 0 2 := ⟨RX0, TX0, 11, rfl, iX0, by decide +kernel, zT_tb (i := 115) (by decide +kernel) (by decide +kernel)⟩
theorem fl_X8_178 : zFl RX8 178 0 2 := ⟨RX0, TX0, 11, rfl, iX0, by decide +kernel, zT_tb (i := 116) (by decide +kernel) (by decide +kernel)⟩
theorem fl_X0_62 : zFl RX0 62 0 3 := ⟨RX0, TX0, 11, rfl, iX0, by decide +kernel, zT_tb (i := 117) (by decide +kernel) (by decide +kernel)⟩
theorem fl_X8_72 : zFl RX8 72 0 3 := ⟨RX0, TX0, 11, rfl, iX0, by decide +kernel, zT_tb (i := 118) (by decide +kernel) (by decide +kernel)⟩
theorem fl_X0_65 : zFl RX0 65 0 4 := ⟨RX0, TX0, 11, rfl, iX0, by decide +kernel, zT_tb (i := 119) (by decide +kernel) (by decide +kernel)⟩
theorem fl_X8_88 : zFl RX8 88 0 4 := ⟨RX0, TX0, 11, rfl, iX0, by decide +kernel, zT_tb (i := 120) (by decide +kernel) (by decide +kernel)⟩
theorem fl_X0_68 : zFl RX0 68 0 5 := ⟨RX0, TX0, 11, rfl, iX0, by decide +kernel, zT_tb (i := 121) (by decide +kernel) (by decide +kernel)⟩
theorem fl_X8_154 : zFl RX8 154 0 5 := ⟨RX0, TX0, 11, rfl, iX0, by decide +kernel, zT_tb (i := 122) (by decide +kernel) (by decide +kernel)⟩
theorem fl_X0_71 : zFl RX0 71 0 6 := ⟨RX0, TX0, 11, rfl, iX0, by decide +kernel, zT_tb (i := 123) (by decide +kernel) (by decide +kernel)⟩
theorem fl_X8_198 : zFl RX8 198 0 6 := ⟨RX0, TX0, 11, rfl, iX0, by decide +kernel, zT_tb (i := 124) (by decide +kernel) (by decide +kernel)⟩
theorem fl_X0_32 : zFl RX0 32 0 7 := ⟨RX0, TX0, 11, rfl, iX0, by decide +kernel, zT_tb (i := 125) (by decide +kernel) (by decide +kernel)⟩
theorem fl_X8_254 : zFl RX8 254 0 7 := ⟨RX0, TX0, 11, rfl, iX0, by decide +kernel, zT_tb (i := 126) (by decide +kernel) (by decide +kernel)⟩
theorem fl_X0_36 : zFl RX0 36 0 8 := ⟨RX0, TX0, 11, rfl, iX0, by decide +kernel, zT_tb (i := 127) (by decide +kernel) (by decide +kernel)⟩
theorem fl_X0_40 : zFl RX0 40 0 9 := ⟨RX0, TX0, 11, rfl, iX0, by decide +kernel, zT_tb (i := 128) (by decide +kernel) (by decide +kernel)⟩
theorem fl_X0_43 : zFl RX0 43 0 10 := ⟨RX0, TX0, 11, rfl, iX0, by decide +kernel, zT_tb (i := 129) (by decide +kernel) (by decide +kernel)⟩
theorem cl_X8_16 : Cond.classLink RX8 16 RX3 ∈ zT := zT_tb (i := 153) (by decide +kernel) (by decide +kernel)
theorem ml_X8_18 : Cond.methodLink RX8 18 yX3_init ∈ zT := zT_tb (i := 155) (by decide +kernel) (by decide +kernel)
theorem ml_X3_3 : Cond.methodLink RX3 3 objectInit ∈ zT := zT_tb (i := 158) (by decide +kernel) (by decide +kernel)
theorem cl_X3_9 : Cond.classLink RX3 9 RX0 ∈ zT := zT_tb (i := 159) (by decide +kernel) (by decide +kernel)
theorem ml_X3_17 : Cond.methodLink RX3 17 yX0_init ∈ zT := zT_tb (i := 161) (by decide +kernel) (by decide +kernel)
theorem fl_X3_11 : zFl RX3 11 3 0 := ⟨RX3, TX3, 3, rfl, iX3, by decide +kernel, zT_tb (i := 162) (by decide +kernel) (by decide +kernel)⟩
theorem fl_X3_18 : zFl RX3 18 3 1 := ⟨RX3, TX3, 3, rfl, iX3, by decide +kernel, zT_tb (i := 163) (by decide +kernel) (by decide +kernel)⟩
theorem fl_X8_200 : zFl RX8 200 3 1 := ⟨RX3, TX3, 3, rfl, iX3, by decide +kernel, zT_tb (i := 164) (by decide +kernel) (by decide +kernel)⟩
theorem fl_X3_22 : zFl RX3 22 3 2 := ⟨RX3, TX3, 3, rfl, iX3, by decide +kernel, zT_tb (i := 165) (by decide +kernel) (by decide +kernel)⟩
theorem cl_X8_29 : Cond.classLink RX8 29 RX7 ∈ zT := zT_tb (i := 173) (by decide +kernel) (by decide +kernel)
theorem ml_X7_3 : Cond.methodLink RX7 3 objectInit ∈ zT := zT_tb (i := 178) (by decide +kernel) (by decide +kernel)
theorem fl_X7_9 : zFl RX7 9 7 0 := ⟨RX7, TX7, 2, rfl, iX7, by decide +kernel, zT_tb (i := 179) (by decide +kernel) (by decide +kernel)⟩
theorem cl_X8_36 : Cond.classLink RX8 36 RX6 ∈ zT := zT_tb (i := 186) (by decide +kernel) (by decide +kernel)
theorem cl_X8_42 : Cond.classLink RX8 42 RX5 ∈ zT := zT_tb (i := 188) (by decide +kernel) (by decide +kernel)
theorem cl_X8_49 : Cond.classLink RX8 49 RX4 ∈ zT := zT_tb (i := 190) (by decide +kernel) (by decide +kernel)
theorem ml_X4_3 : Cond.methodLink RX4 3 objectInit ∈ zT := zT_tb (i := 195) (by decide +kernel) (by decide +kernel)
theorem fl_X4_9 : zFl RX4 9 4 0 := ⟨RX4, TX4, 2, rfl, iX4, by decide +kernel, zT_tb (i := 196) (by decide +kernel) (by decide +kernel)⟩
theorem fl_X4_21 : zFl RX4 21 4 1 := ⟨RX4, TX4, 2, rfl, iX4, by decide +kernel, zT_tb (i := 197) (by decide +kernel) (by decide +kernel)⟩
theorem ml_X6_3 : Cond.methodLink RX6 3 objectInit ∈ zT := zT_tb (i := 208) (by decide +kernel) (by decide +kernel)
theorem fl_X6_9 : zFl RX6 9 6 0 := ⟨RX6, TX6, 3, rfl, iX6, by decide +kernel, zT_tb (i := 209) (by decide +kernel) (by decide +kernel)⟩
theorem fl_X8_280 : zFl RX8 280 6 0 := ⟨RX6, TX6, 3, rfl, iX6, by decide +kernel, zT_tb (i := 210) (by decide +kernel) (by decide +kernel)⟩
theorem fl_X6_15 : zFl RX6 15 6 1 := ⟨RX6, TX6, 3, rfl, iX6, by decide +kernel, zT_tb (i := 211) (by decide +kernel) (by decide +kernel)⟩
theorem fl_X8_296 : zFl RX8 296 6 1 := ⟨RX6, TX6, 3, rfl, iX6, by decide +kernel, zT_tb (i := 212) (by decide +kernel) (by decide +kernel)⟩
theorem fl_X6_19 : zFl RX6 19 6 2 := ⟨RX6, TX6, 3, rfl, iX6, by decide +kernel, zT_tb (i := 213) (by decide +kernel) (by decide +kernel)⟩
theorem fl_X8_299 : zFl RX8 299 6 2 := ⟨RX6, TX6, 3, rfl, iX6, by decide +kernel, zT_tb (i := 214) (by decide +kernel) (by decide +kernel)⟩
theorem fl_X8_12 : zFl RX8 12 8 0 := ⟨RX8, TX8, 9, rfl, iX8, by decide +kernel, zT_tb (i := 223) (by decide +kernel) (by decide +kernel)⟩
theorem fl_X8_19 : zFl RX8 19 8 1 := ⟨RX8, TX8, 9, rfl, iX8, by decide +kernel, zT_tb (i := 224) (by decide +kernel) (by decide +kernel)⟩
theorem fl_X8_23 : zFl RX8 23 8 2 := ⟨RX8, TX8, 9, rfl, iX8, by decide +kernel, zT_tb (i := 225) (by decide +kernel) (by decide +kernel)⟩
theorem fl_X8_26 : zFl RX8 26 8 3 := ⟨RX8, TX8, 9, rfl, iX8, by decide +kernel, zT_tb (i := 226) (by decide +kernel) (by decide +kernel)⟩
theorem fl_X8_262 : zFl RX8 262 8 4 := ⟨RX8, TX8, 9, rfl, iX8, by decide +kernel, zT_tb (i := 227) (by decide +kernel) (by decide +kernel)⟩
theorem fl_X8_32 : zFl RX8 32 8 5 := ⟨RX8, TX8, 9, rfl, iX8, by decide +kernel, zT_tb (i := 228) (by decide +kernel) (by decide +kernel)⟩
theorem fl_X8_38 : zFl RX8 38 8 6 := ⟨RX8, TX8, 9, rfl, iX8, by decide +kernel, zT_tb (i := 229) (by decide +kernel) (by decide +kernel)⟩
theorem fl_X8_45 : zFl RX8 45 8 7 := ⟨RX8, TX8, 9, rfl, iX8, by decide +kernel, zT_tb (i := 230) (by decide +kernel) (by decide +kernel)⟩
theorem fl_X8_52 : zFl RX8 52 8 8 := ⟨RX8, TX8, 9, rfl, iX8, by decide +kernel, zT_tb (i := 231) (by decide +kernel) (by decide +kernel)⟩
theorem ml_L_18 : Cond.methodLink RL 18 yX8_begin ∈ zT := zT_tb (i := 251) (by decide +kernel) (by decide +kernel)
theorem ml_X8_64 : Cond.methodLink RX8 64 yX3_keep ∈ zT := zT_tb (i := 255) (by decide +kernel) (by decide +kernel)
theorem ml_X3_25 : Cond.methodLink RX3 25 yX0_take ∈ zT := zT_tb (i := 259) (by decide +kernel) (by decide +kernel)
theorem ml_X0_52 : Cond.methodLink RX0 52 yX5_take ∈ zT := zT_tb (i := 263) (by decide +kernel) (by decide +kernel)
theorem ml_X5_18 : Cond.methodLink RX5 18 arraycopyName ∈ zT := zT_tb (i := 267) (by decide +kernel) (by decide +kernel)
theorem ml_X0_56 : Cond.methodLink RX0 56 yX1_take ∈ zT := zT_tb (i := 270) (by decide +kernel) (by decide +kernel)
theorem ml_X1_34 : Cond.methodLink RX1 34 arraycopyName ∈ zT := zT_tb (i := 274) (by decide +kernel) (by decide +kernel)
theorem ml_X0_59 : Cond.methodLink RX0 59 yX2_take ∈ zT := zT_tb (i := 275) (by decide +kernel) (by decide +kernel)
theorem ml_X2_25 : Cond.methodLink RX2 25 arraycopyName ∈ zT := zT_tb (i := 279) (by decide +kernel) (by decide +kernel)
theorem ml_X0_74 : Cond.methodLink RX0 74 arraycopyName ∈ zT := zT_tb (i := 280) (by decide +kernel) (by decide +kernel)
theorem ml_X3_29 : Cond.methodLink RX3 29 yJ9_min_7cf53 ∈ zT := zT_tb (i := 281) (by decide +kernel) (by decide +kernel)
theorem ml_X8_129 : Cond.methodLink RX8 129 yX0_beginAnew ∈ zT := zT_tb (i := 284) (by decide +kernel) (by decide +kernel)
theorem ml_X0_80 : Cond.methodLink RX0 80 yX5_clear ∈ zT := zT_tb (i := 288) (by decide +kernel) (by decide +kernel)
theorem ml_X5_24 : Cond.methodLink RX5 24 yJ7_fill_53178 ∈ zT := zT_tb (i := 292) (by decide +kernel) (by decide +kernel)
theorem ml_X0_83 : Cond.methodLink RX0 83 yX1_clear ∈ zT := zT_tb (i := 293) (by decide +kernel) (by decide +kernel)
theorem ml_L_37 : Cond.methodLink RL 37 yX8_count ∈ zT := zT_tb (i := 297) (by decide +kernel) (by decide +kernel)
theorem ml_X8_192 : Cond.methodLink RX8 192 yX5_all ∈ zT := zT_tb (i := 301) (by decide +kernel) (by decide +kernel)
theorem ml_X8_145 : Cond.methodLink RX8 145 yX0_groupKey ∈ zT := zT_tb (i := 305) (by decide +kernel) (by decide +kernel)
theorem ml_X8_148 : Cond.methodLink RX8 148 yX1_holdersOf ∈ zT := zT_tb (i := 309) (by decide +kernel) (by decide +kernel)
theorem ml_X1_54 : Cond.methodLink RX1 54 yX1_known ∈ zT := zT_tb (i := 313) (by decide +kernel) (by decide +kernel)
theorem ml_L_54 : Cond.methodLink RL 54 yX8_image ∈ zT := zT_tb (i := 317) (by decide +kernel) (by decide +kernel)
theorem ml_X8_257 : Cond.methodLink RX8 257 yX0_take ∈ zT := zT_tb (i := 321) (by decide +kernel) (by decide +kernel)
theorem ml_X8_259 : Cond.methodLink RX8 259 yX3_take ∈ zT := zT_tb (i := 322) (by decide +kernel) (by decide +kernel)
theorem ml_L_60 : Cond.methodLink RL 60 yX8_restore ∈ zT := zT_tb (i := 326) (by decide +kernel) (by decide +kernel)
theorem ml_L_22 : Cond.methodLink RL 22 yL_cell ∈ zT := zT_tb (i := 330) (by decide +kernel) (by decide +kernel)
theorem kc_L_7 : Cond.constant RL 7 (15485957) ∈ zT := zT_tb (i := 333) (by decide +kernel) (by decide +kernel)
theorem kc_L_8 : Cond.constant RL 8 (2147483647) ∈ zT := zT_tb (i := 334) (by decide +kernel) (by decide +kernel)
theorem ml_L_50 : Cond.methodLink RL 50 yL_mark ∈ zT := zT_tb (i := 335) (by decide +kernel) (by decide +kernel)
theorem ml_L_63 : Cond.methodLink RL 63 yX8_key ∈ zT := zT_tb (i := 338) (by decide +kernel) (by decide +kernel)
theorem ml_X8_166 : Cond.methodLink RX8 166 yX1_known ∈ zT := zT_tb (i := 342) (by decide +kernel) (by decide +kernel)
theorem ml_L_67 : Cond.methodLink RL 67 yX8_letter ∈ zT := zT_tb (i := 343) (by decide +kernel) (by decide +kernel)
theorem ml_X8_182 : Cond.methodLink RX8 182 yX2_known ∈ zT := zT_tb (i := 347) (by decide +kernel) (by decide +kernel)
theorem ml_L_12 : Cond.methodLink RL 12 yL_level ∈ zT := zT_tb (i := 351) (by decide +kernel) (by decide +kernel)
theorem ml_L_70 : Cond.methodLink RL 70 yX8_come ∈ zT := zT_tb (i := 354) (by decide +kernel) (by decide +kernel)
theorem ml_X8_57 : Cond.methodLink RX8 57 yX8_noMember ∈ zT := zT_tb (i := 358) (by decide +kernel) (by decide +kernel)
theorem ml_X8_61 : Cond.methodLink RX8 61 yX0_mayCome ∈ zT := zT_tb (i := 361) (by decide +kernel) (by decide +kernel)
theorem ml_X0_90 : Cond.methodLink RX0 90 yX5_sits ∈ zT := zT_tb (i := 365) (by decide +kernel) (by decide +kernel)
theorem ml_X8_151 : Cond.methodLink RX8 151 yX8_bit ∈ zT := zT_tb (i := 372) (by decide +kernel) (by decide +kernel)
theorem ml_X8_68 : Cond.methodLink RX8 68 yX0_addComer ∈ zT := zT_tb (i := 375) (by decide +kernel) (by decide +kernel)
theorem ml_X8_76 : Cond.methodLink RX8 76 yJ6_bitCount_0f7a4 ∈ zT := zT_tb (i := 379) (by decide +kernel) (by decide +kernel)
theorem kc_J6_265 : Cond.constant RJ6 265 (1431655765) ∈ zT := zT_tb (i := 382) (by decide +kernel) (by decide +kernel)
theorem kc_J6_266 : Cond.constant RJ6 266 (858993459) ∈ zT := zT_tb (i := 383) (by decide +kernel) (by decide +kernel)
theorem kc_J6_267 : Cond.constant RJ6 267 (252645135) ∈ zT := zT_tb (i := 384) (by decide +kernel) (by decide +kernel)
theorem ml_L_73 : Cond.methodLink RL 73 yX8_due ∈ zT := zT_tb (i := 385) (by decide +kernel) (by decide +kernel)
theorem ml_X8_217 : Cond.methodLink RX8 217 yX5_take ∈ zT := zT_tb (i := 389) (by decide +kernel) (by decide +kernel)
theorem ml_X8_220 : Cond.methodLink RX8 220 yX5_move ∈ zT := zT_tb (i := 390) (by decide +kernel) (by decide +kernel)
theorem ml_X5_34 : Cond.methodLink RX5 34 yX5_stand ∈ zT := zT_tb (i := 395) (by decide +kernel) (by decide +kernel)
theorem ml_X5_38 : Cond.methodLink RX5 38 yX5_pathFrom ∈ zT := zT_tb (i := 399) (by decide +kernel) (by decide +kernel)
theorem ml_X5_42 : Cond.methodLink RX5 42 yX5_emptiestLeaf ∈ zT := zT_tb (i := 402) (by decide +kernel) (by decide +kernel)
theorem ml_X5_59 : Cond.methodLink RX5 59 yJ6_bitCount_0f7a4 ∈ zT := zT_tb (i := 406) (by decide +kernel) (by decide +kernel)
theorem ml_X5_46 : Cond.methodLink RX5 46 yJ6_numberOfTrailingZeros_0f7a4 ∈ zT := zT_tb (i := 407) (by decide +kernel) (by decide +kernel)
theorem kc_J6_264 : Cond.constant RJ6 264 (65536) ∈ zT := zT_tb (i := 410) (by decide +kernel) (by decide +kernel)
theorem ml_X5_51 : Cond.methodLink RX5 51 yX5_sit ∈ zT := zT_tb (i := 411) (by decide +kernel) (by decide +kernel)
theorem ml_X8_223 : Cond.methodLink RX8 223 yX5_lettersFor ∈ zT := zT_tb (i := 415) (by decide +kernel) (by decide +kernel)
theorem ml_X5_55 : Cond.methodLink RX5 55 yX5_live ∈ zT := zT_tb (i := 419) (by decide +kernel) (by decide +kernel)
theorem ml_X8_226 : Cond.methodLink RX8 226 yX8_planSingles ∈ zT := zT_tb (i := 423) (by decide +kernel) (by decide +kernel)
theorem ml_L_76 : Cond.methodLink RL 76 yX8_batch ∈ zT := zT_tb (i := 427) (by decide +kernel) (by decide +kernel)
theorem ml_X8_91 : Cond.methodLink RX8 91 yX0_batchRefusal ∈ zT := zT_tb (i := 431) (by decide +kernel) (by decide +kernel)
theorem ml_X0_98 : Cond.methodLink RX0 98 yX0_fullRefusal ∈ zT := zT_tb (i := 435) (by decide +kernel) (by decide +kernel)
theorem ml_X8_95 : Cond.methodLink RX8 95 yX0_changeAll ∈ zT := zT_tb (i := 439) (by decide +kernel) (by decide +kernel)
theorem ml_X0_136 : Cond.methodLink RX0 136 yX5_move ∈ zT := zT_tb (i := 443) (by decide +kernel) (by decide +kernel)
theorem ml_X0_140 : Cond.methodLink RX0 140 yX1_renew ∈ zT := zT_tb (i := 444) (by decide +kernel) (by decide +kernel)
theorem ml_X1_40 : Cond.methodLink RX1 40 yX5_live ∈ zT := zT_tb (i := 448) (by decide +kernel) (by decide +kernel)
theorem ml_X1_50 : Cond.methodLink RX1 50 yX1_add ∈ zT := zT_tb (i := 450) (by decide +kernel) (by decide +kernel)
theorem ml_X0_144 : Cond.methodLink RX0 144 yX1_give ∈ zT := zT_tb (i := 454) (by decide +kernel) (by decide +kernel)
theorem ml_X0_148 : Cond.methodLink RX0 148 yX0_tellChanged ∈ zT := zT_tb (i := 458) (by decide +kernel) (by decide +kernel)
theorem ml_X0_154 : Cond.methodLink RX0 154 yX0_tell ∈ zT := zT_tb (i := 462) (by decide +kernel) (by decide +kernel)
theorem ml_X0_157 : Cond.methodLink RX0 157 yX5_live ∈ zT := zT_tb (i := 466) (by decide +kernel) (by decide +kernel)
theorem ml_X0_160 : Cond.methodLink RX0 160 yX2_add ∈ zT := zT_tb (i := 467) (by decide +kernel) (by decide +kernel)
theorem ml_X0_151 : Cond.methodLink RX0 151 yX0_readByAll ∈ zT := zT_tb (i := 471) (by decide +kernel) (by decide +kernel)
theorem ml_X0_102 : Cond.methodLink RX0 102 yX0_isAwake ∈ zT := zT_tb (i := 475) (by decide +kernel) (by decide +kernel)
theorem ml_X0_164 : Cond.methodLink RX0 164 yX0_readUnread ∈ zT := zT_tb (i := 479) (by decide +kernel) (by decide +kernel)
theorem ml_X0_114 : Cond.methodLink RX0 114 yX1_held ∈ zT := zT_tb (i := 483) (by decide +kernel) (by decide +kernel)
theorem ml_X1_57 : Cond.methodLink RX1 57 yX1_holdersOf ∈ zT := zT_tb (i := 487) (by decide +kernel) (by decide +kernel)
theorem ml_L_78 : Cond.methodLink RL 78 yX8_node ∈ zT := zT_tb (i := 488) (by decide +kernel) (by decide +kernel)
theorem ml_L_81 : Cond.methodLink RL 81 yL_bits ∈ zT := zT_tb (i := 492) (by decide +kernel) (by decide +kernel)
theorem ml_L_26 : Cond.methodLink RL 26 yL_gathers ∈ zT := zT_tb (i := 495) (by decide +kernel) (by decide +kernel)
theorem ml_L_84 : Cond.methodLink RL 84 yL_has ∈ zT := zT_tb (i := 498) (by decide +kernel) (by decide +kernel)
theorem ml_L_88 : Cond.methodLink RL 88 yX8_leave ∈ zT := zT_tb (i := 501) (by decide +kernel) (by decide +kernel)
theorem ml_X8_82 : Cond.methodLink RX8 82 yX0_mayLeave ∈ zT := zT_tb (i := 505) (by decide +kernel) (by decide +kernel)
theorem ml_X8_85 : Cond.methodLink RX8 85 yX0_addLeaver ∈ zT := zT_tb (i := 509) (by decide +kernel) (by decide +kernel)
theorem ml_L_91 : Cond.methodLink RL 91 yX8_member ∈ zT := zT_tb (i := 513) (by decide +kernel) (by decide +kernel)
theorem ml_X8_135 : Cond.methodLink RX8 135 yX5_sits ∈ zT := zT_tb (i := 517) (by decide +kernel) (by decide +kernel)
theorem ml_X8_142 : Cond.methodLink RX8 142 yX1_heldBy ∈ zT := zT_tb (i := 518) (by decide +kernel) (by decide +kernel)
theorem ml_X8_157 : Cond.methodLink RX8 157 yX0_unread ∈ zT := zT_tb (i := 523) (by decide +kernel) (by decide +kernel)
theorem ml_L_30 : Cond.methodLink RL 30 yL_batch ∈ zT := zT_tb (i := 527) (by decide +kernel) (by decide +kernel)
theorem ml_L_34 : Cond.methodLink RL 34 yL_shut ∈ zT := zT_tb (i := 530) (by decide +kernel) (by decide +kernel)
theorem kc_L_94 : Cond.constant RL 94 (65535) ∈ zT := zT_tb (i := 533) (by decide +kernel) (by decide +kernel)
theorem ml_L_95 : Cond.methodLink RL 95 yX8_opens ∈ zT := zT_tb (i := 534) (by decide +kernel) (by decide +kernel)
theorem kc_X8_205 : Cond.constant RX8 205 (65536) ∈ zT := zT_tb (i := 538) (by decide +kernel) (by decide +kernel)
theorem ml_X8_206 : Cond.methodLink RX8 206 yX4_take ∈ zT := zT_tb (i := 539) (by decide +kernel) (by decide +kernel)
theorem ml_X8_210 : Cond.methodLink RX8 210 yX4_openAll ∈ zT := zT_tb (i := 543) (by decide +kernel) (by decide +kernel)
theorem ml_X4_46 : Cond.methodLink RX4 46 yX4_open ∈ zT := zT_tb (i := 547) (by decide +kernel) (by decide +kernel)
theorem ml_X4_36 : Cond.methodLink RX4 36 yX4_has ∈ zT := zT_tb (i := 551) (by decide +kernel) (by decide +kernel)
theorem ml_X4_40 : Cond.methodLink RX4 40 yX4_lacks ∈ zT := zT_tb (i := 555) (by decide +kernel) (by decide +kernel)
theorem ml_X8_214 : Cond.methodLink RX8 214 yX4_has ∈ zT := zT_tb (i := 559) (by decide +kernel) (by decide +kernel)
theorem ml_L_98 : Cond.methodLink RL 98 yX8_why ∈ zT := zT_tb (i := 560) (by decide +kernel) (by decide +kernel)
theorem ml_X8_202 : Cond.methodLink RX8 202 yX0_whyShut ∈ zT := zT_tb (i := 564) (by decide +kernel) (by decide +kernel)
theorem ml_X0_182 : Cond.methodLink RX0 182 yX1_batchOf ∈ zT := zT_tb (i := 568) (by decide +kernel) (by decide +kernel)
theorem ml_L_41 : Cond.methodLink RL 41 yL_newcomer ∈ zT := zT_tb (i := 572) (by decide +kernel) (by decide +kernel)
theorem ml_L_101 : Cond.methodLink RL 101 yX8_luck ∈ zT := zT_tb (i := 575) (by decide +kernel) (by decide +kernel)
theorem ml_X8_229 : Cond.methodLink RX8 229 yX8_commonOfTen ∈ zT := zT_tb (i := 579) (by decide +kernel) (by decide +kernel)
theorem ml_X8_232 : Cond.methodLink RX8 232 yX0_lettersNeeded ∈ zT := zT_tb (i := 582) (by decide +kernel) (by decide +kernel)
theorem ml_X0_185 : Cond.methodLink RX0 185 yX1_nodeOf ∈ zT := zT_tb (i := 586) (by decide +kernel) (by decide +kernel)
theorem ml_L_44 : Cond.methodLink RL 44 yL_late ∈ zT := zT_tb (i := 590) (by decide +kernel) (by decide +kernel)
theorem ml_L_105 : Cond.methodLink RL 105 yX8_late ∈ zT := zT_tb (i := 593) (by decide +kernel) (by decide +kernel)
theorem ml_X8_98 : Cond.methodLink RX8 98 yX0_isAwake ∈ zT := zT_tb (i := 597) (by decide +kernel) (by decide +kernel)
theorem ml_X8_101 : Cond.methodLink RX8 101 yX0_isAsleep ∈ zT := zT_tb (i := 598) (by decide +kernel) (by decide +kernel)
theorem ml_X8_104 : Cond.methodLink RX8 104 yX0_fallAsleep ∈ zT := zT_tb (i := 602) (by decide +kernel) (by decide +kernel)
theorem ml_X8_107 : Cond.methodLink RX8 107 yX0_wakeUp ∈ zT := zT_tb (i := 606) (by decide +kernel) (by decide +kernel)
theorem ml_L_107 : Cond.methodLink RL 107 yX8_mend ∈ zT := zT_tb (i := 610) (by decide +kernel) (by decide +kernel)
theorem ml_X8_114 : Cond.methodLink RX8 114 yX0_mendRefusal ∈ zT := zT_tb (i := 614) (by decide +kernel) (by decide +kernel)
theorem ml_X0_105 : Cond.methodLink RX0 105 yX0_holdsAllAbove ∈ zT := zT_tb (i := 618) (by decide +kernel) (by decide +kernel)
theorem ml_X8_117 : Cond.methodLink RX8 117 yX0_mendKeys ∈ zT := zT_tb (i := 622) (by decide +kernel) (by decide +kernel)
theorem ml_L_110 : Cond.methodLink RL 110 yX8_lose ∈ zT := zT_tb (i := 626) (by decide +kernel) (by decide +kernel)
theorem ml_X8_110 : Cond.methodLink RX8 110 yX0_loseLetters ∈ zT := zT_tb (i := 630) (by decide +kernel) (by decide +kernel)
theorem ml_X0_174 : Cond.methodLink RX0 174 yX0_unread ∈ zT := zT_tb (i := 634) (by decide +kernel) (by decide +kernel)
theorem ml_X0_177 : Cond.methodLink RX0 177 yJ9_min_7cf53 ∈ zT := zT_tb (i := 635) (by decide +kernel) (by decide +kernel)
theorem ml_L_47 : Cond.methodLink RL 47 yL_told ∈ zT := zT_tb (i := 636) (by decide +kernel) (by decide +kernel)
theorem ml_L_113 : Cond.methodLink RL 113 yX8_sheet ∈ zT := zT_tb (i := 639) (by decide +kernel) (by decide +kernel)
theorem ml_X8_266 : Cond.methodLink RX8 266 yX8_noSheet ∈ zT := zT_tb (i := 643) (by decide +kernel) (by decide +kernel)
theorem ml_X8_269 : Cond.methodLink RX8 269 yX8_noLane ∈ zT := zT_tb (i := 646) (by decide +kernel) (by decide +kernel)
theorem ml_X8_292 : Cond.methodLink RX8 292 yX6_renew ∈ zT := zT_tb (i := 649) (by decide +kernel) (by decide +kernel)
theorem ml_X6_22 : Cond.methodLink RX6 22 yJ7_fill_d0a16 ∈ zT := zT_tb (i := 653) (by decide +kernel) (by decide +kernel)
theorem ml_L_116 : Cond.methodLink RL 116 yX8_item ∈ zT := zT_tb (i := 656) (by decide +kernel) (by decide +kernel)
theorem ml_X8_272 : Cond.methodLink RX8 272 yX6_refusal ∈ zT := zT_tb (i := 660) (by decide +kernel) (by decide +kernel)
theorem ml_X6_28 : Cond.methodLink RX6 28 yX6_lacks ∈ zT := zT_tb (i := 664) (by decide +kernel) (by decide +kernel)
theorem ml_X8_288 : Cond.methodLink RX8 288 yX6_put ∈ zT := zT_tb (i := 668) (by decide +kernel) (by decide +kernel)
theorem ml_L_120 : Cond.methodLink RL 120 yX8_got ∈ zT := zT_tb (i := 672) (by decide +kernel) (by decide +kernel)
theorem ml_X8_276 : Cond.methodLink RX8 276 yX8_toldLetters ∈ zT := zT_tb (i := 676) (by decide +kernel) (by decide +kernel)
theorem ml_X8_284 : Cond.methodLink RX8 284 yX4_open ∈ zT := zT_tb (i := 680) (by decide +kernel) (by decide +kernel)
theorem ml_L_124 : Cond.methodLink RL 124 yX8_film ∈ zT := zT_tb (i := 681) (by decide +kernel) (by decide +kernel)
theorem ml_L_128 : Cond.methodLink RL 128 yX8_drop ∈ zT := zT_tb (i := 685) (by decide +kernel) (by decide +kernel)
theorem ml_L_57 : Cond.methodLink RL 57 yL_drifts ∈ zT := zT_tb (i := 689) (by decide +kernel) (by decide +kernel)
theorem ml_L_131 : Cond.methodLink RL 131 yX8_seed ∈ zT := zT_tb (i := 692) (by decide +kernel) (by decide +kernel)
theorem ml_L_134 : Cond.methodLink RL 134 yX8_drift ∈ zT := zT_tb (i := 696) (by decide +kernel) (by decide +kernel)
theorem ml_X8_248 : Cond.methodLink RX8 248 yX8_driftOnce ∈ zT := zT_tb (i := 700) (by decide +kernel) (by decide +kernel)
theorem kc_X8_332 : Cond.constant RX8 332 (1103515245) ∈ zT := zT_tb (i := 704) (by decide +kernel) (by decide +kernel)
theorem kc_X8_333 : Cond.constant RX8 333 (2147483647) ∈ zT := zT_tb (i := 705) (by decide +kernel) (by decide +kernel)
theorem ml_X8_318 : Cond.methodLink RX8 318 yX0_tryBatch ∈ zT := zT_tb (i := 706) (by decide +kernel) (by decide +kernel)
theorem ml_X0_130 : Cond.methodLink RX0 130 yX0_batchRefusal ∈ zT := zT_tb (i := 710) (by decide +kernel) (by decide +kernel)
theorem ml_X0_133 : Cond.methodLink RX0 133 yX0_changeAll ∈ zT := zT_tb (i := 711) (by decide +kernel) (by decide +kernel)
theorem ml_X8_329 : Cond.methodLink RX8 329 yX0_tryLeave ∈ zT := zT_tb (i := 712) (by decide +kernel) (by decide +kernel)
theorem ml_X0_124 : Cond.methodLink RX0 124 yX0_mayLeave ∈ zT := zT_tb (i := 716) (by decide +kernel) (by decide +kernel)
theorem ml_X0_127 : Cond.methodLink RX0 127 yX0_addLeaver ∈ zT := zT_tb (i := 717) (by decide +kernel) (by decide +kernel)
theorem ml_X8_326 : Cond.methodLink RX8 326 yX0_tryCome ∈ zT := zT_tb (i := 718) (by decide +kernel) (by decide +kernel)
theorem ml_X0_117 : Cond.methodLink RX0 117 yX0_mayCome ∈ zT := zT_tb (i := 722) (by decide +kernel) (by decide +kernel)
theorem ml_X0_120 : Cond.methodLink RX0 120 yX0_addComer ∈ zT := zT_tb (i := 723) (by decide +kernel) (by decide +kernel)
theorem ml_L_137 : Cond.methodLink RL 137 yX8_undo ∈ zT := zT_tb (i := 724) (by decide +kernel) (by decide +kernel)
theorem ml_X8_251 : Cond.methodLink RX8 251 yX3_goBack ∈ zT := zT_tb (i := 728) (by decide +kernel) (by decide +kernel)
theorem mtX8_init : zMi yX8_init cX8_init 2 0 := ⟨zT_tb (i := 18) (by decide +kernel) (by decide +kernel), zT_tb (i := 1) (by decide +kernel) (by decide +kernel), zT_tb (i := 17) (by decide +kernel) (by decide +kernel), by decide +kernel, ⟨by decide +kernel, by decide +kernel, by decide +kernel⟩⟩
theorem mtX0_init : zMi yX0_init cX0_init 1 0 := ⟨zT_tb (i := 26) (by decide +kernel) (by decide +kernel), zT_tb (i := 2) (by decide +kernel) (by decide +kernel), zT_tb (i := 25) (by decide +kernel) (by decide +kernel), by decide +kernel, ⟨by decide +kernel, by decide +kernel, by decide +kernel⟩⟩
theorem mtX5_init : zMi yX5_init cX5_init 1 0 := ⟨zT_tb (i := 32) (by decide +kernel) (by decide +kernel), zT_tb (i := 3) (by decide +kernel) (by decide +kernel), zT_tb (i := 31) (by decide +kernel) (by decide +kernel), by decide +kernel, ⟨by decide +kernel, by decide +kernel, by decide +kernel⟩⟩
theorem mtX1_init : zMi yX1_init cX1_init 1 0 := ⟨zT_tb (i := 50) (by decide +kernel) (by decide +kernel), zT_tb (i := 4) (by decide +kernel) (by decide +kernel), zT_tb (i := 49) (by decide +kernel) (by decide +kernel), by decide +kernel, ⟨by decide +kernel, by decide +kernel, by decide +kernel⟩⟩
theorem mtJ7_fill_53178 : zMs yJ7_fill_53178 cJ7_fill_53178 4 none 2 := ⟨zT_tb (i := 54) (by decide +kernel) (by decide +kernel), zT_tb (i := 5) (by decide +kernel) (by decide +kernel), zT_tb (i := 53) (by decide +kernel) (by decide +kernel), ⟨by decide +kernel, by decide +kernel, by decide +kernel⟩⟩
theorem mtX2_init : zMi yX2_init cX2_init 1 0 := ⟨zT_tb (i := 84) (by decide +kernel) (by decide +kernel), zT_tb (i := 6) (by decide +kernel) (by decide +kernel), zT_tb (i := 83) (by decide +kernel) (by decide +kernel), by decide +kernel, ⟨by decide +kernel, by decide +kernel, by decide +kernel⟩⟩
theorem mtX3_init : zMi yX3_init cX3_init 2 0 := ⟨zT_tb (i := 157) (by decide +kernel) (by decide +kernel), zT_tb (i := 7) (by decide +kernel) (by decide +kernel), zT_tb (i := 156) (by decide +kernel) (by decide +kernel), by decide +kernel, ⟨by decide +kernel, by decide +kernel, by decide +kernel⟩⟩
theorem mtX7_init : zMi yX7_init cX7_init 1 0 := ⟨zT_tb (i := 177) (by decide +kernel) (by decide +kernel), zT_tb (i := 8) (by decide +kernel) (by decide +kernel), zT_tb (i := 176) (by decide +kernel) (by decide +kernel), by decide +kernel, ⟨by decide +kernel, by decide +kernel, by decide +kernel⟩⟩
theorem mtX4_init : zMi yX4_init cX4_init 1 0 := ⟨zT_tb (i := 194) (by decide +kernel) (by decide +kernel), zT_tb (i := 9) (by decide +kernel) (by decide +kernel), zT_tb (i := 193) (by decide +kernel) (by decide +kernel), by decide +kernel, ⟨by decide +kernel, by decide +kernel, by decide +kernel⟩⟩
theorem mtX6_init : zMi yX6_init cX6_init 1 0 := ⟨zT_tb (i := 207) (by decide +kernel) (by decide +kernel), zT_tb (i := 10) (by decide +kernel) (by decide +kernel), zT_tb (i := 206) (by decide +kernel) (by decide +kernel), by decide +kernel, ⟨by decide +kernel, by decide +kernel, by decide +kernel⟩⟩
theorem mtX8_begin : zMv yX8_begin cX8_begin 2 (some .int) 0 := ⟨zT_tb (i := 254) (by decide +kernel) (by decide +kernel), zT_tb (i := 1) (by decide +kernel) (by decide +kernel), zT_tb (i := 252) (by decide +kernel) (by decide +kernel), zT_tb (i := 253) (by decide +kernel) (by decide +kernel), ⟨by decide +kernel, by decide +kernel, by decide +kernel⟩⟩
theorem mtX3_keep : zMv yX3_keep cX3_keep 2 none 1 := ⟨zT_tb (i := 258) (by decide +kernel) (by decide +kernel), zT_tb (i := 7) (by decide +kernel) (by decide +kernel), zT_tb (i := 256) (by decide +kernel) (by decide +kernel), zT_tb (i := 257) (by decide +kernel) (by decide +kernel), ⟨by decide +kernel, by decide +kernel, by decide +kernel⟩⟩
theorem mtX0_take : zMv yX0_take cX0_take 2 none 1 := ⟨zT_tb (i := 262) (by decide +kernel) (by decide +kernel), zT_tb (i := 2) (by decide +kernel) (by decide +kernel), zT_tb (i := 260) (by decide +kernel) (by decide +kernel), zT_tb (i := 261) (by decide +kernel) (by decide +kernel), ⟨by decide +kernel, by decide +kernel, by decide +kernel⟩⟩
theorem mtX5_take : zMv yX5_take cX5_take 2 none 1 := ⟨zT_tb (i := 266) (by decide +kernel) (by decide +kernel), zT_tb (i := 3) (by decide +kernel) (by decide +kernel), zT_tb (i := 264) (by decide +kernel) (by decide +kernel), zT_tb (i := 265) (by decide +kernel) (by decide +kernel), ⟨by decide +kernel, by decide +kernel, by decide +kernel⟩⟩
theorem mtX1_take : zMv yX1_take cX1_take 2 none 1 := ⟨zT_tb (i := 273) (by decide +kernel) (by decide +kernel), zT_tb (i := 4) (by decide +kernel) (by decide +kernel), zT_tb (i := 271) (by decide +kernel) (by decide +kernel), zT_tb (i := 272) (by decide +kernel) (by decide +kernel), ⟨by decide +kernel, by decide +kernel, by decide +kernel⟩⟩
theorem mtX2_take : zMv yX2_take cX2_take 2 none 1 := ⟨zT_tb (i := 278) (by decide +kernel) (by decide +kernel), zT_tb (i := 6) (by decide +kernel) (by decide +kernel), zT_tb (i := 276) (by decide +kernel) (by decide +kernel), zT_tb (i := 277) (by decide +kernel) (by decide +kernel), ⟨by decide +kernel, by decide +kernel, by decide +kernel⟩⟩
theorem mtJ9_min_7cf53 : zMs yJ9_min_7cf53 cJ9_min_7cf53 2 (some .int) 2 := ⟨zT_tb (i := 283) (by decide +kernel) (by decide +kernel), zT_tb (i := 12) (by decide +kernel) (by decide +kernel), zT_tb (i := 282) (by decide +kernel) (by decide +kernel), ⟨by decide +kernel, by decide +kernel, by decide +kernel⟩⟩
theorem mtX0_beginAnew : zMv yX0_beginAnew cX0_beginAnew 1 none 0 := ⟨zT_tb (i := 287) (by decide +kernel) (by decide +kernel), zT_tb (i := 2) (by decide +kernel) (by decide +kernel), zT_tb (i := 285) (by decide +kernel) (by decide +kernel), zT_tb (i := 286) (by decide +kernel) (by decide +kernel), ⟨by decide +kernel, by decide +kernel, by decide +kernel⟩⟩
theorem mtX5_clear : zMv yX5_clear cX5_clear 1 none 0 := ⟨zT_tb (i := 291) (by decide +kernel) (by decide +kernel), zT_tb (i := 3) (by decide +kernel) (by decide +kernel), zT_tb (i := 289) (by decide +kernel) (by decide +kernel), zT_tb (i := 290) (by decide +kernel) (by decide +kernel), ⟨by decide +kernel, by decide +kernel, by decide +kernel⟩⟩
theorem mtX1_clear : zMv yX1_clear cX1_clear 1 none 0 := ⟨zT_tb (i := 296) (by decide +kernel) (by decide +kernel), zT_tb (i := 4) (by decide +kernel) (by decide +kernel), zT_tb (i := 294) (by decide +kernel) (by decide +kernel), zT_tb (i := 295) (by decide +kernel) (by decide +kernel), ⟨by decide +kernel, by decide +kernel, by decide +kernel⟩⟩
theorem mtX8_count : zMv yX8_count cX8_count 2 (some .int) 1 := ⟨zT_tb (i := 300) (by decide +kernel) (by decide +kernel), zT_tb (i := 1) (by decide +kernel) (by decide +kernel), zT_tb (i := 298) (by decide +kernel) (by decide +kernel), zT_tb (i := 299) (by decide +kernel) (by decide +kernel), ⟨by decide +kernel, by decide +kernel, by decide +kernel⟩⟩
theorem mtX5_all : zMv yX5_all cX5_all 1 (some .int) 0 := ⟨zT_tb (i := 304) (by decide +kernel) (by decide +kernel), zT_tb (i := 3) (by decide +kernel) (by decide +kernel), zT_tb (i := 302) (by decide +kernel) (by decide +kernel), zT_tb (i := 303) (by decide +kernel) (by decide +kernel), ⟨by decide +kernel, by decide +kernel, by decide +kernel⟩⟩
theorem mtX0_groupKey : zMv yX0_groupKey cX0_groupKey 1 (some .int) 0 := ⟨zT_tb (i := 308) (by decide +kernel) (by decide +kernel), zT_tb (i := 2) (by decide +kernel) (by decide +kernel), zT_tb (i := 306) (by decide +kernel) (by decide +kernel), zT_tb (i := 307) (by decide +kernel) (by decide +kernel), ⟨by decide +kernel, by decide +kernel, by decide +kernel⟩⟩
theorem mtX1_holdersOf : zMv yX1_holdersOf cX1_holdersOf 2 (some .int) 1 := ⟨zT_tb (i := 312) (by decide +kernel) (by decide +kernel), zT_tb (i := 4) (by decide +kernel) (by decide +kernel), zT_tb (i := 310) (by decide +kernel) (by decide +kernel), zT_tb (i := 311) (by decide +kernel) (by decide +kernel), ⟨by decide +kernel, by decide +kernel, by decide +kernel⟩⟩
theorem mtX1_known : zMv yX1_known cX1_known 2 (some .boolean) 1 := ⟨zT_tb (i := 316) (by decide +kernel) (by decide +kernel), zT_tb (i := 4) (by decide +kernel) (by decide +kernel), zT_tb (i := 314) (by decide +kernel) (by decide +kernel), zT_tb (i := 315) (by decide +kernel) (by decide +kernel), ⟨by decide +kernel, by decide +kernel, by decide +kernel⟩⟩
theorem mtX8_image : zMv yX8_image cX8_image 1 (some .int) 0 := ⟨zT_tb (i := 320) (by decide +kernel) (by decide +kernel), zT_tb (i := 1) (by decide +kernel) (by decide +kernel), zT_tb (i := 318) (by decide +kernel) (by decide +kernel), zT_tb (i := 319) (by decide +kernel) (by decide +kernel), ⟨by decide +kernel, by decide +kernel, by decide +kernel⟩⟩
theorem mtX3_take : zMv yX3_take cX3_take 3 none 1 := ⟨zT_tb (i := 325) (by decide +kernel) (by decide +kernel), zT_tb (i := 7) (by decide +kernel) (by decide +kernel), zT_tb (i := 323) (by decide +kernel) (by decide +kernel), zT_tb (i := 324) (by decide +kernel) (by decide +kernel), ⟨by decide +kernel, by decide +kernel, by decide +kernel⟩⟩
theorem mtX8_restore : zMv yX8_restore cX8_restore 1 (some .int) 0 := ⟨zT_tb (i := 329) (by decide +kernel) (by decide +kernel), zT_tb (i := 1) (by decide +kernel) (by decide +kernel), zT_tb (i := 327) (by decide +kernel) (by decide +kernel), zT_tb (i := 328) (by decide +kernel) (by decide +kernel), ⟨by decide +kernel, by decide +kernel, by decide +kernel⟩⟩
theorem mtL_cell : zMs yL_cell cL_cell 2 (some .int) 2 := ⟨zT_tb (i := 332) (by decide +kernel) (by decide +kernel), zT_tb (i := 0) (by decide +kernel) (by decide +kernel), zT_tb (i := 331) (by decide +kernel) (by decide +kernel), ⟨by decide +kernel, by decide +kernel, by decide +kernel⟩⟩
theorem mtL_mark : zMs yL_mark cL_mark 3 (some .int) 1 := ⟨zT_tb (i := 337) (by decide +kernel) (by decide +kernel), zT_tb (i := 0) (by decide +kernel) (by decide +kernel), zT_tb (i := 336) (by decide +kernel) (by decide +kernel), ⟨by decide +kernel, by decide +kernel, by decide +kernel⟩⟩
theorem mtX8_key : zMv yX8_key cX8_key 4 (some .int) 2 := ⟨zT_tb (i := 341) (by decide +kernel) (by decide +kernel), zT_tb (i := 1) (by decide +kernel) (by decide +kernel), zT_tb (i := 339) (by decide +kernel) (by decide +kernel), zT_tb (i := 340) (by decide +kernel) (by decide +kernel), ⟨by decide +kernel, by decide +kernel, by decide +kernel⟩⟩
theorem mtX8_letter : zMv yX8_letter cX8_letter 3 (some .int) 2 := ⟨zT_tb (i := 346) (by decide +kernel) (by decide +kernel), zT_tb (i := 1) (by decide +kernel) (by decide +kernel), zT_tb (i := 344) (by decide +kernel) (by decide +kernel), zT_tb (i := 345) (by decide +kernel) (by decide +kernel), ⟨by decide +kernel, by decide +kernel, by decide +kernel⟩⟩
theorem mtX2_known : zMv yX2_known cX2_known 2 (some .boolean) 1 := ⟨zT_tb (i := 350) (by decide +kernel) (by decide +kernel), zT_tb (i := 6) (by decide +kernel) (by decide +kernel), zT_tb (i := 348) (by decide +kernel) (by decide +kernel), zT_tb (i := 349) (by decide +kernel) (by decide +kernel), ⟨by decide +kernel, by decide +kernel, by decide +kernel⟩⟩
theorem mtL_level : zMs yL_level cL_level 8 (some .boolean) 2 := ⟨zT_tb (i := 353) (by decide +kernel) (by decide +kernel), zT_tb (i := 0) (by decide +kernel) (by decide +kernel), zT_tb (i := 352) (by decide +kernel) (by decide +kernel), ⟨by decide +kernel, by decide +kernel, by decide +kernel⟩⟩
theorem mtX8_come : zMv yX8_come cX8_come 2 (some .int) 1 := ⟨zT_tb (i := 357) (by decide +kernel) (by decide +kernel), zT_tb (i := 1) (by decide +kernel) (by decide +kernel), zT_tb (i := 355) (by decide +kernel) (by decide +kernel), zT_tb (i := 356) (by decide +kernel) (by decide +kernel), ⟨by decide +kernel, by decide +kernel, by decide +kernel⟩⟩
theorem mtX8_noMember : zMs yX8_noMember cX8_noMember 1 (some .boolean) 1 := ⟨zT_tb (i := 360) (by decide +kernel) (by decide +kernel), zT_tb (i := 1) (by decide +kernel) (by decide +kernel), zT_tb (i := 359) (by decide +kernel) (by decide +kernel), ⟨by decide +kernel, by decide +kernel, by decide +kernel⟩⟩
theorem mtX0_mayCome : zMv yX0_mayCome cX0_mayCome 2 (some .boolean) 1 := ⟨zT_tb (i := 364) (by decide +kernel) (by decide +kernel), zT_tb (i := 2) (by decide +kernel) (by decide +kernel), zT_tb (i := 362) (by decide +kernel) (by decide +kernel), zT_tb (i := 363) (by decide +kernel) (by decide +kernel), ⟨by decide +kernel, by decide +kernel, by decide +kernel⟩⟩
theorem mtX5_sits : zMv yX5_sits cX5_sits 2 (some .boolean) 1 := ⟨zT_tb (i := 368) (by decide +kernel) (by decide +kernel), zT_tb (i := 3) (by decide +kernel) (by decide +kernel), zT_tb (i := 366) (by decide +kernel) (by decide +kernel), zT_tb (i := 367) (by decide +kernel) (by decide +kernel), ⟨by decide +kernel, by decide +kernel, by decide +kernel⟩⟩
theorem mtX8_has : zMs yX8_has cX8_has 2 (some .boolean) 2 := ⟨zT_tb (i := 371) (by decide +kernel) (by decide +kernel), zT_tb (i := 1) (by decide +kernel) (by decide +kernel), zT_tb (i := 370) (by decide +kernel) (by decide +kernel), ⟨by decide +kernel, by decide +kernel, by decide +kernel⟩⟩
theorem mtX8_bit : zMs yX8_bit cX8_bit 2 (some .int) 2 := ⟨zT_tb (i := 374) (by decide +kernel) (by decide +kernel), zT_tb (i := 1) (by decide +kernel) (by decide +kernel), zT_tb (i := 373) (by decide +kernel) (by decide +kernel), ⟨by decide +kernel, by decide +kernel, by decide +kernel⟩⟩
theorem mtX0_addComer : zMv yX0_addComer cX0_addComer 2 none 1 := ⟨zT_tb (i := 378) (by decide +kernel) (by decide +kernel), zT_tb (i := 2) (by decide +kernel) (by decide +kernel), zT_tb (i := 376) (by decide +kernel) (by decide +kernel), zT_tb (i := 377) (by decide +kernel) (by decide +kernel), ⟨by decide +kernel, by decide +kernel, by decide +kernel⟩⟩
theorem mtJ6_bitCount_0f7a4 : zMs yJ6_bitCount_0f7a4 cJ6_bitCount_0f7a4 1 (some .int) 1 := ⟨zT_tb (i := 381) (by decide +kernel) (by decide +kernel), zT_tb (i := 13) (by decide +kernel) (by decide +kernel), zT_tb (i := 380) (by decide +kernel) (by decide +kernel), ⟨by decide +kernel, by decide +kernel, by decide +kernel⟩⟩
theorem mtX8_due : zMv yX8_due cX8_due 2 (some .int) 1 := ⟨zT_tb (i := 388) (by decide +kernel) (by decide +kernel), zT_tb (i := 1) (by decide +kernel) (by decide +kernel), zT_tb (i := 386) (by decide +kernel) (by decide +kernel), zT_tb (i := 387) (by decide +kernel) (by decide +kernel), ⟨by decide +kernel, by decide +kernel, by decide +kernel⟩⟩
theorem mtX5_move : zMv yX5_move cX5_move 7 (some .int) 2 := ⟨zT_tb (i := 393) (by decide +kernel) (by decide +kernel), zT_tb (i := 3) (by decide +kernel) (by decide +kernel), zT_tb (i := 391) (by decide +kernel) (by decide +kernel), zT_tb (i := 392) (by decide +kernel) (by decide +kernel), ⟨by decide +kernel, by decide +kernel, by decide +kernel⟩⟩
theorem mtX5_stand : zMv yX5_stand cX5_stand 3 none 1 := ⟨zT_tb (i := 398) (by decide +kernel) (by decide +kernel), zT_tb (i := 3) (by decide +kernel) (by decide +kernel), zT_tb (i := 397) (by decide +kernel) (by decide +kernel), zT_pr (i := 0) (by decide +kernel) (by decide +kernel), ⟨by decide +kernel, by decide +kernel, by decide +kernel⟩⟩
theorem mtX5_pathFrom : zMs yX5_pathFrom cX5_pathFrom 3 (some .int) 1 := ⟨zT_tb (i := 401) (by decide +kernel) (by decide +kernel), zT_tb (i := 3) (by decide +kernel) (by decide +kernel), zT_tb (i := 400) (by decide +kernel) (by decide +kernel), ⟨by decide +kernel, by decide +kernel, by decide +kernel⟩⟩
theorem mtX5_emptiestLeaf : zMv yX5_emptiestLeaf cX5_emptiestLeaf 4 (some .int) 0 := ⟨zT_tb (i := 405) (by decide +kernel) (by decide +kernel), zT_tb (i := 3) (by decide +kernel) (by decide +kernel), zT_tb (i := 404) (by decide +kernel) (by decide +kernel), zT_pr (i := 1) (by decide +kernel) (by decide +kernel), ⟨by decide +kernel, by decide +kernel, by decide +kernel⟩⟩
theorem mtJ6_numberOfTrailingZeros_0f7a4 : zMs yJ6_numberOfTrailingZeros_0f7a4 cJ6_numberOfTrailingZeros_0f7a4 2 (some .int) 1 := ⟨zT_tb (i := 409) (by decide +kernel) (by decide +kernel), zT_tb (i := 13) (by decide +kernel) (by decide +kernel), zT_tb (i := 408) (by decide +kernel) (by decide +kernel), ⟨by decide +kernel, by decide +kernel, by decide +kernel⟩⟩
theorem mtX5_sit : zMv yX5_sit cX5_sit 4 none 2 := ⟨zT_tb (i := 414) (by decide +kernel) (by decide +kernel), zT_tb (i := 3) (by decide +kernel) (by decide +kernel), zT_tb (i := 413) (by decide +kernel) (by decide +kernel), zT_pr (i := 2) (by decide +kernel) (by decide +kernel), ⟨by decide +kernel, by decide +kernel, by decide +kernel⟩⟩
theorem mtX5_lettersFor : zMv yX5_lettersFor cX5_lettersFor 4 (some .int) 1 := ⟨zT_tb (i := 418) (by decide +kernel) (by decide +kernel), zT_tb (i := 3) (by decide +kernel) (by decide +kernel), zT_tb (i := 416) (by decide +kernel) (by decide +kernel), zT_tb (i := 417) (by decide +kernel) (by decide +kernel), ⟨by decide +kernel, by decide +kernel, by decide +kernel⟩⟩
theorem mtX5_live : zMv yX5_live cX5_live 2 (some .boolean) 1 := ⟨zT_tb (i := 422) (by decide +kernel) (by decide +kernel), zT_tb (i := 3) (by decide +kernel) (by decide +kernel), zT_tb (i := 420) (by decide +kernel) (by decide +kernel), zT_tb (i := 421) (by decide +kernel) (by decide +kernel), ⟨by decide +kernel, by decide +kernel, by decide +kernel⟩⟩
theorem mtX8_planSingles : zMv yX8_planSingles cX8_planSingles 3 (some .int) 0 := ⟨zT_tb (i := 426) (by decide +kernel) (by decide +kernel), zT_tb (i := 1) (by decide +kernel) (by decide +kernel), zT_tb (i := 425) (by decide +kernel) (by decide +kernel), zT_pr (i := 3) (by decide +kernel) (by decide +kernel), ⟨by decide +kernel, by decide +kernel, by decide +kernel⟩⟩
theorem mtX8_batch : zMv yX8_batch cX8_batch 2 (some .int) 0 := ⟨zT_tb (i := 430) (by decide +kernel) (by decide +kernel), zT_tb (i := 1) (by decide +kernel) (by decide +kernel), zT_tb (i := 428) (by decide +kernel) (by decide +kernel), zT_tb (i := 429) (by decide +kernel) (by decide +kernel), ⟨by decide +kernel, by decide +kernel, by decide +kernel⟩⟩
theorem mtX0_batchRefusal : zMv yX0_batchRefusal cX0_batchRefusal 1 (some .int) 0 := ⟨zT_tb (i := 434) (by decide +kernel) (by decide +kernel), zT_tb (i := 2) (by decide +kernel) (by decide +kernel), zT_tb (i := 432) (by decide +kernel) (by decide +kernel), zT_tb (i := 433) (by decide +kernel) (by decide +kernel), ⟨by decide +kernel, by decide +kernel, by decide +kernel⟩⟩
theorem mtX0_fullRefusal : zMv yX0_fullRefusal cX0_fullRefusal 1 (some .int) 0 := ⟨zT_tb (i := 438) (by decide +kernel) (by decide +kernel), zT_tb (i := 2) (by decide +kernel) (by decide +kernel), zT_tb (i := 437) (by decide +kernel) (by decide +kernel), zT_pr (i := 4) (by decide +kernel) (by decide +kernel), ⟨by decide +kernel, by decide +kernel, by decide +kernel⟩⟩
theorem mtX0_changeAll : zMv yX0_changeAll cX0_changeAll 4 (some .int) 0 := ⟨zT_tb (i := 442) (by decide +kernel) (by decide +kernel), zT_tb (i := 2) (by decide +kernel) (by decide +kernel), zT_tb (i := 440) (by decide +kernel) (by decide +kernel), zT_tb (i := 441) (by decide +kernel) (by decide +kernel), ⟨by decide +kernel, by decide +kernel, by decide +kernel⟩⟩
theorem mtX1_renew : zMv yX1_renew cX1_renew 5 none 3 := ⟨zT_tb (i := 447) (by decide +kernel) (by decide +kernel), zT_tb (i := 4) (by decide +kernel) (by decide +kernel), zT_tb (i := 445) (by decide +kernel) (by decide +kernel), zT_tb (i := 446) (by decide +kernel) (by decide +kernel), ⟨by decide +kernel, by decide +kernel, by decide +kernel⟩⟩
theorem mtX1_add : zMv yX1_add cX1_add 3 (some .int) 2 := ⟨zT_tb (i := 453) (by decide +kernel) (by decide +kernel), zT_tb (i := 4) (by decide +kernel) (by decide +kernel), zT_tb (i := 452) (by decide +kernel) (by decide +kernel), zT_pr (i := 5) (by decide +kernel) (by decide +kernel), ⟨by decide +kernel, by decide +kernel, by decide +kernel⟩⟩
theorem mtX1_give : zMv yX1_give cX1_give 3 none 2 := ⟨zT_tb (i := 457) (by decide +kernel) (by decide +kernel), zT_tb (i := 4) (by decide +kernel) (by decide +kernel), zT_tb (i := 455) (by decide +kernel) (by decide +kernel), zT_tb (i := 456) (by decide +kernel) (by decide +kernel), ⟨by decide +kernel, by decide +kernel, by decide +kernel⟩⟩
theorem mtX0_tellChanged : zMv yX0_tellChanged cX0_tellChanged 3 none 1 := ⟨zT_tb (i := 461) (by decide +kernel) (by decide +kernel), zT_tb (i := 2) (by decide +kernel) (by decide +kernel), zT_tb (i := 460) (by decide +kernel) (by decide +kernel), zT_pr (i := 6) (by decide +kernel) (by decide +kernel), ⟨by decide +kernel, by decide +kernel, by decide +kernel⟩⟩
theorem mtX0_tell : zMv yX0_tell cX0_tell 3 none 2 := ⟨zT_tb (i := 465) (by decide +kernel) (by decide +kernel), zT_tb (i := 2) (by decide +kernel) (by decide +kernel), zT_tb (i := 464) (by decide +kernel) (by decide +kernel), zT_pr (i := 7) (by decide +kernel) (by decide +kernel), ⟨by decide +kernel, by decide +kernel, by decide +kernel⟩⟩
theorem mtX2_add : zMv yX2_add cX2_add 4 none 3 := ⟨zT_tb (i := 470) (by decide +kernel) (by decide +kernel), zT_tb (i := 6) (by decide +kernel) (by decide +kernel), zT_tb (i := 468) (by decide +kernel) (by decide +kernel), zT_tb (i := 469) (by decide +kernel) (by decide +kernel), ⟨by decide +kernel, by decide +kernel, by decide +kernel⟩⟩
theorem mtX0_readByAll : zMv yX0_readByAll cX0_readByAll 2 none 0 := ⟨zT_tb (i := 474) (by decide +kernel) (by decide +kernel), zT_tb (i := 2) (by decide +kernel) (by decide +kernel), zT_tb (i := 473) (by decide +kernel) (by decide +kernel), zT_pr (i := 8) (by decide +kernel) (by decide +kernel), ⟨by decide +kernel, by decide +kernel, by decide +kernel⟩⟩
theorem mtX0_isAwake : zMv yX0_isAwake cX0_isAwake 2 (some .boolean) 1 := ⟨zT_tb (i := 478) (by decide +kernel) (by decide +kernel), zT_tb (i := 2) (by decide +kernel) (by decide +kernel), zT_tb (i := 476) (by decide +kernel) (by decide +kernel), zT_tb (i := 477) (by decide +kernel) (by decide +kernel), ⟨by decide +kernel, by decide +kernel, by decide +kernel⟩⟩
theorem mtX0_readUnread : zMv yX0_readUnread cX0_readUnread 5 (some .int) 1 := ⟨zT_tb (i := 482) (by decide +kernel) (by decide +kernel), zT_tb (i := 2) (by decide +kernel) (by decide +kernel), zT_tb (i := 481) (by decide +kernel) (by decide +kernel), zT_pr (i := 9) (by decide +kernel) (by decide +kernel), ⟨by decide +kernel, by decide +kernel, by decide +kernel⟩⟩
theorem mtX1_held : zMv yX1_held cX1_held 3 (some .boolean) 2 := ⟨zT_tb (i := 486) (by decide +kernel) (by decide +kernel), zT_tb (i := 4) (by decide +kernel) (by decide +kernel), zT_tb (i := 484) (by decide +kernel) (by decide +kernel), zT_tb (i := 485) (by decide +kernel) (by decide +kernel), ⟨by decide +kernel, by decide +kernel, by decide +kernel⟩⟩
theorem mtX8_node : zMv yX8_node cX8_node 4 (some .int) 2 := ⟨zT_tb (i := 491) (by decide +kernel) (by decide +kernel), zT_tb (i := 1) (by decide +kernel) (by decide +kernel), zT_tb (i := 489) (by decide +kernel) (by decide +kernel), zT_tb (i := 490) (by decide +kernel) (by decide +kernel), ⟨by decide +kernel, by decide +kernel, by decide +kernel⟩⟩
theorem mtL_bits : zMs yL_bits cL_bits 3 (some .int) 1 := ⟨zT_tb (i := 494) (by decide +kernel) (by decide +kernel), zT_tb (i := 0) (by decide +kernel) (by decide +kernel), zT_tb (i := 493) (by decide +kernel) (by decide +kernel), ⟨by decide +kernel, by decide +kernel, by decide +kernel⟩⟩
theorem mtL_gathers : zMs yL_gathers cL_gathers 7 (some .boolean) 2 := ⟨zT_tb (i := 497) (by decide +kernel) (by decide +kernel), zT_tb (i := 0) (by decide +kernel) (by decide +kernel), zT_tb (i := 496) (by decide +kernel) (by decide +kernel), ⟨by decide +kernel, by decide +kernel, by decide +kernel⟩⟩
theorem mtL_has : zMs yL_has cL_has 2 (some .boolean) 2 := ⟨zT_tb (i := 500) (by decide +kernel) (by decide +kernel), zT_tb (i := 0) (by decide +kernel) (by decide +kernel), zT_tb (i := 499) (by decide +kernel) (by decide +kernel), ⟨by decide +kernel, by decide +kernel, by decide +kernel⟩⟩
theorem mtX8_leave : zMv yX8_leave cX8_leave 2 (some .int) 1 := ⟨zT_tb (i := 504) (by decide +kernel) (by decide +kernel), zT_tb (i := 1) (by decide +kernel) (by decide +kernel), zT_tb (i := 502) (by decide +kernel) (by decide +kernel), zT_tb (i := 503) (by decide +kernel) (by decide +kernel), ⟨by decide +kernel, by decide +kernel, by decide +kernel⟩⟩
theorem mtX0_mayLeave : zMv yX0_mayLeave cX0_mayLeave 2 (some .boolean) 1 := ⟨zT_tb (i := 508) (by decide +kernel) (by decide +kernel), zT_tb (i := 2) (by decide +kernel) (by decide +kernel), zT_tb (i := 506) (by decide +kernel) (by decide +kernel), zT_tb (i := 507) (by decide +kernel) (by decide +kernel), ⟨by decide +kernel, by decide +kernel, by decide +kernel⟩⟩
theorem mtX0_addLeaver : zMv yX0_addLeaver cX0_addLeaver 2 none 1 := ⟨zT_tb (i := 512) (by decide +kernel) (by decide +kernel), zT_tb (i := 2) (by decide +kernel) (by decide +kernel), zT_tb (i := 510) (by decide +kernel) (by decide +kernel), zT_tb (i := 511) (by decide +kernel) (by decide +kernel), ⟨by decide +kernel, by decide +kernel, by decide +kernel⟩⟩
theorem mtX8_member : zMv yX8_member cX8_member 3 (some .int) 2 := ⟨zT_tb (i := 516) (by decide +kernel) (by decide +kernel), zT_tb (i := 1) (by decide +kernel) (by decide +kernel), zT_tb (i := 514) (by decide +kernel) (by decide +kernel), zT_tb (i := 515) (by decide +kernel) (by decide +kernel), ⟨by decide +kernel, by decide +kernel, by decide +kernel⟩⟩
theorem mtX1_heldBy : zMv yX1_heldBy cX1_heldBy 4 (some .int) 1 := ⟨zT_tb (i := 521) (by decide +kernel) (by decide +kernel), zT_tb (i := 4) (by decide +kernel) (by decide +kernel), zT_tb (i := 519) (by decide +kernel) (by decide +kernel), zT_tb (i := 520) (by decide +kernel) (by decide +kernel), ⟨by decide +kernel, by decide +kernel, by decide +kernel⟩⟩
theorem mtX0_unread : zMv yX0_unread cX0_unread 2 (some .int) 1 := ⟨zT_tb (i := 526) (by decide +kernel) (by decide +kernel), zT_tb (i := 2) (by decide +kernel) (by decide +kernel), zT_tb (i := 524) (by decide +kernel) (by decide +kernel), zT_tb (i := 525) (by decide +kernel) (by decide +kernel), ⟨by decide +kernel, by decide +kernel, by decide +kernel⟩⟩
theorem mtL_batch : zMs yL_batch cL_batch 12 (some .boolean) 1 := ⟨zT_tb (i := 529) (by decide +kernel) (by decide +kernel), zT_tb (i := 0) (by decide +kernel) (by decide +kernel), zT_tb (i := 528) (by decide +kernel) (by decide +kernel), ⟨by decide +kernel, by decide +kernel, by decide +kernel⟩⟩
theorem mtL_shut : zMs yL_shut cL_shut 7 (some .boolean) 2 := ⟨zT_tb (i := 532) (by decide +kernel) (by decide +kernel), zT_tb (i := 0) (by decide +kernel) (by decide +kernel), zT_tb (i := 531) (by decide +kernel) (by decide +kernel), ⟨by decide +kernel, by decide +kernel, by decide +kernel⟩⟩
theorem mtX8_opens : zMv yX8_opens cX8_opens 3 (some .int) 2 := ⟨zT_tb (i := 537) (by decide +kernel) (by decide +kernel), zT_tb (i := 1) (by decide +kernel) (by decide +kernel), zT_tb (i := 535) (by decide +kernel) (by decide +kernel), zT_tb (i := 536) (by decide +kernel) (by decide +kernel), ⟨by decide +kernel, by decide +kernel, by decide +kernel⟩⟩
theorem mtX4_take : zMv yX4_take cX4_take 4 none 2 := ⟨zT_tb (i := 542) (by decide +kernel) (by decide +kernel), zT_tb (i := 9) (by decide +kernel) (by decide +kernel), zT_tb (i := 540) (by decide +kernel) (by decide +kernel), zT_tb (i := 541) (by decide +kernel) (by decide +kernel), ⟨by decide +kernel, by decide +kernel, by decide +kernel⟩⟩
theorem mtX4_openAll : zMv yX4_openAll cX4_openAll 5 none 1 := ⟨zT_tb (i := 546) (by decide +kernel) (by decide +kernel), zT_tb (i := 9) (by decide +kernel) (by decide +kernel), zT_tb (i := 544) (by decide +kernel) (by decide +kernel), zT_tb (i := 545) (by decide +kernel) (by decide +kernel), ⟨by decide +kernel, by decide +kernel, by decide +kernel⟩⟩
theorem mtX4_open : zMv yX4_open cX4_open 5 (some .boolean) 2 := ⟨zT_tb (i := 550) (by decide +kernel) (by decide +kernel), zT_tb (i := 9) (by decide +kernel) (by decide +kernel), zT_tb (i := 548) (by decide +kernel) (by decide +kernel), zT_tb (i := 549) (by decide +kernel) (by decide +kernel), ⟨by decide +kernel, by decide +kernel, by decide +kernel⟩⟩
theorem mtX4_has : zMv yX4_has cX4_has 2 (some .boolean) 1 := ⟨zT_tb (i := 554) (by decide +kernel) (by decide +kernel), zT_tb (i := 9) (by decide +kernel) (by decide +kernel), zT_tb (i := 552) (by decide +kernel) (by decide +kernel), zT_tb (i := 553) (by decide +kernel) (by decide +kernel), ⟨by decide +kernel, by decide +kernel, by decide +kernel⟩⟩
theorem mtX4_lacks : zMv yX4_lacks cX4_lacks 2 (some .boolean) 1 := ⟨zT_tb (i := 558) (by decide +kernel) (by decide +kernel), zT_tb (i := 9) (by decide +kernel) (by decide +kernel), zT_tb (i := 557) (by decide +kernel) (by decide +kernel), zT_pr (i := 10) (by decide +kernel) (by decide +kernel), ⟨by decide +kernel, by decide +kernel, by decide +kernel⟩⟩
theorem mtX8_why : zMv yX8_why cX8_why 3 (some .int) 2 := ⟨zT_tb (i := 563) (by decide +kernel) (by decide +kernel), zT_tb (i := 1) (by decide +kernel) (by decide +kernel), zT_tb (i := 561) (by decide +kernel) (by decide +kernel), zT_tb (i := 562) (by decide +kernel) (by decide +kernel), ⟨by decide +kernel, by decide +kernel, by decide +kernel⟩⟩
theorem mtX0_whyShut : zMv yX0_whyShut cX0_whyShut 3 (some .int) 2 := ⟨zT_tb (i := 567) (by decide +kernel) (by decide +kernel), zT_tb (i := 2) (by decide +kernel) (by decide +kernel), zT_tb (i := 565) (by decide +kernel) (by decide +kernel), zT_tb (i := 566) (by decide +kernel) (by decide +kernel), ⟨by decide +kernel, by decide +kernel, by decide +kernel⟩⟩
theorem mtX1_batchOf : zMv yX1_batchOf cX1_batchOf 2 (some .int) 1 := ⟨zT_tb (i := 571) (by decide +kernel) (by decide +kernel), zT_tb (i := 4) (by decide +kernel) (by decide +kernel), zT_tb (i := 569) (by decide +kernel) (by decide +kernel), zT_tb (i := 570) (by decide +kernel) (by decide +kernel), ⟨by decide +kernel, by decide +kernel, by decide +kernel⟩⟩
theorem mtL_newcomer : zMs yL_newcomer cL_newcomer 9 (some .boolean) 2 := ⟨zT_tb (i := 574) (by decide +kernel) (by decide +kernel), zT_tb (i := 0) (by decide +kernel) (by decide +kernel), zT_tb (i := 573) (by decide +kernel) (by decide +kernel), ⟨by decide +kernel, by decide +kernel, by decide +kernel⟩⟩
theorem mtX8_luck : zMv yX8_luck cX8_luck 8 (some .int) 3 := ⟨zT_tb (i := 578) (by decide +kernel) (by decide +kernel), zT_tb (i := 1) (by decide +kernel) (by decide +kernel), zT_tb (i := 576) (by decide +kernel) (by decide +kernel), zT_tb (i := 577) (by decide +kernel) (by decide +kernel), ⟨by decide +kernel, by decide +kernel, by decide +kernel⟩⟩
theorem mtX8_commonOfTen : zMs yX8_commonOfTen cX8_commonOfTen 2 (some .int) 1 := ⟨zT_tb (i := 581) (by decide +kernel) (by decide +kernel), zT_tb (i := 1) (by decide +kernel) (by decide +kernel), zT_tb (i := 580) (by decide +kernel) (by decide +kernel), ⟨by decide +kernel, by decide +kernel, by decide +kernel⟩⟩
theorem mtX0_lettersNeeded : zMv yX0_lettersNeeded cX0_lettersNeeded 5 (some .int) 1 := ⟨zT_tb (i := 585) (by decide +kernel) (by decide +kernel), zT_tb (i := 2) (by decide +kernel) (by decide +kernel), zT_tb (i := 583) (by decide +kernel) (by decide +kernel), zT_tb (i := 584) (by decide +kernel) (by decide +kernel), ⟨by decide +kernel, by decide +kernel, by decide +kernel⟩⟩
theorem mtX1_nodeOf : zMv yX1_nodeOf cX1_nodeOf 2 (some .int) 1 := ⟨zT_tb (i := 589) (by decide +kernel) (by decide +kernel), zT_tb (i := 4) (by decide +kernel) (by decide +kernel), zT_tb (i := 587) (by decide +kernel) (by decide +kernel), zT_tb (i := 588) (by decide +kernel) (by decide +kernel), ⟨by decide +kernel, by decide +kernel, by decide +kernel⟩⟩
theorem mtL_late : zMs yL_late cL_late 9 (some .boolean) 2 := ⟨zT_tb (i := 592) (by decide +kernel) (by decide +kernel), zT_tb (i := 0) (by decide +kernel) (by decide +kernel), zT_tb (i := 591) (by decide +kernel) (by decide +kernel), ⟨by decide +kernel, by decide +kernel, by decide +kernel⟩⟩
theorem mtX8_late : zMv yX8_late cX8_late 5 (some .int) 2 := ⟨zT_tb (i := 596) (by decide +kernel) (by decide +kernel), zT_tb (i := 1) (by decide +kernel) (by decide +kernel), zT_tb (i := 594) (by decide +kernel) (by decide +kernel), zT_tb (i := 595) (by decide +kernel) (by decide +kernel), ⟨by decide +kernel, by decide +kernel, by decide +kernel⟩⟩
theorem mtX0_isAsleep : zMv yX0_isAsleep cX0_isAsleep 2 (some .boolean) 1 := ⟨zT_tb (i := 601) (by decide +kernel) (by decide +kernel), zT_tb (i := 2) (by decide +kernel) (by decide +kernel), zT_tb (i := 599) (by decide +kernel) (by decide +kernel), zT_tb (i := 600) (by decide +kernel) (by decide +kernel), ⟨by decide +kernel, by decide +kernel, by decide +kernel⟩⟩
theorem mtX0_fallAsleep : zMv yX0_fallAsleep cX0_fallAsleep 2 (some .int) 1 := ⟨zT_tb (i := 605) (by decide +kernel) (by decide +kernel), zT_tb (i := 2) (by decide +kernel) (by decide +kernel), zT_tb (i := 603) (by decide +kernel) (by decide +kernel), zT_tb (i := 604) (by decide +kernel) (by decide +kernel), ⟨by decide +kernel, by decide +kernel, by decide +kernel⟩⟩
theorem mtX0_wakeUp : zMv yX0_wakeUp cX0_wakeUp 2 (some .int) 1 := ⟨zT_tb (i := 609) (by decide +kernel) (by decide +kernel), zT_tb (i := 2) (by decide +kernel) (by decide +kernel), zT_tb (i := 607) (by decide +kernel) (by decide +kernel), zT_tb (i := 608) (by decide +kernel) (by decide +kernel), ⟨by decide +kernel, by decide +kernel, by decide +kernel⟩⟩
theorem mtX8_mend : zMv yX8_mend cX8_mend 3 (some .int) 1 := ⟨zT_tb (i := 613) (by decide +kernel) (by decide +kernel), zT_tb (i := 1) (by decide +kernel) (by decide +kernel), zT_tb (i := 611) (by decide +kernel) (by decide +kernel), zT_tb (i := 612) (by decide +kernel) (by decide +kernel), ⟨by decide +kernel, by decide +kernel, by decide +kernel⟩⟩
theorem mtX0_mendRefusal : zMv yX0_mendRefusal cX0_mendRefusal 2 (some .int) 1 := ⟨zT_tb (i := 617) (by decide +kernel) (by decide +kernel), zT_tb (i := 2) (by decide +kernel) (by decide +kernel), zT_tb (i := 615) (by decide +kernel) (by decide +kernel), zT_tb (i := 616) (by decide +kernel) (by decide +kernel), ⟨by decide +kernel, by decide +kernel, by decide +kernel⟩⟩
theorem mtX0_holdsAllAbove : zMv yX0_holdsAllAbove cX0_holdsAllAbove 3 (some .boolean) 1 := ⟨zT_tb (i := 621) (by decide +kernel) (by decide +kernel), zT_tb (i := 2) (by decide +kernel) (by decide +kernel), zT_tb (i := 620) (by decide +kernel) (by decide +kernel), zT_pr (i := 11) (by decide +kernel) (by decide +kernel), ⟨by decide +kernel, by decide +kernel, by decide +kernel⟩⟩
theorem mtX0_mendKeys : zMv yX0_mendKeys cX0_mendKeys 6 (some .int) 1 := ⟨zT_tb (i := 625) (by decide +kernel) (by decide +kernel), zT_tb (i := 2) (by decide +kernel) (by decide +kernel), zT_tb (i := 623) (by decide +kernel) (by decide +kernel), zT_tb (i := 624) (by decide +kernel) (by decide +kernel), ⟨by decide +kernel, by decide +kernel, by decide +kernel⟩⟩
theorem mtX8_lose : zMv yX8_lose cX8_lose 3 (some .int) 2 := ⟨zT_tb (i := 629) (by decide +kernel) (by decide +kernel), zT_tb (i := 1) (by decide +kernel) (by decide +kernel), zT_tb (i := 627) (by decide +kernel) (by decide +kernel), zT_tb (i := 628) (by decide +kernel) (by decide +kernel), ⟨by decide +kernel, by decide +kernel, by decide +kernel⟩⟩
theorem mtX0_loseLetters : zMv yX0_loseLetters cX0_loseLetters 4 (some .int) 2 := ⟨zT_tb (i := 633) (by decide +kernel) (by decide +kernel), zT_tb (i := 2) (by decide +kernel) (by decide +kernel), zT_tb (i := 631) (by decide +kernel) (by decide +kernel), zT_tb (i := 632) (by decide +kernel) (by decide +kernel), ⟨by decide +kernel, by decide +kernel, by decide +kernel⟩⟩
theorem mtL_told : zMs yL_told cL_told 5 (some .boolean) 1 := ⟨zT_tb (i := 638) (by decide +kernel) (by decide +kernel), zT_tb (i := 0) (by decide +kernel) (by decide +kernel), zT_tb (i := 637) (by decide +kernel) (by decide +kernel), ⟨by decide +kernel, by decide +kernel, by decide +kernel⟩⟩
theorem mtX8_sheet : zMv yX8_sheet cX8_sheet 4 (some .int) 3 := ⟨zT_tb (i := 642) (by decide +kernel) (by decide +kernel), zT_tb (i := 1) (by decide +kernel) (by decide +kernel), zT_tb (i := 640) (by decide +kernel) (by decide +kernel), zT_tb (i := 641) (by decide +kernel) (by decide +kernel), ⟨by decide +kernel, by decide +kernel, by decide +kernel⟩⟩
theorem mtX8_noSheet : zMs yX8_noSheet cX8_noSheet 1 (some .boolean) 1 := ⟨zT_tb (i := 645) (by decide +kernel) (by decide +kernel), zT_tb (i := 1) (by decide +kernel) (by decide +kernel), zT_tb (i := 644) (by decide +kernel) (by decide +kernel), ⟨by decide +kernel, by decide +kernel, by decide +kernel⟩⟩
theorem mtX8_noLane : zMs yX8_noLane cX8_noLane 1 (some .boolean) 1 := ⟨zT_tb (i := 648) (by decide +kernel) (by decide +kernel), zT_tb (i := 1) (by decide +kernel) (by decide +kernel), zT_tb (i := 647) (by decide +kernel) (by decide +kernel), ⟨by decide +kernel, by decide +kernel, by decide +kernel⟩⟩
theorem mtX6_renew : zMv yX6_renew cX6_renew 3 none 2 := ⟨zT_tb (i := 652) (by decide +kernel) (by decide +kernel), zT_tb (i := 10) (by decide +kernel) (by decide +kernel), zT_tb (i := 650) (by decide +kernel) (by decide +kernel), zT_tb (i := 651) (by decide +kernel) (by decide +kernel), ⟨by decide +kernel, by decide +kernel, by decide +kernel⟩⟩
theorem mtJ7_fill_d0a16 : zMs yJ7_fill_d0a16 cJ7_fill_d0a16 5 none 2 := ⟨zT_tb (i := 655) (by decide +kernel) (by decide +kernel), zT_tb (i := 5) (by decide +kernel) (by decide +kernel), zT_tb (i := 654) (by decide +kernel) (by decide +kernel), ⟨by decide +kernel, by decide +kernel, by decide +kernel⟩⟩
theorem mtX8_item : zMv yX8_item cX8_item 8 (some .int) 4 := ⟨zT_tb (i := 659) (by decide +kernel) (by decide +kernel), zT_tb (i := 1) (by decide +kernel) (by decide +kernel), zT_tb (i := 657) (by decide +kernel) (by decide +kernel), zT_tb (i := 658) (by decide +kernel) (by decide +kernel), ⟨by decide +kernel, by decide +kernel, by decide +kernel⟩⟩
theorem mtX6_refusal : zMv yX6_refusal cX6_refusal 4 (some .int) 3 := ⟨zT_tb (i := 663) (by decide +kernel) (by decide +kernel), zT_tb (i := 10) (by decide +kernel) (by decide +kernel), zT_tb (i := 661) (by decide +kernel) (by decide +kernel), zT_tb (i := 662) (by decide +kernel) (by decide +kernel), ⟨by decide +kernel, by decide +kernel, by decide +kernel⟩⟩
theorem mtX6_lacks : zMv yX6_lacks cX6_lacks 3 (some .boolean) 2 := ⟨zT_tb (i := 667) (by decide +kernel) (by decide +kernel), zT_tb (i := 10) (by decide +kernel) (by decide +kernel), zT_tb (i := 665) (by decide +kernel) (by decide +kernel), zT_tb (i := 666) (by decide +kernel) (by decide +kernel), ⟨by decide +kernel, by decide +kernel, by decide +kernel⟩⟩
theorem mtX6_put : zMv yX6_put cX6_put 4 none 2 := ⟨zT_tb (i := 671) (by decide +kernel) (by decide +kernel), zT_tb (i := 10) (by decide +kernel) (by decide +kernel), zT_tb (i := 669) (by decide +kernel) (by decide +kernel), zT_tb (i := 670) (by decide +kernel) (by decide +kernel), ⟨by decide +kernel, by decide +kernel, by decide +kernel⟩⟩
theorem mtX8_got : zMv yX8_got cX8_got 10 (some .int) 5 := ⟨zT_tb (i := 675) (by decide +kernel) (by decide +kernel), zT_tb (i := 1) (by decide +kernel) (by decide +kernel), zT_tb (i := 673) (by decide +kernel) (by decide +kernel), zT_tb (i := 674) (by decide +kernel) (by decide +kernel), ⟨by decide +kernel, by decide +kernel, by decide +kernel⟩⟩
theorem mtX8_toldLetters : zMv yX8_toldLetters cX8_toldLetters 7 (some .boolean) 3 := ⟨zT_tb (i := 679) (by decide +kernel) (by decide +kernel), zT_tb (i := 1) (by decide +kernel) (by decide +kernel), zT_tb (i := 678) (by decide +kernel) (by decide +kernel), zT_pr (i := 12) (by decide +kernel) (by decide +kernel), ⟨by decide +kernel, by decide +kernel, by decide +kernel⟩⟩
theorem mtX8_film : zMv yX8_film cX8_film 9 (some .int) 4 := ⟨zT_tb (i := 684) (by decide +kernel) (by decide +kernel), zT_tb (i := 1) (by decide +kernel) (by decide +kernel), zT_tb (i := 682) (by decide +kernel) (by decide +kernel), zT_tb (i := 683) (by decide +kernel) (by decide +kernel), ⟨by decide +kernel, by decide +kernel, by decide +kernel⟩⟩
theorem mtX8_drop : zMv yX8_drop cX8_drop 4 (some .int) 1 := ⟨zT_tb (i := 688) (by decide +kernel) (by decide +kernel), zT_tb (i := 1) (by decide +kernel) (by decide +kernel), zT_tb (i := 686) (by decide +kernel) (by decide +kernel), zT_tb (i := 687) (by decide +kernel) (by decide +kernel), ⟨by decide +kernel, by decide +kernel, by decide +kernel⟩⟩
theorem mtL_drifts : zMs yL_drifts cL_drifts 9 (some .boolean) 2 := ⟨zT_tb (i := 691) (by decide +kernel) (by decide +kernel), zT_tb (i := 0) (by decide +kernel) (by decide +kernel), zT_tb (i := 690) (by decide +kernel) (by decide +kernel), ⟨by decide +kernel, by decide +kernel, by decide +kernel⟩⟩
theorem mtX8_seed : zMv yX8_seed cX8_seed 3 (some .int) 1 := ⟨zT_tb (i := 695) (by decide +kernel) (by decide +kernel), zT_tb (i := 1) (by decide +kernel) (by decide +kernel), zT_tb (i := 693) (by decide +kernel) (by decide +kernel), zT_tb (i := 694) (by decide +kernel) (by decide +kernel), ⟨by decide +kernel, by decide +kernel, by decide +kernel⟩⟩
theorem mtX8_drift : zMv yX8_drift cX8_drift 3 (some .int) 1 := ⟨zT_tb (i := 699) (by decide +kernel) (by decide +kernel), zT_tb (i := 1) (by decide +kernel) (by decide +kernel), zT_tb (i := 697) (by decide +kernel) (by decide +kernel), zT_tb (i := 698) (by decide +kernel) (by decide +kernel), ⟨by decide +kernel, by decide +kernel, by decide +kernel⟩⟩
theorem mtX8_driftOnce : zMv yX8_driftOnce cX8_driftOnce 3 none 0 := ⟨zT_tb (i := 703) (by decide +kernel) (by decide +kernel), zT_tb (i := 1) (by decide +kernel) (by decide +kernel), zT_tb (i := 702) (by decide +kernel) (by decide +kernel), zT_pr (i := 13) (by decide +kernel) (by decide +kernel), ⟨by decide +kernel, by decide +kernel, by decide +kernel⟩⟩
theorem mtX0_tryBatch : zMv yX0_tryBatch cX0_tryBatch 1 (some .boolean) 0 := ⟨zT_tb (i := 709) (by decide +kernel) (by decide +kernel), zT_tb (i := 2) (by decide +kernel) (by decide +kernel), zT_tb (i := 707) (by decide +kernel) (by decide +kernel), zT_tb (i := 708) (by decide +kernel) (by decide +kernel), ⟨by decide +kernel, by decide +kernel, by decide +kernel⟩⟩
theorem mtX0_tryLeave : zMv yX0_tryLeave cX0_tryLeave 2 (some .boolean) 1 := ⟨zT_tb (i := 715) (by decide +kernel) (by decide +kernel), zT_tb (i := 2) (by decide +kernel) (by decide +kernel), zT_tb (i := 713) (by decide +kernel) (by decide +kernel), zT_tb (i := 714) (by decide +kernel) (by decide +kernel), ⟨by decide +kernel, by decide +kernel, by decide +kernel⟩⟩
theorem mtX0_tryCome : zMv yX0_tryCome cX0_tryCome 2 (some .boolean) 1 := ⟨zT_tb (i := 721) (by decide +kernel) (by decide +kernel), zT_tb (i := 2) (by decide +kernel) (by decide +kernel), zT_tb (i := 719) (by decide +kernel) (by decide +kernel), zT_tb (i := 720) (by decide +kernel) (by decide +kernel), ⟨by decide +kernel, by decide +kernel, by decide +kernel⟩⟩
theorem mtX8_undo : zMv yX8_undo cX8_undo 1 (some .int) 0 := ⟨zT_tb (i := 727) (by decide +kernel) (by decide +kernel), zT_tb (i := 1) (by decide +kernel) (by decide +kernel), zT_tb (i := 725) (by decide +kernel) (by decide +kernel), zT_tb (i := 726) (by decide +kernel) (by decide +kernel), ⟨by decide +kernel, by decide +kernel, by decide +kernel⟩⟩
theorem mtX3_goBack : zMv yX3_goBack cX3_goBack 2 none 1 := ⟨zT_tb (i := 731) (by decide +kernel) (by decide +kernel), zT_tb (i := 7) (by decide +kernel) (by decide +kernel), zT_tb (i := 729) (by decide +kernel) (by decide +kernel), zT_tb (i := 730) (by decide +kernel) (by decide +kernel), ⟨by decide +kernel, by decide +kernel, by decide +kernel⟩⟩
/-- calls of nest mates' private methods: these words ride along -/
def zNest : List Cond := [.methodLinkNest RX0 11 yX5_init "KeyTrees", .methodLinkNest RX0 27 yX2_init "KeyTrees", .methodLinkNest RX8 31 yX7_init "KeyTrees", .methodLinkNest RX8 44 yX5_init "KeyTrees", .methodLinkNest RX8 51 yX4_init "KeyTrees", .methodLinkNest RX8 56 yX6_init "KeyTrees", .methodLinkNest RX0 94 yX8_has "KeyTrees", .methodLinkNest RX5 30 yX8_has "KeyTrees", .methodLinkNest RX1 46 yX8_has "KeyTrees", .methodLinkNest RX1 61 yX8_bit "KeyTrees"]
theorem zNest_lw : ∀ w ∈ zNest, w ∈ lw_tbl := by decide +kernel
theorem mn_X0_11 : Cond.methodLinkNest RX0 11 yX5_init "KeyTrees" ∈ zNest := List.mem_of_getElem? (i := 0) rfl
theorem mn_X0_27 : Cond.methodLinkNest RX0 27 yX2_init "KeyTrees" ∈ zNest := List.mem_of_getElem? (i := 1) rfl
theorem mn_X8_31 : Cond.methodLinkNest RX8 31 yX7_init "KeyTrees" ∈ zNest := List.mem_of_getElem? (i := 2) rfl
theorem mn_X8_44 : Cond.methodLinkNest RX8 44 yX5_init "KeyTrees" ∈ zNest := List.mem_of_getElem? (i := 3) rfl
theorem mn_X8_51 : Cond.methodLinkNest RX8 51 yX4_init "KeyTrees" ∈ zNest := List.mem_of_getElem? (i := 4) rfl
theorem mn_X8_56 : Cond.methodLinkNest RX8 56 yX6_init "KeyTrees" ∈ zNest := List.mem_of_getElem? (i := 5) rfl
theorem mn_X0_94 : Cond.methodLinkNest RX0 94 yX8_has "KeyTrees" ∈ zNest := List.mem_of_getElem? (i := 6) rfl
theorem mn_X5_30 : Cond.methodLinkNest RX5 30 yX8_has "KeyTrees" ∈ zNest := List.mem_of_getElem? (i := 7) rfl
theorem mn_X1_46 : Cond.methodLinkNest RX1 46 yX8_has "KeyTrees" ∈ zNest := List.mem_of_getElem? (i := 8) rfl
theorem mn_X1_61 : Cond.methodLinkNest RX1 61 yX8_bit "KeyTrees" ∈ zNest := List.mem_of_getElem? (i := 9) rfl
theorem ac_native : Cond.native arraycopyName ∈ zT := zT_tb (i := 269) (by decide +kernel) (by decide +kernel)
theorem ac_static : Cond.static arraycopyName ∈ zT := zT_tb (i := 268) (by decide +kernel) (by decide +kernel)
theorem ac_init : Cond.initialized "java/lang/System" ∈ zT := zT_tb (i := 11) (by decide +kernel) (by decide +kernel)
