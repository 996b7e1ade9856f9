def mt_X3_init : ds_M := (⟨"WayWeights$Peak", "<init>", "()V"⟩, prog_5_method_1_code, 1, none, 1, 12)
theorem dc_X3_0 : decode mt_X3_init.2.1 0 = .ok (.aload_n 0, 1) := by decide +kernel
theorem dc_X3_1 : decode mt_X3_init.2.1 1 = .ok (.invokespecial 3, 3) := by decide +kernel
theorem dc_X3_4 : decode mt_X3_init.2.1 4 = .ok (.return_, 1) := by decide +kernel
set_option maxRecDepth 100000 in
theorem zn_X3 : Cond.code mt_X3_init.1 mt_X3_init.2.1 mt_X3_init.2.2.1 mt_X3_init.2.2.2.1 ∈ ds_T ∧ Cond.initialized mt_X3_init.1.cls ∈ ds_T ∧ (mt_X3_init.1.cls ≠ "java/lang/invoke/MethodHandle" ∧ mt_X3_init.1.cls ≠ "java/lang/invoke/VarHandle" ∧ (parseMethodDescriptor mt_X3_init.1.desc).map (fun d => d.parameters.length) = some 0) := ⟨ds_T_of (i := 194) rfl rfl, ds_wb_T (p := 47) (by decide +kernel), by decide +kernel⟩
theorem zx_X3 : Cond.instanceMethod mt_X3_init.1 ∈ ds_T := ds_wb_T (p := 193) (by decide +kernel)
theorem zt_X3 : Cond.instantiable RX3 6 ∈ ds_T := ds_wb_T (p := 191) (by decide +kernel)
theorem zv_X3 : Cond.initialized RX3 ∈ ds_T := ds_wb_T (p := 47) (by decide +kernel)
def f0_X3 : List Value := [.long 0, .int 0, .int 0, .int 0, .int 0, .int 0]
theorem f0_X3_ok : ∀ j, j < 6 → defaultValue (tyX3 j) = vp_V f0_X3 j := by decide +kernel
theorem ml_X3_3 : Cond.methodLink mt_X3_init.1.cls 3 Lib.objectInit ∈ ds_T := ds_wb_T (p := 195) (by decide +kernel)
def mt_X1_init : ds_M := (⟨"WayWeights$Net", "<init>", "()V"⟩, prog_3_method_1_code, 1, none, 1, 12)
theorem dc_X1_0 : decode mt_X1_init.2.1 0 = .ok (.aload_n 0, 1) := by decide +kernel
theorem dc_X1_1 : decode mt_X1_init.2.1 1 = .ok (.invokespecial 3, 3) := by decide +kernel
theorem dc_X1_4 : decode mt_X1_init.2.1 4 = .ok (.aload_n 0, 1) := by decide +kernel
theorem dc_X1_5 : decode mt_X1_init.2.1 5 = .ok (.iconst 4, 1) := by decide +kernel
theorem dc_X1_6 : decode mt_X1_init.2.1 6 = .ok (.putfield 9, 3) := by decide +kernel
theorem dc_X1_9 : decode mt_X1_init.2.1 9 = .ok (.aload_n 0, 1) := by decide +kernel
theorem dc_X1_10 : decode mt_X1_init.2.1 10 = .ok (.bipush 10, 2) := by decide +kernel
theorem dc_X1_12 : decode mt_X1_init.2.1 12 = .ok (.newarray .int, 2) := by decide +kernel
theorem dc_X1_14 : decode mt_X1_init.2.1 14 = .ok (.putfield 15, 3) := by decide +kernel
theorem dc_X1_17 : decode mt_X1_init.2.1 17 = .ok (.aload_n 0, 1) := by decide +kernel
theorem dc_X1_18 : decode mt_X1_init.2.1 18 = .ok (.bipush 10, 2) := by decide +kernel
theorem dc_X1_20 : decode mt_X1_init.2.1 20 = .ok (.newarray .int, 2) := by decide +kernel
theorem dc_X1_22 : decode mt_X1_init.2.1 22 = .ok (.putfield 19, 3) := by decide +kernel
theorem dc_X1_25 : decode mt_X1_init.2.1 25 = .ok (.aload_n 0, 1) := by decide +kernel
theorem dc_X1_26 : decode mt_X1_init.2.1 26 = .ok (.bipush 10, 2) := by decide +kernel
theorem dc_X1_28 : decode mt_X1_init.2.1 28 = .ok (.newarray .int, 2) := by decide +kernel
theorem dc_X1_30 : decode mt_X1_init.2.1 30 = .ok (.putfield 22, 3) := by decide +kernel
theorem dc_X1_33 : decode mt_X1_init.2.1 33 = .ok (.aload_n 0, 1) := by decide +kernel
theorem dc_X1_34 : decode mt_X1_init.2.1 34 = .ok (.bipush 10, 2) := by decide +kernel
theorem dc_X1_36 : decode mt_X1_init.2.1 36 = .ok (.newarray .int, 2) := by decide +kernel
theorem dc_X1_38 : decode mt_X1_init.2.1 38 = .ok (.putfield 25, 3) := by decide +kernel
theorem dc_X1_41 : decode mt_X1_init.2.1 41 = .ok (.return_, 1) := by decide +kernel
set_option maxRecDepth 100000 in
theorem zn_X1 : Cond.code mt_X1_init.1 mt_X1_init.2.1 mt_X1_init.2.2.1 mt_X1_init.2.2.2.1 ∈ ds_T ∧ Cond.initialized mt_X1_init.1.cls ∈ ds_T ∧ (mt_X1_init.1.cls ≠ "java/lang/invoke/MethodHandle" ∧ mt_X1_init.1.cls ≠ "java/lang/invoke/VarHandle" ∧ (parseMethodDescriptor mt_X1_init.1.desc).map (fun d => d.parameters.length) = some 0) := ⟨ds_T_of (i := 68) rfl rfl, ds_wb_T (p := 43) (by decide +kernel), by decide +kernel⟩
theorem zx_X1 : Cond.instanceMethod mt_X1_init.1 ∈ ds_T := ds_wb_T (p := 67) (by decide +kernel)
theorem zt_X1 : Cond.instantiable RX1 8 ∈ ds_T := ds_wb_T (p := 65) (by decide +kernel)
theorem zv_X1 : Cond.initialized RX1 ∈ ds_T := ds_wb_T (p := 43) (by decide +kernel)
def f0_X1 : List Value := [.int 0, .int 0, .null, .null, .null, .null, .int 0, .int 0]
theorem f0_X1_ok : ∀ j, j < 8 → defaultValue (tyX1 j) = vp_V f0_X1 j := by decide +kernel
theorem ml_X1_3 : Cond.methodLink mt_X1_init.1.cls 3 Lib.objectInit ∈ ds_T := ds_wb_T (p := 69) (by decide +kernel)
theorem fl_X1_9 : ds_fld mt_X1_init 9 1 0 := ds_fb_ok (p := 70) (by decide +kernel)
theorem fp_X1_9 : di_fp mt_X1_init 1 0 (.int) := ⟨_, rfl, by decide +kernel, rfl⟩
theorem fl_X1_15 : ds_fld mt_X1_init 15 1 2 := ds_fb_ok (p := 84) (by decide +kernel)
theorem fp_X1_15 : di_fp mt_X1_init 1 2 (.array (.int)) := ⟨_, rfl, by decide +kernel, rfl⟩
theorem fl_X1_19 : ds_fld mt_X1_init 19 1 3 := ds_fb_ok (p := 88) (by decide +kernel)
theorem fp_X1_19 : di_fp mt_X1_init 1 3 (.array (.int)) := ⟨_, rfl, by decide +kernel, rfl⟩
theorem fl_X1_22 : ds_fld mt_X1_init 22 1 4 := ds_fb_ok (p := 91) (by decide +kernel)
theorem fp_X1_22 : di_fp mt_X1_init 1 4 (.array (.int)) := ⟨_, rfl, by decide +kernel, rfl⟩
theorem fl_X1_25 : ds_fld mt_X1_init 25 1 5 := ds_fb_ok (p := 94) (by decide +kernel)
theorem fp_X1_25 : di_fp mt_X1_init 1 5 (.array (.int)) := ⟨_, rfl, by decide +kernel, rfl⟩
def mt_X0_init : ds_M := (⟨"WayWeights$Flow", "<init>", "()V"⟩, prog_2_method_1_code, 1, none, 1, 12)
theorem dc_X0_0 : decode mt_X0_init.2.1 0 = .ok (.aload_n 0, 1) := by decide +kernel
theorem dc_X0_1 : decode mt_X0_init.2.1 1 = .ok (.invokespecial 3, 3) := by decide +kernel
theorem dc_X0_4 : decode mt_X0_init.2.1 4 = .ok (.aload_n 0, 1) := by decide +kernel
theorem dc_X0_5 : decode mt_X0_init.2.1 5 = .ok (.bipush 6, 2) := by decide +kernel
theorem dc_X0_7 : decode mt_X0_init.2.1 7 = .ok (.newarray .long, 2) := by decide +kernel
theorem dc_X0_9 : decode mt_X0_init.2.1 9 = .ok (.putfield 9, 3) := by decide +kernel
theorem dc_X0_12 : decode mt_X0_init.2.1 12 = .ok (.aload_n 0, 1) := by decide +kernel
theorem dc_X0_13 : decode mt_X0_init.2.1 13 = .ok (.bipush 20, 2) := by decide +kernel
theorem dc_X0_15 : decode mt_X0_init.2.1 15 = .ok (.newarray .long, 2) := by decide +kernel
theorem dc_X0_17 : decode mt_X0_init.2.1 17 = .ok (.putfield 15, 3) := by decide +kernel
theorem dc_X0_20 : decode mt_X0_init.2.1 20 = .ok (.return_, 1) := by decide +kernel
set_option maxRecDepth 100000 in
theorem zn_X0 : Cond.code mt_X0_init.1 mt_X0_init.2.1 mt_X0_init.2.2.1 mt_X0_init.2.2.2.1 ∈ ds_T ∧ Cond.initialized mt_X0_init.1.cls ∈ ds_T ∧ (mt_X0_init.1.cls ≠ "java/lang/invoke/MethodHandle" ∧ mt_X0_init.1.cls ≠ "java/lang/invoke/VarHandle" ∧ (parseMethodDescriptor mt_X0_init.1.desc).map (fun d => d.parameters.length) = some 0) := ⟨ds_T_of (i := 178) rfl rfl, ds_wb_T (p := 46) (by decide +kernel), by decide +kernel⟩
theorem zx_X0 : Cond.instanceMethod mt_X0_init.1 ∈ ds_T := ds_wb_T (p := 177) (by decide +kernel)
theorem zt_X0 : Cond.instantiable RX0 2 ∈ ds_T := ds_wb_T (p := 175) (by decide +kernel)
theorem zv_X0 : Cond.initialized RX0 ∈ ds_T := ds_wb_T (p := 46) (by decide +kernel)
def f0_X0 : List Value := [.null, .null]
theorem f0_X0_ok : ∀ j, j < 2 → defaultValue (tyX0 j) = vp_V f0_X0 j := by decide +kernel
theorem ml_X0_3 : Cond.methodLink mt_X0_init.1.cls 3 Lib.objectInit ∈ ds_T := ds_wb_T (p := 179) (by decide +kernel)
theorem fl_X0_9 : ds_fld mt_X0_init 9 0 0 := ds_fb_ok (p := 180) (by decide +kernel)
theorem fp_X0_9 : di_fp mt_X0_init 0 0 (.array (.long)) := ⟨_, rfl, by decide +kernel, rfl⟩
theorem fl_X0_15 : ds_fld mt_X0_init 15 0 1 := ds_fb_ok (p := 181) (by decide +kernel)
theorem fp_X0_15 : di_fp mt_X0_init 0 1 (.array (.long)) := ⟨_, rfl, by decide +kernel, rfl⟩
def mt_X7_init : ds_M := (⟨"WayWeights$Ways", "<init>", "()V"⟩, prog_9_method_1_code, 1, none, 1, 12)
theorem dc_X7_0 : decode mt_X7_init.2.1 0 = .ok (.aload_n 0, 1) := by decide +kernel
theorem dc_X7_1 : decode mt_X7_init.2.1 1 = .ok (.invokespecial 3, 3) := by decide +kernel
theorem dc_X7_4 : decode mt_X7_init.2.1 4 = .ok (.aload_n 0, 1) := by decide +kernel
theorem dc_X7_5 : decode mt_X7_init.2.1 5 = .ok (.bipush 6, 2) := by decide +kernel
theorem dc_X7_7 : decode mt_X7_init.2.1 7 = .ok (.newarray .int, 2) := by decide +kernel
theorem dc_X7_9 : decode mt_X7_init.2.1 9 = .ok (.putfield 9, 3) := by decide +kernel
theorem dc_X7_12 : decode mt_X7_init.2.1 12 = .ok (.aload_n 0, 1) := by decide +kernel
theorem dc_X7_13 : decode mt_X7_init.2.1 13 = .ok (.bipush 6, 2) := by decide +kernel
theorem dc_X7_15 : decode mt_X7_init.2.1 15 = .ok (.newarray .int, 2) := by decide +kernel
theorem dc_X7_17 : decode mt_X7_init.2.1 17 = .ok (.putfield 15, 3) := by decide +kernel
theorem dc_X7_20 : decode mt_X7_init.2.1 20 = .ok (.aload_n 0, 1) := by decide +kernel
theorem dc_X7_21 : decode mt_X7_init.2.1 21 = .ok (.bipush 6, 2) := by decide +kernel
theorem dc_X7_23 : decode mt_X7_init.2.1 23 = .ok (.newarray .int, 2) := by decide +kernel
theorem dc_X7_25 : decode mt_X7_init.2.1 25 = .ok (.putfield 18, 3) := by decide +kernel
theorem dc_X7_28 : decode mt_X7_init.2.1 28 = .ok (.aload_n 0, 1) := by decide +kernel
theorem dc_X7_29 : decode mt_X7_init.2.1 29 = .ok (.bipush 10, 2) := by decide +kernel
theorem dc_X7_31 : decode mt_X7_init.2.1 31 = .ok (.newarray .int, 2) := by decide +kernel
theorem dc_X7_33 : decode mt_X7_init.2.1 33 = .ok (.putfield 21, 3) := by decide +kernel
theorem dc_X7_36 : decode mt_X7_init.2.1 36 = .ok (.aload_n 0, 1) := by decide +kernel
theorem dc_X7_37 : decode mt_X7_init.2.1 37 = .ok (.bipush 10, 2) := by decide +kernel
theorem dc_X7_39 : decode mt_X7_init.2.1 39 = .ok (.newarray .int, 2) := by decide +kernel
theorem dc_X7_41 : decode mt_X7_init.2.1 41 = .ok (.putfield 24, 3) := by decide +kernel
theorem dc_X7_44 : decode mt_X7_init.2.1 44 = .ok (.return_, 1) := by decide +kernel
set_option maxRecDepth 100000 in
theorem zn_X7 : Cond.code mt_X7_init.1 mt_X7_init.2.1 mt_X7_init.2.2.1 mt_X7_init.2.2.2.1 ∈ ds_T ∧ Cond.initialized mt_X7_init.1.cls ∈ ds_T ∧ (mt_X7_init.1.cls ≠ "java/lang/invoke/MethodHandle" ∧ mt_X7_init.1.cls ≠ "java/lang/invoke/VarHandle" ∧ (parseMethodDescriptor mt_X7_init.1.desc).map (fun d => d.parameters.length) = some 0) := ⟨ds_T_of (i := 137) rfl rfl, ds_wb_T (p := 45) (by decide +kernel), by decide +kernel⟩
theorem zx_X7 : Cond.instanceMethod mt_X7_init.1 ∈ ds_T := ds_wb_T (p := 136) (by decide +kernel)
theorem zt_X7 : Cond.instantiable RX7 6 ∈ ds_T := ds_wb_T (p := 134) (by decide +kernel)
theorem zv_X7 : Cond.initialized RX7 ∈ ds_T := ds_wb_T (p := 45) (by decide +kernel)
def f0_X7 : List Value := [.null, .null, .int 0, .null, .null, .null]
theorem f0_X7_ok : ∀ j, j < 6 → defaultValue (tyX7 j) = vp_V f0_X7 j := by decide +kernel
theorem ml_X7_3 : Cond.methodLink mt_X7_init.1.cls 3 Lib.objectInit ∈ ds_T := ds_wb_T (p := 138) (by decide +kernel)
theorem fl_X7_9 : ds_fld mt_X7_init 9 7 0 := ds_fb_ok (p := 139) (by decide +kernel)
theorem fp_X7_9 : di_fp mt_X7_init 7 0 (.array (.int)) := ⟨_, rfl, by decide +kernel, rfl⟩
theorem fl_X7_15 : ds_fld mt_X7_init 15 7 1 := ds_fb_ok (p := 141) (by decide +kernel)
theorem fp_X7_15 : di_fp mt_X7_init 7 1 (.array (.int)) := ⟨_, rfl, by decide +kernel, rfl⟩
theorem fl_X7_18 : ds_fld mt_X7_init 18 7 3 := ds_fb_ok (p := 145) (by decide +kernel)
theorem fp_X7_18 : di_fp mt_X7_init 7 3 (.array (.int)) := ⟨_, rfl, by decide +kernel, rfl⟩
theorem fl_X7_21 : ds_fld mt_X7_init 21 7 4 := ds_fb_ok (p := 147) (by decide +kernel)
theorem fp_X7_21 : di_fp mt_X7_init 7 4 (.array (.int)) := ⟨_, rfl, by decide +kernel, rfl⟩
theorem fl_X7_24 : ds_fld mt_X7_init 24 7 5 := ds_fb_ok (p := 151) (by decide +kernel)
theorem fp_X7_24 : di_fp mt_X7_init 7 5 (.array (.int)) := ⟨_, rfl, by decide +kernel, rfl⟩
def mt_X4_init : ds_M := (⟨"WayWeights$Routes", "<init>", "()V"⟩, prog_6_method_1_code, 2, none, 2, 32)
theorem dc_X4_0 : decode mt_X4_init.2.1 0 = .ok (.aload_n 0, 1) := by decide +kernel
theorem dc_X4_1 : decode mt_X4_init.2.1 1 = .ok (.invokespecial 3, 3) := by decide +kernel
theorem dc_X4_4 : decode mt_X4_init.2.1 4 = .ok (.aload_n 0, 1) := by decide +kernel
theorem dc_X4_5 : decode mt_X4_init.2.1 5 = .ok (.bipush 6, 2) := by decide +kernel
theorem dc_X4_7 : decode mt_X4_init.2.1 7 = .ok (.anewarray 9, 3) := by decide +kernel
theorem dc_X4_10 : decode mt_X4_init.2.1 10 = .ok (.putfield 11, 3) := by decide +kernel
theorem dc_X4_13 : decode mt_X4_init.2.1 13 = .ok (.iconst 0, 1) := by decide +kernel
theorem dc_X4_14 : decode mt_X4_init.2.1 14 = .ok (.istore_n 1, 1) := by decide +kernel
theorem dc_X4_15 : decode mt_X4_init.2.1 15 = .ok (.iload_n 1, 1) := by decide +kernel
theorem dc_X4_16 : decode mt_X4_init.2.1 16 = .ok (.bipush 6, 2) := by decide +kernel
theorem dc_X4_18 : decode mt_X4_init.2.1 18 = .ok (.if_icmp .ge 22, 3) := by decide +kernel
theorem dc_X4_21 : decode mt_X4_init.2.1 21 = .ok (.aload_n 0, 1) := by decide +kernel
theorem dc_X4_22 : decode mt_X4_init.2.1 22 = .ok (.getfield 11, 3) := by decide +kernel
theorem dc_X4_25 : decode mt_X4_init.2.1 25 = .ok (.iload_n 1, 1) := by decide +kernel
theorem dc_X4_26 : decode mt_X4_init.2.1 26 = .ok (.new 9, 3) := by decide +kernel
theorem dc_X4_29 : decode mt_X4_init.2.1 29 = .ok (.dup, 1) := by decide +kernel
theorem dc_X4_30 : decode mt_X4_init.2.1 30 = .ok (.invokespecial 17, 3) := by decide +kernel
theorem dc_X4_33 : decode mt_X4_init.2.1 33 = .ok (.aastore, 1) := by decide +kernel
theorem dc_X4_34 : decode mt_X4_init.2.1 34 = .ok (.iinc 1 1, 3) := by decide +kernel
theorem dc_X4_37 : decode mt_X4_init.2.1 37 = .ok (.goto (-22), 3) := by decide +kernel
theorem dc_X4_40 : decode mt_X4_init.2.1 40 = .ok (.return_, 1) := by decide +kernel
set_option maxRecDepth 100000 in
theorem zn_X4 : Cond.code mt_X4_init.1 mt_X4_init.2.1 mt_X4_init.2.2.1 mt_X4_init.2.2.2.1 ∈ ds_T ∧ Cond.initialized mt_X4_init.1.cls ∈ ds_T ∧ (mt_X4_init.1.cls ≠ "java/lang/invoke/MethodHandle" ∧ mt_X4_init.1.cls ≠ "java/lang/invoke/VarHandle" ∧ (parseMethodDescriptor mt_X4_init.1.desc).map (fun d => d.parameters.length) = some 0) := ⟨ds_T_of (i := 130) rfl rfl, ds_wb_T (p := 44) (by decide +kernel), by decide +kernel⟩
theorem zx_X4 : Cond.instanceMethod mt_X4_init.1 ∈ ds_T := ds_wb_T (p := 129) (by decide +kernel)
theorem zt_X4 : Cond.instantiable RX4 1 ∈ ds_T := ds_wb_T (p := 127) (by decide +kernel)
theorem zv_X4 : Cond.initialized RX4 ∈ ds_T := ds_wb_T (p := 44) (by decide +kernel)
def f0_X4 : List Value := [.null]
theorem f0_X4_ok : ∀ j, j < 1 → defaultValue (tyX4 j) = vp_V f0_X4 j := by decide +kernel
theorem ml_X4_3 : Cond.methodLink mt_X4_init.1.cls 3 Lib.objectInit ∈ ds_T := ds_wb_T (p := 131) (by decide +kernel)
theorem cl_X4_9 : Cond.classLink mt_X4_init.1.cls 9 "WayWeights$Ways" ∈ ds_T := ds_wb_T (p := 132) (by decide +kernel)
theorem fl_X4_11 : ds_fld mt_X4_init 11 4 0 := ds_fb_ok (p := 167) (by decide +kernel)
theorem fp_X4_11 : di_fp mt_X4_init 4 0 (.array (.object "WayWeights$Ways")) := ⟨_, rfl, by decide +kernel, rfl⟩
theorem pw_X4_X7 : ds_cw mt_X4_init mt_X7_init 0 := ⟨zn_X7.1, zn_X7.2.1, zn_X7.2.2, by decide, by decide⟩
def mt_X6_init : ds_M := (⟨"WayWeights$Survey", "<init>", "(LWayWeights$Net;[[ILWayWeights$Routes;LWayWeights$Flow;)V"⟩, prog_8_method_1_code, 5, none, 2, 32)
theorem dc_X6_0 : decode mt_X6_init.2.1 0 = .ok (.aload_n 0, 1) := by decide +kernel
theorem dc_X6_1 : decode mt_X6_init.2.1 1 = .ok (.invokespecial 3, 3) := by decide +kernel
theorem dc_X6_4 : decode mt_X6_init.2.1 4 = .ok (.aload_n 0, 1) := by decide +kernel
theorem dc_X6_5 : decode mt_X6_init.2.1 5 = .ok (.new 9, 3) := by decide +kernel
theorem dc_X6_8 : decode mt_X6_init.2.1 8 = .ok (.dup, 1) := by decide +kernel
theorem dc_X6_9 : decode mt_X6_init.2.1 9 = .ok (.invokespecial 11, 3) := by decide +kernel
theorem dc_X6_12 : decode mt_X6_init.2.1 12 = .ok (.putfield 12, 3) := by decide +kernel
theorem dc_X6_15 : decode mt_X6_init.2.1 15 = .ok (.aload_n 0, 1) := by decide +kernel
theorem dc_X6_16 : decode mt_X6_init.2.1 16 = .ok (.aload_n 1, 1) := by decide +kernel
theorem dc_X6_17 : decode mt_X6_init.2.1 17 = .ok (.putfield 18, 3) := by decide +kernel
theorem dc_X6_20 : decode mt_X6_init.2.1 20 = .ok (.aload_n 0, 1) := by decide +kernel
theorem dc_X6_21 : decode mt_X6_init.2.1 21 = .ok (.aload_n 2, 1) := by decide +kernel
theorem dc_X6_22 : decode mt_X6_init.2.1 22 = .ok (.putfield 22, 3) := by decide +kernel
theorem dc_X6_25 : decode mt_X6_init.2.1 25 = .ok (.aload_n 0, 1) := by decide +kernel
theorem dc_X6_26 : decode mt_X6_init.2.1 26 = .ok (.aload_n 3, 1) := by decide +kernel
theorem dc_X6_27 : decode mt_X6_init.2.1 27 = .ok (.putfield 26, 3) := by decide +kernel
theorem dc_X6_30 : decode mt_X6_init.2.1 30 = .ok (.aload_n 0, 1) := by decide +kernel
theorem dc_X6_31 : decode mt_X6_init.2.1 31 = .ok (.aload 4, 2) := by decide +kernel
theorem dc_X6_33 : decode mt_X6_init.2.1 33 = .ok (.putfield 30, 3) := by decide +kernel
theorem dc_X6_36 : decode mt_X6_init.2.1 36 = .ok (.return_, 1) := by decide +kernel
set_option maxRecDepth 100000 in
theorem zn_X6 : Cond.code mt_X6_init.1 mt_X6_init.2.1 mt_X6_init.2.2.1 mt_X6_init.2.2.2.1 ∈ ds_T ∧ Cond.initialized mt_X6_init.1.cls ∈ ds_T ∧ (mt_X6_init.1.cls ≠ "java/lang/invoke/MethodHandle" ∧ mt_X6_init.1.cls ≠ "java/lang/invoke/VarHandle" ∧ (parseMethodDescriptor mt_X6_init.1.desc).map (fun d => d.parameters.length) = some 4) := ⟨ds_T_of (i := 227) rfl rfl, ds_wb_T (p := 48) (by decide +kernel), by decide +kernel⟩
theorem zx_X6 : Cond.instanceMethod mt_X6_init.1 ∈ ds_T := ds_wb_T (p := 226) (by decide +kernel)
theorem zt_X6 : Cond.instantiable RX6 6 ∈ ds_T := ds_wb_T (p := 224) (by decide +kernel)
theorem zv_X6 : Cond.initialized RX6 ∈ ds_T := ds_wb_T (p := 48) (by decide +kernel)
def f0_X6 : List Value := [.null, .null, .int 0, .null, .null, .null]
theorem f0_X6_ok : ∀ j, j < 6 → defaultValue (tyX6 j) = vp_V f0_X6 j := by decide +kernel
theorem ml_X6_3 : Cond.methodLink mt_X6_init.1.cls 3 Lib.objectInit ∈ ds_T := ds_wb_T (p := 228) (by decide +kernel)
theorem cl_X6_9 : Cond.classLink mt_X6_init.1.cls 9 "WayWeights$Peak" ∈ ds_T := ds_wb_T (p := 229) (by decide +kernel)
theorem pw_X6_X3 : ds_cw mt_X6_init mt_X3_init 0 := ⟨zn_X3.1, zn_X3.2.1, zn_X3.2.2, by decide, by decide⟩
theorem fl_X6_12 : ds_fld mt_X6_init 12 6 5 := ds_fb_ok (p := 237) (by decide +kernel)
theorem fp_X6_12 : di_fp mt_X6_init 6 5 (.object "WayWeights$Peak") := ⟨_, rfl, by decide +kernel, rfl⟩
theorem fl_X6_18 : ds_fld mt_X6_init 18 6 0 := ds_fb_ok (p := 231) (by decide +kernel)
theorem fp_X6_18 : di_fp mt_X6_init 6 0 (.object "WayWeights$Net") := ⟨_, rfl, by decide +kernel, rfl⟩
theorem fl_X6_22 : ds_fld mt_X6_init 22 6 1 := ds_fb_ok (p := 232) (by decide +kernel)
theorem fp_X6_22 : di_fp mt_X6_init 6 1 (.array (.array (.int))) := ⟨_, rfl, by decide +kernel, rfl⟩
theorem fl_X6_26 : ds_fld mt_X6_init 26 6 3 := ds_fb_ok (p := 235) (by decide +kernel)
theorem fp_X6_26 : di_fp mt_X6_init 6 3 (.object "WayWeights$Routes") := ⟨_, rfl, by decide +kernel, rfl⟩
theorem fl_X6_30 : ds_fld mt_X6_init 30 6 4 := ds_fb_ok (p := 236) (by decide +kernel)
theorem fp_X6_30 : di_fp mt_X6_init 6 4 (.object "WayWeights$Flow") := ⟨_, rfl, by decide +kernel, rfl⟩
def mt_X5_init : ds_M := (⟨"WayWeights$Seeker", "<init>", "(LWayWeights$Net;LWayWeights$Survey;)V"⟩, prog_7_method_1_code, 3, none, 2, 32)
theorem dc_X5_0 : decode mt_X5_init.2.1 0 = .ok (.aload_n 0, 1) := by decide +kernel
theorem dc_X5_1 : decode mt_X5_init.2.1 1 = .ok (.invokespecial 3, 3) := by decide +kernel
theorem dc_X5_4 : decode mt_X5_init.2.1 4 = .ok (.aload_n 0, 1) := by decide +kernel
theorem dc_X5_5 : decode mt_X5_init.2.1 5 = .ok (.bipush 10, 2) := by decide +kernel
theorem dc_X5_7 : decode mt_X5_init.2.1 7 = .ok (.newarray .int, 2) := by decide +kernel
theorem dc_X5_9 : decode mt_X5_init.2.1 9 = .ok (.putfield 9, 3) := by decide +kernel
theorem dc_X5_12 : decode mt_X5_init.2.1 12 = .ok (.aload_n 0, 1) := by decide +kernel
theorem dc_X5_13 : decode mt_X5_init.2.1 13 = .ok (.new 15, 3) := by decide +kernel
theorem dc_X5_16 : decode mt_X5_init.2.1 16 = .ok (.dup, 1) := by decide +kernel
theorem dc_X5_17 : decode mt_X5_init.2.1 17 = .ok (.invokespecial 17, 3) := by decide +kernel
theorem dc_X5_20 : decode mt_X5_init.2.1 20 = .ok (.putfield 18, 3) := by decide +kernel
theorem dc_X5_23 : decode mt_X5_init.2.1 23 = .ok (.aload_n 0, 1) := by decide +kernel
theorem dc_X5_24 : decode mt_X5_init.2.1 24 = .ok (.iconst 5, 1) := by decide +kernel
theorem dc_X5_25 : decode mt_X5_init.2.1 25 = .ok (.newarray .int, 2) := by decide +kernel
theorem dc_X5_27 : decode mt_X5_init.2.1 27 = .ok (.putfield 22, 3) := by decide +kernel
theorem dc_X5_30 : decode mt_X5_init.2.1 30 = .ok (.aload_n 0, 1) := by decide +kernel
theorem dc_X5_31 : decode mt_X5_init.2.1 31 = .ok (.bipush 10, 2) := by decide +kernel
theorem dc_X5_33 : decode mt_X5_init.2.1 33 = .ok (.newarray .int, 2) := by decide +kernel
theorem dc_X5_35 : decode mt_X5_init.2.1 35 = .ok (.putfield 25, 3) := by decide +kernel
theorem dc_X5_38 : decode mt_X5_init.2.1 38 = .ok (.aload_n 0, 1) := by decide +kernel
theorem dc_X5_39 : decode mt_X5_init.2.1 39 = .ok (.new 15, 3) := by decide +kernel
theorem dc_X5_42 : decode mt_X5_init.2.1 42 = .ok (.dup, 1) := by decide +kernel
theorem dc_X5_43 : decode mt_X5_init.2.1 43 = .ok (.invokespecial 17, 3) := by decide +kernel
theorem dc_X5_46 : decode mt_X5_init.2.1 46 = .ok (.putfield 28, 3) := by decide +kernel
theorem dc_X5_49 : decode mt_X5_init.2.1 49 = .ok (.aload_n 0, 1) := by decide +kernel
theorem dc_X5_50 : decode mt_X5_init.2.1 50 = .ok (.aload_n 1, 1) := by decide +kernel
theorem dc_X5_51 : decode mt_X5_init.2.1 51 = .ok (.putfield 31, 3) := by decide +kernel
theorem dc_X5_54 : decode mt_X5_init.2.1 54 = .ok (.aload_n 0, 1) := by decide +kernel
theorem dc_X5_55 : decode mt_X5_init.2.1 55 = .ok (.aload_n 2, 1) := by decide +kernel
theorem dc_X5_56 : decode mt_X5_init.2.1 56 = .ok (.putfield 35, 3) := by decide +kernel
theorem dc_X5_59 : decode mt_X5_init.2.1 59 = .ok (.return_, 1) := by decide +kernel
set_option maxRecDepth 100000 in
theorem zn_X5 : Cond.code mt_X5_init.1 mt_X5_init.2.1 mt_X5_init.2.2.1 mt_X5_init.2.2.2.1 ∈ ds_T ∧ Cond.initialized mt_X5_init.1.cls ∈ ds_T ∧ (mt_X5_init.1.cls ≠ "java/lang/invoke/MethodHandle" ∧ mt_X5_init.1.cls ≠ "java/lang/invoke/VarHandle" ∧ (parseMethodDescriptor mt_X5_init.1.desc).map (fun d => d.parameters.length) = some 2) := ⟨ds_T_of (i := 255) rfl rfl, ds_wb_T (p := 49) (by decide +kernel), by decide +kernel⟩
theorem zx_X5 : Cond.instanceMethod mt_X5_init.1 ∈ ds_T := ds_wb_T (p := 254) (by decide +kernel)
theorem zt_X5 : Cond.instantiable RX5 13 ∈ ds_T := ds_wb_T (p := 252) (by decide +kernel)
theorem zv_X5 : Cond.initialized RX5 ∈ ds_T := ds_wb_T (p := 49) (by decide +kernel)
def f0_X5 : List Value := [.null, .null, .int 0, .int 0, .null, .null, .int 0, .int 0, .null, .int 0, .int 0, .null, .null]
theorem f0_X5_ok : ∀ j, j < 13 → defaultValue (tyX5 j) = vp_V f0_X5 j := by decide +kernel
theorem ml_X5_3 : Cond.methodLink mt_X5_init.1.cls 3 Lib.objectInit ∈ ds_T := ds_wb_T (p := 256) (by decide +kernel)
theorem fl_X5_9 : ds_fld mt_X5_init 9 5 4 := ds_fb_ok (p := 265) (by decide +kernel)
theorem fp_X5_9 : di_fp mt_X5_init 5 4 (.array (.int)) := ⟨_, rfl, by decide +kernel, rfl⟩
theorem cl_X5_15 : Cond.classLink mt_X5_init.1.cls 15 "WayWeights$Peak" ∈ ds_T := ds_wb_T (p := 257) (by decide +kernel)
theorem pw_X5_X3 : ds_cw mt_X5_init mt_X3_init 0 := ⟨zn_X3.1, zn_X3.2.1, zn_X3.2.2, by decide, by decide⟩
theorem fl_X5_18 : ds_fld mt_X5_init 18 5 5 := ds_fb_ok (p := 267) (by decide +kernel)
theorem fp_X5_18 : di_fp mt_X5_init 5 5 (.object "WayWeights$Peak") := ⟨_, rfl, by decide +kernel, rfl⟩
theorem fl_X5_22 : ds_fld mt_X5_init 22 5 8 := ds_fb_ok (p := 271) (by decide +kernel)
theorem fp_X5_22 : di_fp mt_X5_init 5 8 (.array (.int)) := ⟨_, rfl, by decide +kernel, rfl⟩
theorem fl_X5_25 : ds_fld mt_X5_init 25 5 11 := ds_fb_ok (p := 274) (by decide +kernel)
theorem fp_X5_25 : di_fp mt_X5_init 5 11 (.array (.int)) := ⟨_, rfl, by decide +kernel, rfl⟩
theorem fl_X5_28 : ds_fld mt_X5_init 28 5 12 := ds_fb_ok (p := 275) (by decide +kernel)
theorem fp_X5_28 : di_fp mt_X5_init 5 12 (.object "WayWeights$Peak") := ⟨_, rfl, by decide +kernel, rfl⟩
theorem fl_X5_31 : ds_fld mt_X5_init 31 5 0 := ds_fb_ok (p := 259) (by decide +kernel)
theorem fp_X5_31 : di_fp mt_X5_init 5 0 (.object "WayWeights$Net") := ⟨_, rfl, by decide +kernel, rfl⟩
theorem fl_X5_35 : ds_fld mt_X5_init 35 5 1 := ds_fb_ok (p := 260) (by decide +kernel)
theorem fp_X5_35 : di_fp mt_X5_init 5 1 (.object "WayWeights$Survey") := ⟨_, rfl, by decide +kernel, rfl⟩
def mt_X2_init : ds_M := (⟨"WayWeights$News", "<init>", "(LWayWeights$Net;LWayWeights$Routes;)V"⟩, prog_4_method_1_code, 3, none, 1, 12)
theorem dc_X2_0 : decode mt_X2_init.2.1 0 = .ok (.aload_n 0, 1) := by decide +kernel
theorem dc_X2_1 : decode mt_X2_init.2.1 1 = .ok (.invokespecial 3, 3) := by decide +kernel
theorem dc_X2_4 : decode mt_X2_init.2.1 4 = .ok (.aload_n 0, 1) := by decide +kernel
theorem dc_X2_5 : decode mt_X2_init.2.1 5 = .ok (.bipush 10, 2) := by decide +kernel
theorem dc_X2_7 : decode mt_X2_init.2.1 7 = .ok (.newarray .int, 2) := by decide +kernel
theorem dc_X2_9 : decode mt_X2_init.2.1 9 = .ok (.putfield 9, 3) := by decide +kernel
theorem dc_X2_12 : decode mt_X2_init.2.1 12 = .ok (.aload_n 0, 1) := by decide +kernel
theorem dc_X2_13 : decode mt_X2_init.2.1 13 = .ok (.sipush 756, 3) := by decide +kernel
theorem dc_X2_16 : decode mt_X2_init.2.1 16 = .ok (.newarray .int, 2) := by decide +kernel
theorem dc_X2_18 : decode mt_X2_init.2.1 18 = .ok (.putfield 15, 3) := by decide +kernel
theorem dc_X2_21 : decode mt_X2_init.2.1 21 = .ok (.aload_n 0, 1) := by decide +kernel
theorem dc_X2_22 : decode mt_X2_init.2.1 22 = .ok (.bipush 21, 2) := by decide +kernel
theorem dc_X2_24 : decode mt_X2_init.2.1 24 = .ok (.newarray .int, 2) := by decide +kernel
theorem dc_X2_26 : decode mt_X2_init.2.1 26 = .ok (.putfield 18, 3) := by decide +kernel
theorem dc_X2_29 : decode mt_X2_init.2.1 29 = .ok (.aload_n 0, 1) := by decide +kernel
theorem dc_X2_30 : decode mt_X2_init.2.1 30 = .ok (.aload_n 1, 1) := by decide +kernel
theorem dc_X2_31 : decode mt_X2_init.2.1 31 = .ok (.putfield 21, 3) := by decide +kernel
theorem dc_X2_34 : decode mt_X2_init.2.1 34 = .ok (.aload_n 0, 1) := by decide +kernel
theorem dc_X2_35 : decode mt_X2_init.2.1 35 = .ok (.aload_n 2, 1) := by decide +kernel
theorem dc_X2_36 : decode mt_X2_init.2.1 36 = .ok (.putfield 25, 3) := by decide +kernel
theorem dc_X2_39 : decode mt_X2_init.2.1 39 = .ok (.return_, 1) := by decide +kernel
set_option maxRecDepth 100000 in
theorem zn_X2 : Cond.code mt_X2_init.1 mt_X2_init.2.1 mt_X2_init.2.2.1 mt_X2_init.2.2.2.1 ∈ ds_T ∧ Cond.initialized mt_X2_init.1.cls ∈ ds_T ∧ (mt_X2_init.1.cls ≠ "java/lang/invoke/MethodHandle" ∧ mt_X2_init.1.cls ≠ "java/lang/invoke/VarHandle" ∧ (parseMethodDescriptor mt_X2_init.1.desc).map (fun d => d.parameters.length) = some 2) := ⟨ds_T_of (i := 307) rfl rfl, ds_wb_T (p := 50) (by decide +kernel), by decide +kernel⟩
theorem zx_X2 : Cond.instanceMethod mt_X2_init.1 ∈ ds_T := ds_wb_T (p := 306) (by decide +kernel)
theorem zt_X2 : Cond.instantiable RX2 5 ∈ ds_T := ds_wb_T (p := 304) (by decide +kernel)
theorem zv_X2 : Cond.initialized RX2 ∈ ds_T := ds_wb_T (p := 50) (by decide +kernel)
def f0_X2 : List Value := [.null, .null, .null, .null, .null]
theorem f0_X2_ok : ∀ j, j < 5 → defaultValue (tyX2 j) = vp_V f0_X2 j := by decide +kernel
theorem ml_X2_3 : Cond.methodLink mt_X2_init.1.cls 3 Lib.objectInit ∈ ds_T := ds_wb_T (p := 308) (by decide +kernel)
theorem fl_X2_9 : ds_fld mt_X2_init 9 2 2 := ds_fb_ok (p := 311) (by decide +kernel)
theorem fp_X2_9 : di_fp mt_X2_init 2 2 (.array (.int)) := ⟨_, rfl, by decide +kernel, rfl⟩
theorem fl_X2_15 : ds_fld mt_X2_init 15 2 3 := ds_fb_ok (p := 312) (by decide +kernel)
theorem fp_X2_15 : di_fp mt_X2_init 2 3 (.array (.int)) := ⟨_, rfl, by decide +kernel, rfl⟩
theorem fl_X2_18 : ds_fld mt_X2_init 18 2 4 := ds_fb_ok (p := 313) (by decide +kernel)
theorem fp_X2_18 : di_fp mt_X2_init 2 4 (.array (.int)) := ⟨_, rfl, by decide +kernel, rfl⟩
theorem fl_X2_21 : ds_fld mt_X2_init 21 2 0 := ds_fb_ok (p := 309) (by decide +kernel)
theorem fp_X2_21 : di_fp mt_X2_init 2 0 (.object "WayWeights$Net") := ⟨_, rfl, by decide +kernel, rfl⟩
theorem fl_X2_25 : ds_fld mt_X2_init 25 2 1 := ds_fb_ok (p := 310) (by decide +kernel)
theorem fp_X2_25 : di_fp mt_X2_init 2 1 (.object "WayWeights$Routes") := ⟨_, rfl, by decide +kernel, rfl⟩
def mt_X9_init : ds_M := (⟨"WayWeightsModel", "<init>", "()V"⟩, prog_11_method_1_code, 1, none, 1, 12)
theorem dc_X9_0 : decode mt_X9_init.2.1 0 = .ok (.aload_n 0, 1) := by decide +kernel
theorem dc_X9_1 : decode mt_X9_init.2.1 1 = .ok (.invokespecial 1, 3) := by decide +kernel
theorem dc_X9_4 : decode mt_X9_init.2.1 4 = .ok (.aload_n 0, 1) := by decide +kernel
theorem dc_X9_5 : decode mt_X9_init.2.1 5 = .ok (.iconst 4, 1) := by decide +kernel
theorem dc_X9_6 : decode mt_X9_init.2.1 6 = .ok (.putfield 7, 3) := by decide +kernel
theorem dc_X9_9 : decode mt_X9_init.2.1 9 = .ok (.aload_n 0, 1) := by decide +kernel
theorem dc_X9_10 : decode mt_X9_init.2.1 10 = .ok (.bipush 10, 2) := by decide +kernel
theorem dc_X9_12 : decode mt_X9_init.2.1 12 = .ok (.newarray .int, 2) := by decide +kernel
theorem dc_X9_14 : decode mt_X9_init.2.1 14 = .ok (.putfield 13, 3) := by decide +kernel
theorem dc_X9_17 : decode mt_X9_init.2.1 17 = .ok (.aload_n 0, 1) := by decide +kernel
theorem dc_X9_18 : decode mt_X9_init.2.1 18 = .ok (.bipush 10, 2) := by decide +kernel
theorem dc_X9_20 : decode mt_X9_init.2.1 20 = .ok (.newarray .int, 2) := by decide +kernel
theorem dc_X9_22 : decode mt_X9_init.2.1 22 = .ok (.putfield 17, 3) := by decide +kernel
theorem dc_X9_25 : decode mt_X9_init.2.1 25 = .ok (.aload_n 0, 1) := by decide +kernel
theorem dc_X9_26 : decode mt_X9_init.2.1 26 = .ok (.bipush 10, 2) := by decide +kernel
theorem dc_X9_28 : decode mt_X9_init.2.1 28 = .ok (.newarray .int, 2) := by decide +kernel
theorem dc_X9_30 : decode mt_X9_init.2.1 30 = .ok (.putfield 20, 3) := by decide +kernel
theorem dc_X9_33 : decode mt_X9_init.2.1 33 = .ok (.aload_n 0, 1) := by decide +kernel
theorem dc_X9_34 : decode mt_X9_init.2.1 34 = .ok (.bipush 10, 2) := by decide +kernel
theorem dc_X9_36 : decode mt_X9_init.2.1 36 = .ok (.newarray .int, 2) := by decide +kernel
theorem dc_X9_38 : decode mt_X9_init.2.1 38 = .ok (.putfield 23, 3) := by decide +kernel
theorem dc_X9_41 : decode mt_X9_init.2.1 41 = .ok (.aload_n 0, 1) := by decide +kernel
theorem dc_X9_42 : decode mt_X9_init.2.1 42 = .ok (.bipush 10, 2) := by decide +kernel
theorem dc_X9_44 : decode mt_X9_init.2.1 44 = .ok (.newarray .boolean, 2) := by decide +kernel
theorem dc_X9_46 : decode mt_X9_init.2.1 46 = .ok (.putfield 26, 3) := by decide +kernel
theorem dc_X9_49 : decode mt_X9_init.2.1 49 = .ok (.aload_n 0, 1) := by decide +kernel
theorem dc_X9_50 : decode mt_X9_init.2.1 50 = .ok (.bipush 10, 2) := by decide +kernel
theorem dc_X9_52 : decode mt_X9_init.2.1 52 = .ok (.newarray .boolean, 2) := by decide +kernel
theorem dc_X9_54 : decode mt_X9_init.2.1 54 = .ok (.putfield 30, 3) := by decide +kernel
theorem dc_X9_57 : decode mt_X9_init.2.1 57 = .ok (.aload_n 0, 1) := by decide +kernel
theorem dc_X9_58 : decode mt_X9_init.2.1 58 = .ok (.bipush 108, 2) := by decide +kernel
theorem dc_X9_60 : decode mt_X9_init.2.1 60 = .ok (.newarray .int, 2) := by decide +kernel
theorem dc_X9_62 : decode mt_X9_init.2.1 62 = .ok (.putfield 33, 3) := by decide +kernel
theorem dc_X9_65 : decode mt_X9_init.2.1 65 = .ok (.aload_n 0, 1) := by decide +kernel
theorem dc_X9_66 : decode mt_X9_init.2.1 66 = .ok (.bipush 10, 2) := by decide +kernel
theorem dc_X9_68 : decode mt_X9_init.2.1 68 = .ok (.newarray .int, 2) := by decide +kernel
theorem dc_X9_70 : decode mt_X9_init.2.1 70 = .ok (.putfield 36, 3) := by decide +kernel
theorem dc_X9_73 : decode mt_X9_init.2.1 73 = .ok (.aload_n 0, 1) := by decide +kernel
theorem dc_X9_74 : decode mt_X9_init.2.1 74 = .ok (.bipush 6, 2) := by decide +kernel
theorem dc_X9_76 : decode mt_X9_init.2.1 76 = .ok (.newarray .int, 2) := by decide +kernel
theorem dc_X9_78 : decode mt_X9_init.2.1 78 = .ok (.putfield 39, 3) := by decide +kernel
theorem dc_X9_81 : decode mt_X9_init.2.1 81 = .ok (.aload_n 0, 1) := by decide +kernel
theorem dc_X9_82 : decode mt_X9_init.2.1 82 = .ok (.bipush (-6), 2) := by decide +kernel
theorem dc_X9_84 : decode mt_X9_init.2.1 84 = .ok (.putfield 42, 3) := by decide +kernel
theorem dc_X9_87 : decode mt_X9_init.2.1 87 = .ok (.aload_n 0, 1) := by decide +kernel
theorem dc_X9_88 : decode mt_X9_init.2.1 88 = .ok (.bipush 6, 2) := by decide +kernel
theorem dc_X9_90 : decode mt_X9_init.2.1 90 = .ok (.newarray .long, 2) := by decide +kernel
theorem dc_X9_92 : decode mt_X9_init.2.1 92 = .ok (.putfield 45, 3) := by decide +kernel
theorem dc_X9_95 : decode mt_X9_init.2.1 95 = .ok (.aload_n 0, 1) := by decide +kernel
theorem dc_X9_96 : decode mt_X9_init.2.1 96 = .ok (.bipush 20, 2) := by decide +kernel
theorem dc_X9_98 : decode mt_X9_init.2.1 98 = .ok (.newarray .long, 2) := by decide +kernel
theorem dc_X9_100 : decode mt_X9_init.2.1 100 = .ok (.putfield 49, 3) := by decide +kernel
theorem dc_X9_103 : decode mt_X9_init.2.1 103 = .ok (.aload_n 0, 1) := by decide +kernel
theorem dc_X9_104 : decode mt_X9_init.2.1 104 = .ok (.bipush 20, 2) := by decide +kernel
theorem dc_X9_106 : decode mt_X9_init.2.1 106 = .ok (.newarray .long, 2) := by decide +kernel
theorem dc_X9_108 : decode mt_X9_init.2.1 108 = .ok (.putfield 52, 3) := by decide +kernel
theorem dc_X9_111 : decode mt_X9_init.2.1 111 = .ok (.aload_n 0, 1) := by decide +kernel
theorem dc_X9_112 : decode mt_X9_init.2.1 112 = .ok (.bipush 20, 2) := by decide +kernel
theorem dc_X9_114 : decode mt_X9_init.2.1 114 = .ok (.newarray .long, 2) := by decide +kernel
theorem dc_X9_116 : decode mt_X9_init.2.1 116 = .ok (.putfield 55, 3) := by decide +kernel
theorem dc_X9_119 : decode mt_X9_init.2.1 119 = .ok (.aload_n 0, 1) := by decide +kernel
theorem dc_X9_120 : decode mt_X9_init.2.1 120 = .ok (.bipush 10, 2) := by decide +kernel
theorem dc_X9_122 : decode mt_X9_init.2.1 122 = .ok (.newarray .int, 2) := by decide +kernel
theorem dc_X9_124 : decode mt_X9_init.2.1 124 = .ok (.putfield 58, 3) := by decide +kernel
theorem dc_X9_127 : decode mt_X9_init.2.1 127 = .ok (.aload_n 0, 1) := by decide +kernel
theorem dc_X9_128 : decode mt_X9_init.2.1 128 = .ok (.iconst 5, 1) := by decide +kernel
theorem dc_X9_129 : decode mt_X9_init.2.1 129 = .ok (.newarray .int, 2) := by decide +kernel
theorem dc_X9_131 : decode mt_X9_init.2.1 131 = .ok (.putfield 61, 3) := by decide +kernel
theorem dc_X9_134 : decode mt_X9_init.2.1 134 = .ok (.aload_n 0, 1) := by decide +kernel
theorem dc_X9_135 : decode mt_X9_init.2.1 135 = .ok (.bipush 6, 2) := by decide +kernel
theorem dc_X9_137 : decode mt_X9_init.2.1 137 = .ok (.newarray .int, 2) := by decide +kernel
theorem dc_X9_139 : decode mt_X9_init.2.1 139 = .ok (.putfield 64, 3) := by decide +kernel
theorem dc_X9_142 : decode mt_X9_init.2.1 142 = .ok (.aload_n 0, 1) := by decide +kernel
theorem dc_X9_143 : decode mt_X9_init.2.1 143 = .ok (.bipush 21, 2) := by decide +kernel
theorem dc_X9_145 : decode mt_X9_init.2.1 145 = .ok (.newarray .int, 2) := by decide +kernel
theorem dc_X9_147 : decode mt_X9_init.2.1 147 = .ok (.putfield 67, 3) := by decide +kernel
theorem dc_X9_150 : decode mt_X9_init.2.1 150 = .ok (.aload_n 0, 1) := by decide +kernel
theorem dc_X9_151 : decode mt_X9_init.2.1 151 = .ok (.bipush 36, 2) := by decide +kernel
theorem dc_X9_153 : decode mt_X9_init.2.1 153 = .ok (.newarray .int, 2) := by decide +kernel
theorem dc_X9_155 : decode mt_X9_init.2.1 155 = .ok (.putfield 70, 3) := by decide +kernel
theorem dc_X9_158 : decode mt_X9_init.2.1 158 = .ok (.return_, 1) := by decide +kernel
set_option maxRecDepth 100000 in
theorem zn_X9 : Cond.code mt_X9_init.1 mt_X9_init.2.1 mt_X9_init.2.2.1 mt_X9_init.2.2.2.1 ∈ ds_T ∧ Cond.initialized mt_X9_init.1.cls ∈ ds_T ∧ (mt_X9_init.1.cls ≠ "java/lang/invoke/MethodHandle" ∧ mt_X9_init.1.cls ≠ "java/lang/invoke/VarHandle" ∧ (parseMethodDescriptor mt_X9_init.1.desc).map (fun d => d.parameters.length) = some 0) := ⟨ds_T_of (i := 727) rfl rfl, ds_wb_T (p := 51) (by decide +kernel), by decide +kernel⟩
theorem zx_X9 : Cond.instanceMethod mt_X9_init.1 ∈ ds_T := ds_wb_T (p := 726) (by decide +kernel)
theorem zt_X9 : Cond.instantiable RX9 33 ∈ ds_T := ds_wb_T (p := 724) (by decide +kernel)
theorem zv_X9 : Cond.initialized RX9 ∈ ds_T := ds_wb_T (p := 51) (by decide +kernel)
def f0_X9 : List Value := [.int 0, .null, .null, .null, .null, .null, .null, .int 0, .null, .int 0, .int 0, .null, .null, .int 0, .null, .null, .long 0, .null, .null, .long 0, .long 0, .int 0, .long 0, .long 0, .int 0, .int 0, .null, .null, .long 0, .long 0, .null, .null, .null]
theorem f0_X9_ok : ∀ j, j < 33 → defaultValue (tyX9 j) = vp_V f0_X9 j := by decide +kernel
theorem ml_X9_1 : Cond.methodLink mt_X9_init.1.cls 1 Lib.objectInit ∈ ds_T := ds_wb_T (p := 728) (by decide +kernel)
theorem fl_X9_7 : ds_fld mt_X9_init 7 9 0 := ds_fb_ok (p := 729) (by decide +kernel)
theorem fp_X9_7 : di_fp mt_X9_init 9 0 (.int) := ⟨_, rfl, by decide +kernel, rfl⟩
theorem fl_X9_13 : ds_fld mt_X9_init 13 9 1 := ds_fb_ok (p := 730) (by decide +kernel)
theorem fp_X9_13 : di_fp mt_X9_init 9 1 (.array (.int)) := ⟨_, rfl, by decide +kernel, rfl⟩
theorem fl_X9_17 : ds_fld mt_X9_init 17 9 2 := ds_fb_ok (p := 731) (by decide +kernel)
theorem fp_X9_17 : di_fp mt_X9_init 9 2 (.array (.int)) := ⟨_, rfl, by decide +kernel, rfl⟩
theorem fl_X9_20 : ds_fld mt_X9_init 20 9 3 := ds_fb_ok (p := 732) (by decide +kernel)
theorem fp_X9_20 : di_fp mt_X9_init 9 3 (.array (.int)) := ⟨_, rfl, by decide +kernel, rfl⟩
theorem fl_X9_23 : ds_fld mt_X9_init 23 9 4 := ds_fb_ok (p := 733) (by decide +kernel)
theorem fp_X9_23 : di_fp mt_X9_init 9 4 (.array (.int)) := ⟨_, rfl, by decide +kernel, rfl⟩
theorem fl_X9_26 : ds_fld mt_X9_init 26 9 5 := ds_fb_ok (p := 734) (by decide +kernel)
theorem fp_X9_26 : di_fp mt_X9_init 9 5 (.array (.boolean)) := ⟨_, rfl, by decide +kernel, rfl⟩
theorem fl_X9_30 : ds_fld mt_X9_init 30 9 6 := ds_fb_ok (p := 735) (by decide +kernel)
theorem fp_X9_30 : di_fp mt_X9_init 9 6 (.array (.boolean)) := ⟨_, rfl, by decide +kernel, rfl⟩
theorem fl_X9_33 : ds_fld mt_X9_init 33 9 8 := ds_fb_ok (p := 737) (by decide +kernel)
theorem fp_X9_33 : di_fp mt_X9_init 9 8 (.array (.int)) := ⟨_, rfl, by decide +kernel, rfl⟩
theorem fl_X9_36 : ds_fld mt_X9_init 36 9 11 := ds_fb_ok (p := 740) (by decide +kernel)
theorem fp_X9_36 : di_fp mt_X9_init 9 11 (.array (.int)) := ⟨_, rfl, by decide +kernel, rfl⟩
theorem fl_X9_39 : ds_fld mt_X9_init 39 9 12 := ds_fb_ok (p := 741) (by decide +kernel)
theorem fp_X9_39 : di_fp mt_X9_init 9 12 (.array (.int)) := ⟨_, rfl, by decide +kernel, rfl⟩
theorem fl_X9_42 : ds_fld mt_X9_init 42 9 13 := ds_fb_ok (p := 742) (by decide +kernel)
theorem fp_X9_42 : di_fp mt_X9_init 9 13 (.int) := ⟨_, rfl, by decide +kernel, rfl⟩
theorem fl_X9_45 : ds_fld mt_X9_init 45 9 14 := ds_fb_ok (p := 743) (by decide +kernel)
theorem fp_X9_45 : di_fp mt_X9_init 9 14 (.array (.long)) := ⟨_, rfl, by decide +kernel, rfl⟩
theorem fl_X9_49 : ds_fld mt_X9_init 49 9 15 := ds_fb_ok (p := 744) (by decide +kernel)
theorem fp_X9_49 : di_fp mt_X9_init 9 15 (.array (.long)) := ⟨_, rfl, by decide +kernel, rfl⟩
theorem fl_X9_52 : ds_fld mt_X9_init 52 9 17 := ds_fb_ok (p := 746) (by decide +kernel)
theorem fp_X9_52 : di_fp mt_X9_init 9 17 (.array (.long)) := ⟨_, rfl, by decide +kernel, rfl⟩
theorem fl_X9_55 : ds_fld mt_X9_init 55 9 18 := ds_fb_ok (p := 747) (by decide +kernel)
theorem fp_X9_55 : di_fp mt_X9_init 9 18 (.array (.long)) := ⟨_, rfl, by decide +kernel, rfl⟩
theorem fl_X9_58 : ds_fld mt_X9_init 58 9 26 := ds_fb_ok (p := 755) (by decide +kernel)
theorem fp_X9_58 : di_fp mt_X9_init 9 26 (.array (.int)) := ⟨_, rfl, by decide +kernel, rfl⟩
theorem fl_X9_61 : ds_fld mt_X9_init 61 9 27 := ds_fb_ok (p := 756) (by decide +kernel)
theorem fp_X9_61 : di_fp mt_X9_init 9 27 (.array (.int)) := ⟨_, rfl, by decide +kernel, rfl⟩
theorem fl_X9_64 : ds_fld mt_X9_init 64 9 30 := ds_fb_ok (p := 759) (by decide +kernel)
theorem fp_X9_64 : di_fp mt_X9_init 9 30 (.array (.int)) := ⟨_, rfl, by decide +kernel, rfl⟩
theorem fl_X9_67 : ds_fld mt_X9_init 67 9 31 := ds_fb_ok (p := 760) (by decide +kernel)
theorem fp_X9_67 : di_fp mt_X9_init 9 31 (.array (.int)) := ⟨_, rfl, by decide +kernel, rfl⟩
theorem fl_X9_70 : ds_fld mt_X9_init 70 9 32 := ds_fb_ok (p := 761) (by decide +kernel)
theorem fp_X9_70 : di_fp mt_X9_init 9 32 (.array (.int)) := ⟨_, rfl, by decide +kernel, rfl⟩
def mt_X8_init : ds_M := (⟨"WayWeights", "<init>", "()V"⟩, prog_1_method_1_code, 1, none, 3, 56)
theorem dc_X8_0 : decode mt_X8_init.2.1 0 = .ok (.aload_n 0, 1) := by decide +kernel
theorem dc_X8_1 : decode mt_X8_init.2.1 1 = .ok (.invokespecial 3, 3) := by decide +kernel
theorem dc_X8_4 : decode mt_X8_init.2.1 4 = .ok (.aload_n 0, 1) := by decide +kernel
theorem dc_X8_5 : decode mt_X8_init.2.1 5 = .ok (.new 9, 3) := by decide +kernel
theorem dc_X8_8 : decode mt_X8_init.2.1 8 = .ok (.dup, 1) := by decide +kernel
theorem dc_X8_9 : decode mt_X8_init.2.1 9 = .ok (.invokespecial 11, 3) := by decide +kernel
theorem dc_X8_12 : decode mt_X8_init.2.1 12 = .ok (.putfield 12, 3) := by decide +kernel
theorem dc_X8_15 : decode mt_X8_init.2.1 15 = .ok (.aload_n 0, 1) := by decide +kernel
theorem dc_X8_16 : decode mt_X8_init.2.1 16 = .ok (.iconst 3, 1) := by decide +kernel
theorem dc_X8_17 : decode mt_X8_init.2.1 17 = .ok (.bipush 36, 2) := by decide +kernel
theorem dc_X8_19 : decode mt_X8_init.2.1 19 = .ok (.multianewarray 16 2, 4) := by decide +kernel
theorem dc_X8_23 : decode mt_X8_init.2.1 23 = .ok (.putfield 18, 3) := by decide +kernel
theorem dc_X8_26 : decode mt_X8_init.2.1 26 = .ok (.aload_n 0, 1) := by decide +kernel
theorem dc_X8_27 : decode mt_X8_init.2.1 27 = .ok (.new 21, 3) := by decide +kernel
theorem dc_X8_30 : decode mt_X8_init.2.1 30 = .ok (.dup, 1) := by decide +kernel
theorem dc_X8_31 : decode mt_X8_init.2.1 31 = .ok (.invokespecial 23, 3) := by decide +kernel
theorem dc_X8_34 : decode mt_X8_init.2.1 34 = .ok (.putfield 24, 3) := by decide +kernel
theorem dc_X8_37 : decode mt_X8_init.2.1 37 = .ok (.aload_n 0, 1) := by decide +kernel
theorem dc_X8_38 : decode mt_X8_init.2.1 38 = .ok (.new 28, 3) := by decide +kernel
theorem dc_X8_41 : decode mt_X8_init.2.1 41 = .ok (.dup, 1) := by decide +kernel
theorem dc_X8_42 : decode mt_X8_init.2.1 42 = .ok (.invokespecial 30, 3) := by decide +kernel
theorem dc_X8_45 : decode mt_X8_init.2.1 45 = .ok (.putfield 31, 3) := by decide +kernel
theorem dc_X8_48 : decode mt_X8_init.2.1 48 = .ok (.aload_n 0, 1) := by decide +kernel
theorem dc_X8_49 : decode mt_X8_init.2.1 49 = .ok (.new 35, 3) := by decide +kernel
theorem dc_X8_52 : decode mt_X8_init.2.1 52 = .ok (.dup, 1) := by decide +kernel
theorem dc_X8_53 : decode mt_X8_init.2.1 53 = .ok (.invokespecial 37, 3) := by decide +kernel
theorem dc_X8_56 : decode mt_X8_init.2.1 56 = .ok (.putfield 38, 3) := by decide +kernel
theorem dc_X8_59 : decode mt_X8_init.2.1 59 = .ok (.aload_n 0, 1) := by decide +kernel
theorem dc_X8_60 : decode mt_X8_init.2.1 60 = .ok (.new 42, 3) := by decide +kernel
theorem dc_X8_63 : decode mt_X8_init.2.1 63 = .ok (.dup, 1) := by decide +kernel
theorem dc_X8_64 : decode mt_X8_init.2.1 64 = .ok (.aload_n 0, 1) := by decide +kernel
theorem dc_X8_65 : decode mt_X8_init.2.1 65 = .ok (.getfield 12, 3) := by decide +kernel
theorem dc_X8_68 : decode mt_X8_init.2.1 68 = .ok (.aload_n 0, 1) := by decide +kernel
theorem dc_X8_69 : decode mt_X8_init.2.1 69 = .ok (.getfield 18, 3) := by decide +kernel
theorem dc_X8_72 : decode mt_X8_init.2.1 72 = .ok (.aload_n 0, 1) := by decide +kernel
theorem dc_X8_73 : decode mt_X8_init.2.1 73 = .ok (.getfield 24, 3) := by decide +kernel
theorem dc_X8_76 : decode mt_X8_init.2.1 76 = .ok (.aload_n 0, 1) := by decide +kernel
theorem dc_X8_77 : decode mt_X8_init.2.1 77 = .ok (.getfield 31, 3) := by decide +kernel
theorem dc_X8_80 : decode mt_X8_init.2.1 80 = .ok (.invokespecial 44, 3) := by decide +kernel
theorem dc_X8_83 : decode mt_X8_init.2.1 83 = .ok (.putfield 47, 3) := by decide +kernel
theorem dc_X8_86 : decode mt_X8_init.2.1 86 = .ok (.aload_n 0, 1) := by decide +kernel
theorem dc_X8_87 : decode mt_X8_init.2.1 87 = .ok (.new 51, 3) := by decide +kernel
theorem dc_X8_90 : decode mt_X8_init.2.1 90 = .ok (.dup, 1) := by decide +kernel
theorem dc_X8_91 : decode mt_X8_init.2.1 91 = .ok (.aload_n 0, 1) := by decide +kernel
theorem dc_X8_92 : decode mt_X8_init.2.1 92 = .ok (.getfield 12, 3) := by decide +kernel
theorem dc_X8_95 : decode mt_X8_init.2.1 95 = .ok (.aload_n 0, 1) := by decide +kernel
theorem dc_X8_96 : decode mt_X8_init.2.1 96 = .ok (.getfield 47, 3) := by decide +kernel
theorem dc_X8_99 : decode mt_X8_init.2.1 99 = .ok (.invokespecial 53, 3) := by decide +kernel
theorem dc_X8_102 : decode mt_X8_init.2.1 102 = .ok (.putfield 56, 3) := by decide +kernel
theorem dc_X8_105 : decode mt_X8_init.2.1 105 = .ok (.aload_n 0, 1) := by decide +kernel
theorem dc_X8_106 : decode mt_X8_init.2.1 106 = .ok (.new 60, 3) := by decide +kernel
theorem dc_X8_109 : decode mt_X8_init.2.1 109 = .ok (.dup, 1) := by decide +kernel
theorem dc_X8_110 : decode mt_X8_init.2.1 110 = .ok (.aload_n 0, 1) := by decide +kernel
theorem dc_X8_111 : decode mt_X8_init.2.1 111 = .ok (.getfield 12, 3) := by decide +kernel
theorem dc_X8_114 : decode mt_X8_init.2.1 114 = .ok (.aload_n 0, 1) := by decide +kernel
theorem dc_X8_115 : decode mt_X8_init.2.1 115 = .ok (.getfield 24, 3) := by decide +kernel
theorem dc_X8_118 : decode mt_X8_init.2.1 118 = .ok (.invokespecial 62, 3) := by decide +kernel
theorem dc_X8_121 : decode mt_X8_init.2.1 121 = .ok (.putfield 65, 3) := by decide +kernel
theorem dc_X8_124 : decode mt_X8_init.2.1 124 = .ok (.aload_n 0, 1) := by decide +kernel
theorem dc_X8_125 : decode mt_X8_init.2.1 125 = .ok (.bipush 36, 2) := by decide +kernel
theorem dc_X8_127 : decode mt_X8_init.2.1 127 = .ok (.newarray .int, 2) := by decide +kernel
theorem dc_X8_129 : decode mt_X8_init.2.1 129 = .ok (.putfield 69, 3) := by decide +kernel
theorem dc_X8_132 : decode mt_X8_init.2.1 132 = .ok (.return_, 1) := by decide +kernel
set_option maxRecDepth 100000 in
theorem zn_X8 : Cond.code mt_X8_init.1 mt_X8_init.2.1 mt_X8_init.2.2.1 mt_X8_init.2.2.2.1 ∈ ds_T ∧ Cond.initialized mt_X8_init.1.cls ∈ ds_T ∧ (mt_X8_init.1.cls ≠ "java/lang/invoke/MethodHandle" ∧ mt_X8_init.1.cls ≠ "java/lang/invoke/VarHandle" ∧ (parseMethodDescriptor mt_X8_init.1.desc).map (fun d => d.parameters.length) = some 0) := ⟨ds_T_of (i := 60) rfl rfl, ds_wb_T (p := 42) (by decide +kernel), by decide +kernel⟩
theorem zx_X8 : Cond.instanceMethod mt_X8_init.1 ∈ ds_T := ds_wb_T (p := 59) (by decide +kernel)
theorem zt_X8 : Cond.instantiable RX8 9 ∈ ds_T := ds_wb_T (p := 57) (by decide +kernel)
theorem zv_X8 : Cond.initialized RX8 ∈ ds_T := ds_wb_T (p := 42) (by decide +kernel)
def f0_X8 : List Value := [.null, .null, .null, .null, .null, .null, .null, .null, .null]
theorem f0_X8_ok : ∀ j, j < 9 → defaultValue (tyX8 j) = vp_V f0_X8 j := by decide +kernel
theorem ml_X8_3 : Cond.methodLink mt_X8_init.1.cls 3 Lib.objectInit ∈ ds_T := ds_wb_T (p := 61) (by decide +kernel)
theorem cl_X8_9 : Cond.classLink mt_X8_init.1.cls 9 "WayWeights$Net" ∈ ds_T := ds_wb_T (p := 64) (by decide +kernel)
theorem pw_X8_X1 : ds_cw mt_X8_init mt_X1_init 0 := ⟨zn_X1.1, zn_X1.2.1, zn_X1.2.2, by decide, by decide⟩
theorem fl_X8_12 : ds_fld mt_X8_init 12 8 0 := ds_fb_ok (p := 325) (by decide +kernel)
theorem fp_X8_12 : di_fp mt_X8_init 8 0 (.object "WayWeights$Net") := ⟨_, rfl, by decide +kernel, rfl⟩
theorem cl_X8_16 : Cond.classLink mt_X8_init.1.cls 16 "[[I" ∈ ds_T := ds_wb_T (p := 124) (by decide +kernel)
theorem fl_X8_18 : ds_fld mt_X8_init 18 8 1 := ds_fb_ok (p := 326) (by decide +kernel)
theorem fp_X8_18 : di_fp mt_X8_init 8 1 (.array (.array (.int))) := ⟨_, rfl, by decide +kernel, rfl⟩
theorem cl_X8_21 : Cond.classLink mt_X8_init.1.cls 21 "WayWeights$Routes" ∈ ds_T := ds_wb_T (p := 126) (by decide +kernel)
theorem ml_X8_23 : Cond.methodLink mt_X8_init.1.cls 23 mt_X4_init.1 ∈ ds_T := ds_wb_T (p := 128) (by decide +kernel)
theorem pw_X8_X4 : ds_cw mt_X8_init mt_X4_init 0 := ⟨zn_X4.1, zn_X4.2.1, zn_X4.2.2, by decide, by decide⟩
theorem fl_X8_24 : ds_fld mt_X8_init 24 8 2 := ds_fb_ok (p := 327) (by decide +kernel)
theorem fp_X8_24 : di_fp mt_X8_init 8 2 (.object "WayWeights$Routes") := ⟨_, rfl, by decide +kernel, rfl⟩
theorem cl_X8_28 : Cond.classLink mt_X8_init.1.cls 28 "WayWeights$Flow" ∈ ds_T := ds_wb_T (p := 174) (by decide +kernel)
theorem pw_X8_X0 : ds_cw mt_X8_init mt_X0_init 0 := ⟨zn_X0.1, zn_X0.2.1, zn_X0.2.2, by decide, by decide⟩
theorem fl_X8_31 : ds_fld mt_X8_init 31 8 3 := ds_fb_ok (p := 328) (by decide +kernel)
theorem fp_X8_31 : di_fp mt_X8_init 8 3 (.object "WayWeights$Flow") := ⟨_, rfl, by decide +kernel, rfl⟩
theorem cl_X8_35 : Cond.classLink mt_X8_init.1.cls 35 "WayWeights$Peak" ∈ ds_T := ds_wb_T (p := 190) (by decide +kernel)
theorem pw_X8_X3 : ds_cw mt_X8_init mt_X3_init 0 := ⟨zn_X3.1, zn_X3.2.1, zn_X3.2.2, by decide, by decide⟩
theorem fl_X8_38 : ds_fld mt_X8_init 38 8 4 := ds_fb_ok (p := 329) (by decide +kernel)
theorem fp_X8_38 : di_fp mt_X8_init 8 4 (.object "WayWeights$Peak") := ⟨_, rfl, by decide +kernel, rfl⟩
theorem cl_X8_42 : Cond.classLink mt_X8_init.1.cls 42 "WayWeights$Survey" ∈ ds_T := ds_wb_T (p := 223) (by decide +kernel)
theorem ml_X8_44 : Cond.methodLink mt_X8_init.1.cls 44 mt_X6_init.1 ∈ ds_T := ds_wb_T (p := 225) (by decide +kernel)
theorem pw_X8_X6 : ds_cw mt_X8_init mt_X6_init 4 := ⟨zn_X6.1, zn_X6.2.1, zn_X6.2.2, by decide, by decide⟩
theorem fl_X8_47 : ds_fld mt_X8_init 47 8 5 := ds_fb_ok (p := 330) (by decide +kernel)
theorem fp_X8_47 : di_fp mt_X8_init 8 5 (.object "WayWeights$Survey") := ⟨_, rfl, by decide +kernel, rfl⟩
theorem cl_X8_51 : Cond.classLink mt_X8_init.1.cls 51 "WayWeights$Seeker" ∈ ds_T := ds_wb_T (p := 251) (by decide +kernel)
theorem ml_X8_53 : Cond.methodLink mt_X8_init.1.cls 53 mt_X5_init.1 ∈ ds_T := ds_wb_T (p := 253) (by decide +kernel)
theorem pw_X8_X5 : ds_cw mt_X8_init mt_X5_init 2 := ⟨zn_X5.1, zn_X5.2.1, zn_X5.2.2, by decide, by decide⟩
theorem fl_X8_56 : ds_fld mt_X8_init 56 8 6 := ds_fb_ok (p := 331) (by decide +kernel)
theorem fp_X8_56 : di_fp mt_X8_init 8 6 (.object "WayWeights$Seeker") := ⟨_, rfl, by decide +kernel, rfl⟩
theorem cl_X8_60 : Cond.classLink mt_X8_init.1.cls 60 "WayWeights$News" ∈ ds_T := ds_wb_T (p := 303) (by decide +kernel)
theorem ml_X8_62 : Cond.methodLink mt_X8_init.1.cls 62 mt_X2_init.1 ∈ ds_T := ds_wb_T (p := 305) (by decide +kernel)
theorem pw_X8_X2 : ds_cw mt_X8_init mt_X2_init 2 := ⟨zn_X2.1, zn_X2.2.1, zn_X2.2.2, by decide, by decide⟩
theorem fl_X8_65 : ds_fld mt_X8_init 65 8 7 := ds_fb_ok (p := 332) (by decide +kernel)
theorem fp_X8_65 : di_fp mt_X8_init 8 7 (.object "WayWeights$News") := ⟨_, rfl, by decide +kernel, rfl⟩
theorem fl_X8_69 : ds_fld mt_X8_init 69 8 8 := ds_fb_ok (p := 333) (by decide +kernel)
theorem fp_X8_69 : di_fp mt_X8_init 8 8 (.array (.int)) := ⟨_, rfl, by decide +kernel, rfl⟩
