/-- one int, one long of a cell; an array's first n ints out of another -/
def ds_wi (σ : ds_S) (c k : Nat) (x : Int32) : ds_S := ds_si σ c (upd (σ.1 c) k x)
def ds_wl (σ : ds_S) (c k : Nat) (x : Int64) : ds_S := ds_sl σ c (vp_updL (σ.2 c) k x)
def ds_cp (σ : ds_S) (a b n : Nat) : ds_S := ds_si σ b (va_cpy (σ.1 a) (σ.1 b) 0 0 n)
def ds_EI (z : ds_M) (Y : ds_Y) (as : List Value) (σ : ds_S) (K : Int32 → ds_S → Prop) : Prop := ds_E z Y as σ (fun r σ' => ∃ x, r = some (.int x) ∧ K x σ')
def ds_EL (z : ds_M) (Y : ds_Y) (as : List Value) (σ : ds_S) (K : Int64 → ds_S → Prop) : Prop := ds_E z Y as σ (fun r σ' => ∃ x, r = some (.long x) ∧ K x σ')
def ds_ER (z : ds_M) (Y : ds_Y) (as : List Value) (σ : ds_S) (K : Nat → ds_S → Prop) : Prop := ds_E z Y as σ (fun r σ' => ∃ x, r = some (.ref x) ∧ K x σ')
def ds_EV (z : ds_M) (Y : ds_Y) (as : List Value) (σ : ds_S) (K : ds_S → Prop) : Prop := ds_E z Y as σ (fun r σ' => r = none ∧ K σ')
theorem ds_EI.mo {z : ds_M} {Y : ds_Y} {as : List Value} {σ : ds_S} {K K' : Int32 → ds_S → Prop} (h : ds_EI z Y as σ K) (hk : ∀ x σ', K x σ' → K' x σ') : ds_EI z Y as σ K' := ds_E.mono h fun r σ' ⟨x, e, q⟩ => ⟨x, e, hk x σ' q⟩
theorem ds_EL.mo {z : ds_M} {Y : ds_Y} {as : List Value} {σ : ds_S} {K K' : Int64 → ds_S → Prop} (h : ds_EL z Y as σ K) (hk : ∀ x σ', K x σ' → K' x σ') : ds_EL z Y as σ K' := ds_E.mono h fun r σ' ⟨x, e, q⟩ => ⟨x, e, hk x σ' q⟩
theorem ds_ER.mo {z : ds_M} {Y : ds_Y} {as : List Value} {σ : ds_S} {K K' : Nat → ds_S → Prop} (h : ds_ER z Y as σ K) (hk : ∀ x σ', K x σ' → K' x σ') : ds_ER z Y as σ K' := ds_E.mono h fun r σ' ⟨x, e, q⟩ => ⟨x, e, hk x σ' q⟩
theorem ds_EV.mo {z : ds_M} {Y : ds_Y} {as : List Value} {σ : ds_S} {K K' : ds_S → Prop} (h : ds_EV z Y as σ K) (hk : ∀ σ', K σ' → K' σ') : ds_EV z Y as σ K' := ds_E.mono h fun r σ' ⟨e, q⟩ => ⟨e, hk σ' q⟩
def Ym : ds_Y := (19, fun c => ([9, 10, 10, 10, 10, 12, 12, 10, 10, 10, 11, 11, 11, 11, 10, 10, 10, 10, 10] : List Nat).getD c 99, fun c => ([0, 10, 10, 10, 10, 10, 10, 108, 10, 6, 6, 20, 20, 20, 10, 5, 6, 21, 36] : List Nat).getD c 0, fun c k => (([[0, 1, 2, 3, 4, 5, 6, 0, 7, 0, 0, 8, 9, 0, 10, 11, 0, 12, 13, 0, 0, 0, 0, 0, 0, 0, 14, 15, 0, 0, 16, 17, 18], [], [], [], [], [], [], [], [], [], [], [], [], [], [], [], [], [], []] : List (List Nat)).getD c []).getD k 0)
def Yc : ds_Y := (65, fun c => ([8, 1, 14, 10, 10, 10, 4, 13, 0, 11, 11, 3, 6, 3, 5, 10, 3, 10, 10, 3, 7, 7, 7, 7, 7, 7, 10, 10, 10, 10, 10, 10, 10, 10, 10, 10, 10, 10, 10, 10, 10, 10, 10, 10, 10, 10, 10, 10, 10, 10, 10, 10, 10, 10, 10, 10, 2, 10, 10, 10, 10, 10, 10, 10, 10] : List Nat).getD c 99, fun c => ([0, 0, 3, 36, 36, 36, 0, 6, 0, 6, 20, 0, 0, 0, 0, 10, 0, 5, 10, 0, 0, 0, 0, 0, 0, 0, 6, 6, 6, 6, 6, 6, 6, 6, 6, 6, 6, 6, 6, 6, 6, 6, 6, 6, 10, 10, 10, 10, 10, 10, 10, 10, 10, 10, 10, 10, 0, 10, 756, 21, 36, 10, 10, 10, 10] : List Nat).getD c 0, fun c k => (([[1, 2, 6, 8, 11, 12, 14, 56, 60], [0, 0, 61, 62, 63, 64, 0, 0], [3, 4, 5], [], [], [], [7], [20, 21, 22, 23, 24, 25], [9, 10], [], [], [0, 0, 0, 0, 0, 0], [1, 2, 0, 6, 8, 13], [0, 0, 0, 0, 0, 0], [1, 12, 0, 0, 15, 16, 0, 0, 17, 0, 0, 18, 19], [], [0, 0, 0, 0, 0, 0], [], [], [0, 0, 0, 0, 0, 0], [26, 32, 0, 38, 44, 50], [27, 33, 0, 39, 45, 51], [28, 34, 0, 40, 46, 52], [29, 35, 0, 41, 47, 53], [30, 36, 0, 42, 48, 54], [31, 37, 0, 43, 49, 55], [], [], [], [], [], [], [], [], [], [], [], [], [], [], [], [], [], [], [], [], [], [], [], [], [], [], [], [], [], [], [1, 6, 57, 58, 59], [], [], [], [], [], [], [], []] : List (List Nat)).getD c []).getD k 0)
theorem ds_ac1 : Cond.native arraycopyName ∈ ds_T := ds_wb_T (p := 592) (by decide +kernel)
theorem ds_ac2 : Cond.static arraycopyName ∈ ds_T := ds_wb_T (p := 591) (by decide +kernel)
theorem ds_ac3 : Cond.initialized "java/lang/System" ∈ ds_T := ds_wb_T (p := 54) (by decide +kernel)
set_option maxRecDepth 100000 in
theorem zw_X0_sendOne : Cond.code mt_X0_sendOne.1 mt_X0_sendOne.2.1 mt_X0_sendOne.2.2.1 mt_X0_sendOne.2.2.2.1 ∈ ds_T ∧ Cond.initialized mt_X0_sendOne.1.cls ∈ ds_T ∧ (mt_X0_sendOne.1.cls ≠ "java/lang/invoke/MethodHandle" ∧ mt_X0_sendOne.1.cls ≠ "java/lang/invoke/VarHandle" ∧ (parseMethodDescriptor mt_X0_sendOne.1.desc).map (fun d => d.parameters.length) = some 3) := ⟨ds_T_of (i := 465) rfl rfl, ds_wb_T (p := 46) (by decide +kernel), by decide +kernel⟩
theorem zi_X0_sendOne : Cond.instanceMethod mt_X0_sendOne.1 ∈ ds_T := ds_wb_T (p := 463) (by decide +kernel)
theorem zs_X0_sendOne : Cond.selects mt_X0_sendOne.1.cls mt_X0_sendOne.1 mt_X0_sendOne.1 ∈ ds_T := ds_wb_T (p := 464) (by decide +kernel)
set_option maxRecDepth 100000 in
theorem zw_X0_sendTable : Cond.code mt_X0_sendTable.1 mt_X0_sendTable.2.1 mt_X0_sendTable.2.2.1 mt_X0_sendTable.2.2.2.1 ∈ ds_T ∧ Cond.initialized mt_X0_sendTable.1.cls ∈ ds_T ∧ (mt_X0_sendTable.1.cls ≠ "java/lang/invoke/MethodHandle" ∧ mt_X0_sendTable.1.cls ≠ "java/lang/invoke/VarHandle" ∧ (parseMethodDescriptor mt_X0_sendTable.1.desc).map (fun d => d.parameters.length) = some 3) := ⟨ds_T_of (i := 504) rfl rfl, ds_wb_T (p := 46) (by decide +kernel), by decide +kernel⟩
theorem zi_X0_sendTable : Cond.instanceMethod mt_X0_sendTable.1 ∈ ds_T := ds_wb_T (p := 502) (by decide +kernel)
theorem zs_X0_sendTable : Cond.selects mt_X0_sendTable.1.cls mt_X0_sendTable.1 mt_X0_sendTable.1 ∈ ds_T := ds_wb_T (p := 503) (by decide +kernel)
set_option maxRecDepth 100000 in
theorem zw_X0_collect : Cond.code mt_X0_collect.1 mt_X0_collect.2.1 mt_X0_collect.2.2.1 mt_X0_collect.2.2.2.1 ∈ ds_T ∧ Cond.initialized mt_X0_collect.1.cls ∈ ds_T ∧ (mt_X0_collect.1.cls ≠ "java/lang/invoke/MethodHandle" ∧ mt_X0_collect.1.cls ≠ "java/lang/invoke/VarHandle" ∧ (parseMethodDescriptor mt_X0_collect.1.desc).map (fun d => d.parameters.length) = some 3) := ⟨ds_T_of (i := 508) rfl rfl, ds_wb_T (p := 46) (by decide +kernel), by decide +kernel⟩
theorem zi_X0_collect : Cond.instanceMethod mt_X0_collect.1 ∈ ds_T := ds_wb_T (p := 507) (by decide +kernel)
theorem zs_X0_collect : Cond.selects mt_X0_collect.1.cls mt_X0_collect.1 mt_X0_collect.1 ∈ ds_T := ds_wb_T (p := 5) (by decide +kernel)
set_option maxRecDepth 100000 in
theorem zw_X0_pass : Cond.code mt_X0_pass.1 mt_X0_pass.2.1 mt_X0_pass.2.2.1 mt_X0_pass.2.2.2.1 ∈ ds_T ∧ Cond.initialized mt_X0_pass.1.cls ∈ ds_T ∧ (mt_X0_pass.1.cls ≠ "java/lang/invoke/MethodHandle" ∧ mt_X0_pass.1.cls ≠ "java/lang/invoke/VarHandle" ∧ (parseMethodDescriptor mt_X0_pass.1.desc).map (fun d => d.parameters.length) = some 2) := ⟨ds_T_of (i := 473) rfl rfl, ds_wb_T (p := 46) (by decide +kernel), by decide +kernel⟩
theorem zi_X0_pass : Cond.instanceMethod mt_X0_pass.1 ∈ ds_T := ds_wb_T (p := 472) (by decide +kernel)
theorem zs_X0_pass : Cond.selects mt_X0_pass.1.cls mt_X0_pass.1 mt_X0_pass.1 ∈ ds_T := ds_wb_T (p := 3) (by decide +kernel)
set_option maxRecDepth 100000 in
theorem zw_X0_divide : Cond.code mt_X0_divide.1 mt_X0_divide.2.1 mt_X0_divide.2.2.1 mt_X0_divide.2.2.2.1 ∈ ds_T ∧ Cond.initialized mt_X0_divide.1.cls ∈ ds_T ∧ (mt_X0_divide.1.cls ≠ "java/lang/invoke/MethodHandle" ∧ mt_X0_divide.1.cls ≠ "java/lang/invoke/VarHandle" ∧ (parseMethodDescriptor mt_X0_divide.1.desc).map (fun d => d.parameters.length) = some 4) := ⟨ds_T_of (i := 477) rfl rfl, ds_wb_T (p := 46) (by decide +kernel), by decide +kernel⟩
theorem zi_X0_divide : Cond.instanceMethod mt_X0_divide.1 ∈ ds_T := ds_wb_T (p := 476) (by decide +kernel)
theorem zs_X0_divide : Cond.selects mt_X0_divide.1.cls mt_X0_divide.1 mt_X0_divide.1 ∈ ds_T := ds_wb_T (p := 4) (by decide +kernel)
set_option maxRecDepth 100000 in
theorem zw_X1_renew : Cond.code mt_X1_renew.1 mt_X1_renew.2.1 mt_X1_renew.2.2.1 mt_X1_renew.2.2.2.1 ∈ ds_T ∧ Cond.initialized mt_X1_renew.1.cls ∈ ds_T ∧ (mt_X1_renew.1.cls ≠ "java/lang/invoke/MethodHandle" ∧ mt_X1_renew.1.cls ≠ "java/lang/invoke/VarHandle" ∧ (parseMethodDescriptor mt_X1_renew.1.desc).map (fun d => d.parameters.length) = some 1) := ⟨ds_T_of (i := 360) rfl rfl, ds_wb_T (p := 43) (by decide +kernel), by decide +kernel⟩
theorem zi_X1_renew : Cond.instanceMethod mt_X1_renew.1 ∈ ds_T := ds_wb_T (p := 358) (by decide +kernel)
theorem zs_X1_renew : Cond.selects mt_X1_renew.1.cls mt_X1_renew.1 mt_X1_renew.1 ∈ ds_T := ds_wb_T (p := 359) (by decide +kernel)
set_option maxRecDepth 100000 in
theorem zw_X1_join : Cond.code mt_X1_join.1 mt_X1_join.2.1 mt_X1_join.2.2.1 mt_X1_join.2.2.2.1 ∈ ds_T ∧ Cond.initialized mt_X1_join.1.cls ∈ ds_T ∧ (mt_X1_join.1.cls ≠ "java/lang/invoke/MethodHandle" ∧ mt_X1_join.1.cls ≠ "java/lang/invoke/VarHandle" ∧ (parseMethodDescriptor mt_X1_join.1.desc).map (fun d => d.parameters.length) = some 4) := ⟨ds_T_of (i := 386) rfl rfl, ds_wb_T (p := 43) (by decide +kernel), by decide +kernel⟩
theorem zi_X1_join : Cond.instanceMethod mt_X1_join.1 ∈ ds_T := ds_wb_T (p := 384) (by decide +kernel)
theorem zs_X1_join : Cond.selects mt_X1_join.1.cls mt_X1_join.1 mt_X1_join.1 ∈ ds_T := ds_wb_T (p := 385) (by decide +kernel)
set_option maxRecDepth 100000 in
theorem zw_X1_hasBox : Cond.code mt_X1_hasBox.1 mt_X1_hasBox.2.1 mt_X1_hasBox.2.2.1 mt_X1_hasBox.2.2.2.1 ∈ ds_T ∧ Cond.initialized mt_X1_hasBox.1.cls ∈ ds_T ∧ (mt_X1_hasBox.1.cls ≠ "java/lang/invoke/MethodHandle" ∧ mt_X1_hasBox.1.cls ≠ "java/lang/invoke/VarHandle" ∧ (parseMethodDescriptor mt_X1_hasBox.1.desc).map (fun d => d.parameters.length) = some 1) := ⟨ds_T_of (i := 379) rfl rfl, ds_wb_T (p := 43) (by decide +kernel), by decide +kernel⟩
theorem zi_X1_hasBox : Cond.instanceMethod mt_X1_hasBox.1 ∈ ds_T := ds_wb_T (p := 377) (by decide +kernel)
theorem zs_X1_hasBox : Cond.selects mt_X1_hasBox.1.cls mt_X1_hasBox.1 mt_X1_hasBox.1 ∈ ds_T := ds_wb_T (p := 378) (by decide +kernel)
set_option maxRecDepth 100000 in
theorem zw_X1_hasLine : Cond.code mt_X1_hasLine.1 mt_X1_hasLine.2.1 mt_X1_hasLine.2.2.1 mt_X1_hasLine.2.2.2.1 ∈ ds_T ∧ Cond.initialized mt_X1_hasLine.1.cls ∈ ds_T ∧ (mt_X1_hasLine.1.cls ≠ "java/lang/invoke/MethodHandle" ∧ mt_X1_hasLine.1.cls ≠ "java/lang/invoke/VarHandle" ∧ (parseMethodDescriptor mt_X1_hasLine.1.desc).map (fun d => d.parameters.length) = some 1) := ⟨ds_T_of (i := 394) rfl rfl, ds_wb_T (p := 43) (by decide +kernel), by decide +kernel⟩
theorem zi_X1_hasLine : Cond.instanceMethod mt_X1_hasLine.1 ∈ ds_T := ds_wb_T (p := 392) (by decide +kernel)
theorem zs_X1_hasLine : Cond.selects mt_X1_hasLine.1.cls mt_X1_hasLine.1 mt_X1_hasLine.1 ∈ ds_T := ds_wb_T (p := 393) (by decide +kernel)
set_option maxRecDepth 100000 in
theorem zw_X1_arePair : Cond.code mt_X1_arePair.1 mt_X1_arePair.2.1 mt_X1_arePair.2.2.1 mt_X1_arePair.2.2.2.1 ∈ ds_T ∧ Cond.initialized mt_X1_arePair.1.cls ∈ ds_T ∧ (mt_X1_arePair.1.cls ≠ "java/lang/invoke/MethodHandle" ∧ mt_X1_arePair.1.cls ≠ "java/lang/invoke/VarHandle" ∧ (parseMethodDescriptor mt_X1_arePair.1.desc).map (fun d => d.parameters.length) = some 2) := ⟨ds_T_of (i := 375) rfl rfl, ds_wb_T (p := 43) (by decide +kernel), by decide +kernel⟩
theorem zi_X1_arePair : Cond.instanceMethod mt_X1_arePair.1 ∈ ds_T := ds_wb_T (p := 373) (by decide +kernel)
theorem zs_X1_arePair : Cond.selects mt_X1_arePair.1.cls mt_X1_arePair.1 mt_X1_arePair.1 ∈ ds_T := ds_wb_T (p := 374) (by decide +kernel)
set_option maxRecDepth 100000 in
theorem zw_X1_linesThere : Cond.code mt_X1_linesThere.1 mt_X1_linesThere.2.1 mt_X1_linesThere.2.2.1 mt_X1_linesThere.2.2.2.1 ∈ ds_T ∧ Cond.initialized mt_X1_linesThere.1.cls ∈ ds_T ∧ (mt_X1_linesThere.1.cls ≠ "java/lang/invoke/MethodHandle" ∧ mt_X1_linesThere.1.cls ≠ "java/lang/invoke/VarHandle" ∧ (parseMethodDescriptor mt_X1_linesThere.1.desc).map (fun d => d.parameters.length) = some 1) := ⟨ds_T_of (i := 434) rfl rfl, ds_wb_T (p := 43) (by decide +kernel), by decide +kernel⟩
theorem zi_X1_linesThere : Cond.instanceMethod mt_X1_linesThere.1 ∈ ds_T := ds_wb_T (p := 432) (by decide +kernel)
theorem zs_X1_linesThere : Cond.selects mt_X1_linesThere.1.cls mt_X1_linesThere.1 mt_X1_linesThere.1 ∈ ds_T := ds_wb_T (p := 433) (by decide +kernel)
set_option maxRecDepth 100000 in
theorem zw_X2_firstRing : Cond.code mt_X2_firstRing.1 mt_X2_firstRing.2.1 mt_X2_firstRing.2.2.1 mt_X2_firstRing.2.2.2.1 ∈ ds_T ∧ Cond.initialized mt_X2_firstRing.1.cls ∈ ds_T ∧ (mt_X2_firstRing.1.cls ≠ "java/lang/invoke/MethodHandle" ∧ mt_X2_firstRing.1.cls ≠ "java/lang/invoke/VarHandle" ∧ (parseMethodDescriptor mt_X2_firstRing.1.desc).map (fun d => d.parameters.length) = some 2) := ⟨ds_T_of (i := 640) rfl rfl, ds_wb_T (p := 50) (by decide +kernel), by decide +kernel⟩
theorem zi_X2_firstRing : Cond.instanceMethod mt_X2_firstRing.1 ∈ ds_T := ds_wb_T (p := 638) (by decide +kernel)
theorem zs_X2_firstRing : Cond.selects mt_X2_firstRing.1.cls mt_X2_firstRing.1 mt_X2_firstRing.1 ∈ ds_T := ds_wb_T (p := 639) (by decide +kernel)
set_option maxRecDepth 100000 in
theorem zw_X2_countChanges : Cond.code mt_X2_countChanges.1 mt_X2_countChanges.2.1 mt_X2_countChanges.2.2.1 mt_X2_countChanges.2.2.2.1 ∈ ds_T ∧ Cond.initialized mt_X2_countChanges.1.cls ∈ ds_T ∧ (mt_X2_countChanges.1.cls ≠ "java/lang/invoke/MethodHandle" ∧ mt_X2_countChanges.1.cls ≠ "java/lang/invoke/VarHandle" ∧ (parseMethodDescriptor mt_X2_countChanges.1.desc).map (fun d => d.parameters.length) = some 2) := ⟨ds_T_of (i := 669) rfl rfl, ds_wb_T (p := 50) (by decide +kernel), by decide +kernel⟩
theorem zi_X2_countChanges : Cond.instanceMethod mt_X2_countChanges.1 ∈ ds_T := ds_wb_T (p := 667) (by decide +kernel)
theorem zs_X2_countChanges : Cond.selects mt_X2_countChanges.1.cls mt_X2_countChanges.1 mt_X2_countChanges.1 ∈ ds_T := ds_wb_T (p := 668) (by decide +kernel)
set_option maxRecDepth 100000 in
theorem zw_X2_valueAt : Cond.code mt_X2_valueAt.1 mt_X2_valueAt.2.1 mt_X2_valueAt.2.2.1 mt_X2_valueAt.2.2.2.1 ∈ ds_T ∧ Cond.initialized mt_X2_valueAt.1.cls ∈ ds_T ∧ (mt_X2_valueAt.1.cls ≠ "java/lang/invoke/MethodHandle" ∧ mt_X2_valueAt.1.cls ≠ "java/lang/invoke/VarHandle" ∧ (parseMethodDescriptor mt_X2_valueAt.1.desc).map (fun d => d.parameters.length) = some 3) := ⟨ds_T_of (i := 686) rfl rfl, ds_wb_T (p := 50) (by decide +kernel), by decide +kernel⟩
theorem zi_X2_valueAt : Cond.instanceMethod mt_X2_valueAt.1 ∈ ds_T := ds_wb_T (p := 684) (by decide +kernel)
theorem zs_X2_valueAt : Cond.selects mt_X2_valueAt.1.cls mt_X2_valueAt.1 mt_X2_valueAt.1 ∈ ds_T := ds_wb_T (p := 685) (by decide +kernel)
set_option maxRecDepth 100000 in
theorem zw_X2_leastNearer : Cond.code mt_X2_leastNearer.1 mt_X2_leastNearer.2.1 mt_X2_leastNearer.2.2.1 mt_X2_leastNearer.2.2.2.1 ∈ ds_T ∧ Cond.initialized mt_X2_leastNearer.1.cls ∈ ds_T ∧ (mt_X2_leastNearer.1.cls ≠ "java/lang/invoke/MethodHandle" ∧ mt_X2_leastNearer.1.cls ≠ "java/lang/invoke/VarHandle" ∧ (parseMethodDescriptor mt_X2_leastNearer.1.desc).map (fun d => d.parameters.length) = some 1) := ⟨ds_T_of (i := 690) rfl rfl, ds_wb_T (p := 50) (by decide +kernel), by decide +kernel⟩
theorem zi_X2_leastNearer : Cond.instanceMethod mt_X2_leastNearer.1 ∈ ds_T := ds_wb_T (p := 689) (by decide +kernel)
theorem zs_X2_leastNearer : Cond.selects mt_X2_leastNearer.1.cls mt_X2_leastNearer.1 mt_X2_leastNearer.1 ∈ ds_T := ds_wb_T (p := 19) (by decide +kernel)
set_option maxRecDepth 100000 in
theorem zw_X2_measure : Cond.code mt_X2_measure.1 mt_X2_measure.2.1 mt_X2_measure.2.2.1 mt_X2_measure.2.2.2.1 ∈ ds_T ∧ Cond.initialized mt_X2_measure.1.cls ∈ ds_T ∧ (mt_X2_measure.1.cls ≠ "java/lang/invoke/MethodHandle" ∧ mt_X2_measure.1.cls ≠ "java/lang/invoke/VarHandle" ∧ (parseMethodDescriptor mt_X2_measure.1.desc).map (fun d => d.parameters.length) = some 2) := ⟨ds_T_of (i := 673) rfl rfl, ds_wb_T (p := 50) (by decide +kernel), by decide +kernel⟩
theorem zi_X2_measure : Cond.instanceMethod mt_X2_measure.1 ∈ ds_T := ds_wb_T (p := 672) (by decide +kernel)
theorem zs_X2_measure : Cond.selects mt_X2_measure.1.cls mt_X2_measure.1 mt_X2_measure.1 ∈ ds_T := ds_wb_T (p := 17) (by decide +kernel)
set_option maxRecDepth 100000 in
theorem zw_X2_meetFrom : Cond.code mt_X2_meetFrom.1 mt_X2_meetFrom.2.1 mt_X2_meetFrom.2.2.1 mt_X2_meetFrom.2.2.2.1 ∈ ds_T ∧ Cond.initialized mt_X2_meetFrom.1.cls ∈ ds_T ∧ (mt_X2_meetFrom.1.cls ≠ "java/lang/invoke/MethodHandle" ∧ mt_X2_meetFrom.1.cls ≠ "java/lang/invoke/VarHandle" ∧ (parseMethodDescriptor mt_X2_meetFrom.1.desc).map (fun d => d.parameters.length) = some 1) := ⟨ds_T_of (i := 678) rfl rfl, ds_wb_T (p := 50) (by decide +kernel), by decide +kernel⟩
theorem zi_X2_meetFrom : Cond.instanceMethod mt_X2_meetFrom.1 ∈ ds_T := ds_wb_T (p := 677) (by decide +kernel)
theorem zs_X2_meetFrom : Cond.selects mt_X2_meetFrom.1.cls mt_X2_meetFrom.1 mt_X2_meetFrom.1 ∈ ds_T := ds_wb_T (p := 18) (by decide +kernel)
set_option maxRecDepth 100000 in
theorem zw_X2_learn : Cond.code mt_X2_learn.1 mt_X2_learn.2.1 mt_X2_learn.2.2.1 mt_X2_learn.2.2.2.1 ∈ ds_T ∧ Cond.initialized mt_X2_learn.1.cls ∈ ds_T ∧ (mt_X2_learn.1.cls ≠ "java/lang/invoke/MethodHandle" ∧ mt_X2_learn.1.cls ≠ "java/lang/invoke/VarHandle" ∧ (parseMethodDescriptor mt_X2_learn.1.desc).map (fun d => d.parameters.length) = some 2) := ⟨ds_T_of (i := 644) rfl rfl, ds_wb_T (p := 50) (by decide +kernel), by decide +kernel⟩
theorem zi_X2_learn : Cond.instanceMethod mt_X2_learn.1 ∈ ds_T := ds_wb_T (p := 643) (by decide +kernel)
theorem zs_X2_learn : Cond.selects mt_X2_learn.1.cls mt_X2_learn.1 mt_X2_learn.1 ∈ ds_T := ds_wb_T (p := 13) (by decide +kernel)
set_option maxRecDepth 100000 in
theorem zw_X2_learnSteps : Cond.code mt_X2_learnSteps.1 mt_X2_learnSteps.2.1 mt_X2_learnSteps.2.2.1 mt_X2_learnSteps.2.2.2.1 ∈ ds_T ∧ Cond.initialized mt_X2_learnSteps.1.cls ∈ ds_T ∧ (mt_X2_learnSteps.1.cls ≠ "java/lang/invoke/MethodHandle" ∧ mt_X2_learnSteps.1.cls ≠ "java/lang/invoke/VarHandle" ∧ (parseMethodDescriptor mt_X2_learnSteps.1.desc).map (fun d => d.parameters.length) = some 3) := ⟨ds_T_of (i := 650) rfl rfl, ds_wb_T (p := 50) (by decide +kernel), by decide +kernel⟩
theorem zi_X2_learnSteps : Cond.instanceMethod mt_X2_learnSteps.1 ∈ ds_T := ds_wb_T (p := 649) (by decide +kernel)
theorem zs_X2_learnSteps : Cond.selects mt_X2_learnSteps.1.cls mt_X2_learnSteps.1 mt_X2_learnSteps.1 ∈ ds_T := ds_wb_T (p := 14) (by decide +kernel)
set_option maxRecDepth 100000 in
theorem zw_X2_leastRing : Cond.code mt_X2_leastRing.1 mt_X2_leastRing.2.1 mt_X2_leastRing.2.2.1 mt_X2_leastRing.2.2.2.1 ∈ ds_T ∧ Cond.initialized mt_X2_leastRing.1.cls ∈ ds_T ∧ (mt_X2_leastRing.1.cls ≠ "java/lang/invoke/MethodHandle" ∧ mt_X2_leastRing.1.cls ≠ "java/lang/invoke/VarHandle" ∧ (parseMethodDescriptor mt_X2_leastRing.1.desc).map (fun d => d.parameters.length) = some 2) := ⟨ds_T_of (i := 657) rfl rfl, ds_wb_T (p := 50) (by decide +kernel), by decide +kernel⟩
theorem zi_X2_leastRing : Cond.instanceMethod mt_X2_leastRing.1 ∈ ds_T := ds_wb_T (p := 656) (by decide +kernel)
theorem zs_X2_leastRing : Cond.selects mt_X2_leastRing.1.cls mt_X2_leastRing.1 mt_X2_leastRing.1 ∈ ds_T := ds_wb_T (p := 15) (by decide +kernel)
set_option maxRecDepth 100000 in
theorem zw_X2_hasRing : Cond.code mt_X2_hasRing.1 mt_X2_hasRing.2.1 mt_X2_hasRing.2.2.1 mt_X2_hasRing.2.2.2.1 ∈ ds_T ∧ Cond.initialized mt_X2_hasRing.1.cls ∈ ds_T ∧ (mt_X2_hasRing.1.cls ≠ "java/lang/invoke/MethodHandle" ∧ mt_X2_hasRing.1.cls ≠ "java/lang/invoke/VarHandle" ∧ (parseMethodDescriptor mt_X2_hasRing.1.desc).map (fun d => d.parameters.length) = some 3) := ⟨ds_T_of (i := 661) rfl rfl, ds_wb_T (p := 50) (by decide +kernel), by decide +kernel⟩
theorem zi_X2_hasRing : Cond.instanceMethod mt_X2_hasRing.1 ∈ ds_T := ds_wb_T (p := 660) (by decide +kernel)
theorem zs_X2_hasRing : Cond.selects mt_X2_hasRing.1.cls mt_X2_hasRing.1 mt_X2_hasRing.1 ∈ ds_T := ds_wb_T (p := 16) (by decide +kernel)
set_option maxRecDepth 100000 in
theorem zw_X2_place : Cond.code mt_X2_place.1 mt_X2_place.2.1 mt_X2_place.2.2.1 mt_X2_place.2.2.2.1 ∈ ds_T ∧ Cond.initialized mt_X2_place.1.cls ∈ ds_T ∧ (mt_X2_place.1.cls ≠ "java/lang/invoke/MethodHandle" ∧ mt_X2_place.1.cls ≠ "java/lang/invoke/VarHandle" ∧ (parseMethodDescriptor mt_X2_place.1.desc).map (fun d => d.parameters.length) = some 3) := ⟨ds_T_of (i := 653) rfl rfl, ds_wb_T (p := 50) (by decide +kernel), by decide +kernel⟩
theorem zt_X2_place : Cond.static mt_X2_place.1 ∈ ds_T := ds_wb_T (p := 652) (by decide +kernel)
set_option maxRecDepth 100000 in
theorem zw_X3_clear : Cond.code mt_X3_clear.1 mt_X3_clear.2.1 mt_X3_clear.2.2.1 mt_X3_clear.2.2.2.1 ∈ ds_T ∧ Cond.initialized mt_X3_clear.1.cls ∈ ds_T ∧ (mt_X3_clear.1.cls ≠ "java/lang/invoke/MethodHandle" ∧ mt_X3_clear.1.cls ≠ "java/lang/invoke/VarHandle" ∧ (parseMethodDescriptor mt_X3_clear.1.desc).map (fun d => d.parameters.length) = some 0) := ⟨ds_T_of (i := 521) rfl rfl, ds_wb_T (p := 47) (by decide +kernel), by decide +kernel⟩
theorem zi_X3_clear : Cond.instanceMethod mt_X3_clear.1 ∈ ds_T := ds_wb_T (p := 519) (by decide +kernel)
theorem zs_X3_clear : Cond.selects mt_X3_clear.1.cls mt_X3_clear.1 mt_X3_clear.1 ∈ ds_T := ds_wb_T (p := 520) (by decide +kernel)
set_option maxRecDepth 100000 in
theorem zw_X3_climb : Cond.code mt_X3_climb.1 mt_X3_climb.2.1 mt_X3_climb.2.2.1 mt_X3_climb.2.2.2.1 ∈ ds_T ∧ Cond.initialized mt_X3_climb.1.cls ∈ ds_T ∧ (mt_X3_climb.1.cls ≠ "java/lang/invoke/MethodHandle" ∧ mt_X3_climb.1.cls ≠ "java/lang/invoke/VarHandle" ∧ (parseMethodDescriptor mt_X3_climb.1.desc).map (fun d => d.parameters.length) = some 2) := ⟨ds_T_of (i := 525) rfl rfl, ds_wb_T (p := 47) (by decide +kernel), by decide +kernel⟩
theorem zi_X3_climb : Cond.instanceMethod mt_X3_climb.1 ∈ ds_T := ds_wb_T (p := 523) (by decide +kernel)
theorem zs_X3_climb : Cond.selects mt_X3_climb.1.cls mt_X3_climb.1 mt_X3_climb.1 ∈ ds_T := ds_wb_T (p := 524) (by decide +kernel)
set_option maxRecDepth 100000 in
theorem zw_X3_compareWith : Cond.code mt_X3_compareWith.1 mt_X3_compareWith.2.1 mt_X3_compareWith.2.2.1 mt_X3_compareWith.2.2.2.1 ∈ ds_T ∧ Cond.initialized mt_X3_compareWith.1.cls ∈ ds_T ∧ (mt_X3_compareWith.1.cls ≠ "java/lang/invoke/MethodHandle" ∧ mt_X3_compareWith.1.cls ≠ "java/lang/invoke/VarHandle" ∧ (parseMethodDescriptor mt_X3_compareWith.1.desc).map (fun d => d.parameters.length) = some 1) := ⟨ds_T_of (i := 559) rfl rfl, ds_wb_T (p := 47) (by decide +kernel), by decide +kernel⟩
theorem zi_X3_compareWith : Cond.instanceMethod mt_X3_compareWith.1 ∈ ds_T := ds_wb_T (p := 557) (by decide +kernel)
theorem zs_X3_compareWith : Cond.selects mt_X3_compareWith.1.cls mt_X3_compareWith.1 mt_X3_compareWith.1 ∈ ds_T := ds_wb_T (p := 558) (by decide +kernel)
set_option maxRecDepth 100000 in
theorem zw_X3_isAboveOne : Cond.code mt_X3_isAboveOne.1 mt_X3_isAboveOne.2.1 mt_X3_isAboveOne.2.2.1 mt_X3_isAboveOne.2.2.2.1 ∈ ds_T ∧ Cond.initialized mt_X3_isAboveOne.1.cls ∈ ds_T ∧ (mt_X3_isAboveOne.1.cls ≠ "java/lang/invoke/MethodHandle" ∧ mt_X3_isAboveOne.1.cls ≠ "java/lang/invoke/VarHandle" ∧ (parseMethodDescriptor mt_X3_isAboveOne.1.desc).map (fun d => d.parameters.length) = some 0) := ⟨ds_T_of (i := 703) rfl rfl, ds_wb_T (p := 47) (by decide +kernel), by decide +kernel⟩
theorem zi_X3_isAboveOne : Cond.instanceMethod mt_X3_isAboveOne.1 ∈ ds_T := ds_wb_T (p := 701) (by decide +kernel)
theorem zs_X3_isAboveOne : Cond.selects mt_X3_isAboveOne.1.cls mt_X3_isAboveOne.1 mt_X3_isAboveOne.1 ∈ ds_T := ds_wb_T (p := 702) (by decide +kernel)
set_option maxRecDepth 100000 in
theorem zw_X3_copy : Cond.code mt_X3_copy.1 mt_X3_copy.2.1 mt_X3_copy.2.2.1 mt_X3_copy.2.2.2.1 ∈ ds_T ∧ Cond.initialized mt_X3_copy.1.cls ∈ ds_T ∧ (mt_X3_copy.1.cls ≠ "java/lang/invoke/MethodHandle" ∧ mt_X3_copy.1.cls ≠ "java/lang/invoke/VarHandle" ∧ (parseMethodDescriptor mt_X3_copy.1.desc).map (fun d => d.parameters.length) = some 1) := ⟨ds_T_of (i := 566) rfl rfl, ds_wb_T (p := 47) (by decide +kernel), by decide +kernel⟩
theorem zi_X3_copy : Cond.instanceMethod mt_X3_copy.1 ∈ ds_T := ds_wb_T (p := 564) (by decide +kernel)
theorem zs_X3_copy : Cond.selects mt_X3_copy.1.cls mt_X3_copy.1 mt_X3_copy.1 ∈ ds_T := ds_wb_T (p := 565) (by decide +kernel)
set_option maxRecDepth 100000 in
theorem zw_X4_findOne : Cond.code mt_X4_findOne.1 mt_X4_findOne.2.1 mt_X4_findOne.2.2.1 mt_X4_findOne.2.2.2.1 ∈ ds_T ∧ Cond.initialized mt_X4_findOne.1.cls ∈ ds_T ∧ (mt_X4_findOne.1.cls ≠ "java/lang/invoke/MethodHandle" ∧ mt_X4_findOne.1.cls ≠ "java/lang/invoke/VarHandle" ∧ (parseMethodDescriptor mt_X4_findOne.1.desc).map (fun d => d.parameters.length) = some 2) := ⟨ds_T_of (i := 430) rfl rfl, ds_wb_T (p := 44) (by decide +kernel), by decide +kernel⟩
theorem zi_X4_findOne : Cond.instanceMethod mt_X4_findOne.1 ∈ ds_T := ds_wb_T (p := 428) (by decide +kernel)
theorem zs_X4_findOne : Cond.selects mt_X4_findOne.1.cls mt_X4_findOne.1 mt_X4_findOne.1 ∈ ds_T := ds_wb_T (p := 429) (by decide +kernel)
set_option maxRecDepth 100000 in
theorem zw_X4_findAll : Cond.code mt_X4_findAll.1 mt_X4_findAll.2.1 mt_X4_findAll.2.2.1 mt_X4_findAll.2.2.2.1 ∈ ds_T ∧ Cond.initialized mt_X4_findAll.1.cls ∈ ds_T ∧ (mt_X4_findAll.1.cls ≠ "java/lang/invoke/MethodHandle" ∧ mt_X4_findAll.1.cls ≠ "java/lang/invoke/VarHandle" ∧ (parseMethodDescriptor mt_X4_findAll.1.desc).map (fun d => d.parameters.length) = some 2) := ⟨ds_T_of (i := 495) rfl rfl, ds_wb_T (p := 44) (by decide +kernel), by decide +kernel⟩
theorem zi_X4_findAll : Cond.instanceMethod mt_X4_findAll.1 ∈ ds_T := ds_wb_T (p := 493) (by decide +kernel)
theorem zs_X4_findAll : Cond.selects mt_X4_findAll.1.cls mt_X4_findAll.1 mt_X4_findAll.1 ∈ ds_T := ds_wb_T (p := 494) (by decide +kernel)
set_option maxRecDepth 100000 in
theorem zw_X4_findSome : Cond.code mt_X4_findSome.1 mt_X4_findSome.2.1 mt_X4_findSome.2.2.1 mt_X4_findSome.2.2.2.1 ∈ ds_T ∧ Cond.initialized mt_X4_findSome.1.cls ∈ ds_T ∧ (mt_X4_findSome.1.cls ≠ "java/lang/invoke/MethodHandle" ∧ mt_X4_findSome.1.cls ≠ "java/lang/invoke/VarHandle" ∧ (parseMethodDescriptor mt_X4_findSome.1.desc).map (fun d => d.parameters.length) = some 4) := ⟨ds_T_of (i := 499) rfl rfl, ds_wb_T (p := 44) (by decide +kernel), by decide +kernel⟩
theorem zi_X4_findSome : Cond.instanceMethod mt_X4_findSome.1 ∈ ds_T := ds_wb_T (p := 497) (by decide +kernel)
theorem zs_X4_findSome : Cond.selects mt_X4_findSome.1.cls mt_X4_findSome.1 mt_X4_findSome.1 ∈ ds_T := ds_wb_T (p := 498) (by decide +kernel)
set_option maxRecDepth 100000 in
theorem zw_X5_forget : Cond.code mt_X5_forget.1 mt_X5_forget.2.1 mt_X5_forget.2.2.1 mt_X5_forget.2.2.2.1 ∈ ds_T ∧ Cond.initialized mt_X5_forget.1.cls ∈ ds_T ∧ (mt_X5_forget.1.cls ≠ "java/lang/invoke/MethodHandle" ∧ mt_X5_forget.1.cls ≠ "java/lang/invoke/VarHandle" ∧ (parseMethodDescriptor mt_X5_forget.1.desc).map (fun d => d.parameters.length) = some 0) := ⟨ds_T_of (i := 367) rfl rfl, ds_wb_T (p := 49) (by decide +kernel), by decide +kernel⟩
theorem zi_X5_forget : Cond.instanceMethod mt_X5_forget.1 ∈ ds_T := ds_wb_T (p := 365) (by decide +kernel)
theorem zs_X5_forget : Cond.selects mt_X5_forget.1.cls mt_X5_forget.1 mt_X5_forget.1 ∈ ds_T := ds_wb_T (p := 366) (by decide +kernel)
set_option maxRecDepth 100000 in
theorem zw_X5_search : Cond.code mt_X5_search.1 mt_X5_search.2.1 mt_X5_search.2.2.1 mt_X5_search.2.2.2.1 ∈ ds_T ∧ Cond.initialized mt_X5_search.1.cls ∈ ds_T ∧ (mt_X5_search.1.cls ≠ "java/lang/invoke/MethodHandle" ∧ mt_X5_search.1.cls ≠ "java/lang/invoke/VarHandle" ∧ (parseMethodDescriptor mt_X5_search.1.desc).map (fun d => d.parameters.length) = some 2) := ⟨ds_T_of (i := 583) rfl rfl, ds_wb_T (p := 49) (by decide +kernel), by decide +kernel⟩
theorem zi_X5_search : Cond.instanceMethod mt_X5_search.1 ∈ ds_T := ds_wb_T (p := 581) (by decide +kernel)
theorem zs_X5_search : Cond.selects mt_X5_search.1.cls mt_X5_search.1 mt_X5_search.1 ∈ ds_T := ds_wb_T (p := 582) (by decide +kernel)
set_option maxRecDepth 100000 in
theorem zw_X5_chooseFree : Cond.code mt_X5_chooseFree.1 mt_X5_chooseFree.2.1 mt_X5_chooseFree.2.2.1 mt_X5_chooseFree.2.2.2.1 ∈ ds_T ∧ Cond.initialized mt_X5_chooseFree.1.cls ∈ ds_T ∧ (mt_X5_chooseFree.1.cls ≠ "java/lang/invoke/MethodHandle" ∧ mt_X5_chooseFree.1.cls ≠ "java/lang/invoke/VarHandle" ∧ (parseMethodDescriptor mt_X5_chooseFree.1.desc).map (fun d => d.parameters.length) = some 0) := ⟨ds_T_of (i := 588) rfl rfl, ds_wb_T (p := 49) (by decide +kernel), by decide +kernel⟩
theorem zi_X5_chooseFree : Cond.instanceMethod mt_X5_chooseFree.1 ∈ ds_T := ds_wb_T (p := 587) (by decide +kernel)
theorem zs_X5_chooseFree : Cond.selects mt_X5_chooseFree.1.cls mt_X5_chooseFree.1 mt_X5_chooseFree.1 ∈ ds_T := ds_wb_T (p := 7) (by decide +kernel)
set_option maxRecDepth 100000 in
theorem zw_X5_countChoices : Cond.code mt_X5_countChoices.1 mt_X5_countChoices.2.1 mt_X5_countChoices.2.2.1 mt_X5_countChoices.2.2.2.1 ∈ ds_T ∧ Cond.initialized mt_X5_countChoices.1.cls ∈ ds_T ∧ (mt_X5_countChoices.1.cls ≠ "java/lang/invoke/MethodHandle" ∧ mt_X5_countChoices.1.cls ≠ "java/lang/invoke/VarHandle" ∧ (parseMethodDescriptor mt_X5_countChoices.1.desc).map (fun d => d.parameters.length) = some 0) := ⟨ds_T_of (i := 597) rfl rfl, ds_wb_T (p := 49) (by decide +kernel), by decide +kernel⟩
theorem zi_X5_countChoices : Cond.instanceMethod mt_X5_countChoices.1 ∈ ds_T := ds_wb_T (p := 596) (by decide +kernel)
theorem zs_X5_countChoices : Cond.selects mt_X5_countChoices.1.cls mt_X5_countChoices.1 mt_X5_countChoices.1 ∈ ds_T := ds_wb_T (p := 8) (by decide +kernel)
set_option maxRecDepth 100000 in
theorem zw_X5_choicesOf : Cond.code mt_X5_choicesOf.1 mt_X5_choicesOf.2.1 mt_X5_choicesOf.2.2.1 mt_X5_choicesOf.2.2.2.1 ∈ ds_T ∧ Cond.initialized mt_X5_choicesOf.1.cls ∈ ds_T ∧ (mt_X5_choicesOf.1.cls ≠ "java/lang/invoke/MethodHandle" ∧ mt_X5_choicesOf.1.cls ≠ "java/lang/invoke/VarHandle" ∧ (parseMethodDescriptor mt_X5_choicesOf.1.desc).map (fun d => d.parameters.length) = some 1) := ⟨ds_T_of (i := 601) rfl rfl, ds_wb_T (p := 49) (by decide +kernel), by decide +kernel⟩
theorem zi_X5_choicesOf : Cond.instanceMethod mt_X5_choicesOf.1 ∈ ds_T := ds_wb_T (p := 600) (by decide +kernel)
theorem zs_X5_choicesOf : Cond.selects mt_X5_choicesOf.1.cls mt_X5_choicesOf.1 mt_X5_choicesOf.1 ∈ ds_T := ds_wb_T (p := 9) (by decide +kernel)
set_option maxRecDepth 100000 in
theorem zw_X5_choose : Cond.code mt_X5_choose.1 mt_X5_choose.2.1 mt_X5_choose.2.2.1 mt_X5_choose.2.2.2.1 ∈ ds_T ∧ Cond.initialized mt_X5_choose.1.cls ∈ ds_T ∧ (mt_X5_choose.1.cls ≠ "java/lang/invoke/MethodHandle" ∧ mt_X5_choose.1.cls ≠ "java/lang/invoke/VarHandle" ∧ (parseMethodDescriptor mt_X5_choose.1.desc).map (fun d => d.parameters.length) = some 1) := ⟨ds_T_of (i := 605) rfl rfl, ds_wb_T (p := 49) (by decide +kernel), by decide +kernel⟩
theorem zi_X5_choose : Cond.instanceMethod mt_X5_choose.1 ∈ ds_T := ds_wb_T (p := 604) (by decide +kernel)
theorem zs_X5_choose : Cond.selects mt_X5_choose.1.cls mt_X5_choose.1 mt_X5_choose.1 ∈ ds_T := ds_wb_T (p := 10) (by decide +kernel)
set_option maxRecDepth 100000 in
theorem zw_X5_isBetter : Cond.code mt_X5_isBetter.1 mt_X5_isBetter.2.1 mt_X5_isBetter.2.2.1 mt_X5_isBetter.2.2.2.1 ∈ ds_T ∧ Cond.initialized mt_X5_isBetter.1.cls ∈ ds_T ∧ (mt_X5_isBetter.1.cls ≠ "java/lang/invoke/MethodHandle" ∧ mt_X5_isBetter.1.cls ≠ "java/lang/invoke/VarHandle" ∧ (parseMethodDescriptor mt_X5_isBetter.1.desc).map (fun d => d.parameters.length) = some 1) := ⟨ds_T_of (i := 609) rfl rfl, ds_wb_T (p := 49) (by decide +kernel), by decide +kernel⟩
theorem zi_X5_isBetter : Cond.instanceMethod mt_X5_isBetter.1 ∈ ds_T := ds_wb_T (p := 608) (by decide +kernel)
theorem zs_X5_isBetter : Cond.selects mt_X5_isBetter.1.cls mt_X5_isBetter.1 mt_X5_isBetter.1 ∈ ds_T := ds_wb_T (p := 11) (by decide +kernel)
set_option maxRecDepth 100000 in
theorem zw_X6_findWorst : Cond.code mt_X6_findWorst.1 mt_X6_findWorst.2.1 mt_X6_findWorst.2.2.1 mt_X6_findWorst.2.2.2.1 ∈ ds_T ∧ Cond.initialized mt_X6_findWorst.1.cls ∈ ds_T ∧ (mt_X6_findWorst.1.cls ≠ "java/lang/invoke/MethodHandle" ∧ mt_X6_findWorst.1.cls ≠ "java/lang/invoke/VarHandle" ∧ (parseMethodDescriptor mt_X6_findWorst.1.desc).map (fun d => d.parameters.length) = some 2) := ⟨ds_T_of (i := 538) rfl rfl, ds_wb_T (p := 48) (by decide +kernel), by decide +kernel⟩
theorem zi_X6_findWorst : Cond.instanceMethod mt_X6_findWorst.1 ∈ ds_T := ds_wb_T (p := 536) (by decide +kernel)
theorem zs_X6_findWorst : Cond.selects mt_X6_findWorst.1.cls mt_X6_findWorst.1 mt_X6_findWorst.1 ∈ ds_T := ds_wb_T (p := 537) (by decide +kernel)
set_option maxRecDepth 100000 in
theorem zw_X6_countNets : Cond.code mt_X6_countNets.1 mt_X6_countNets.2.1 mt_X6_countNets.2.2.1 mt_X6_countNets.2.2.2.1 ∈ ds_T ∧ Cond.initialized mt_X6_countNets.1.cls ∈ ds_T ∧ (mt_X6_countNets.1.cls ≠ "java/lang/invoke/MethodHandle" ∧ mt_X6_countNets.1.cls ≠ "java/lang/invoke/VarHandle" ∧ (parseMethodDescriptor mt_X6_countNets.1.desc).map (fun d => d.parameters.length) = some 0) := ⟨ds_T_of (i := 547) rfl rfl, ds_wb_T (p := 48) (by decide +kernel), by decide +kernel⟩
theorem zi_X6_countNets : Cond.instanceMethod mt_X6_countNets.1 ∈ ds_T := ds_wb_T (p := 545) (by decide +kernel)
theorem zs_X6_countNets : Cond.selects mt_X6_countNets.1.cls mt_X6_countNets.1 mt_X6_countNets.1 ∈ ds_T := ds_wb_T (p := 546) (by decide +kernel)
set_option maxRecDepth 100000 in
theorem zw_X6_addNet : Cond.code mt_X6_addNet.1 mt_X6_addNet.2.1 mt_X6_addNet.2.2.1 mt_X6_addNet.2.2.2.1 ∈ ds_T ∧ Cond.initialized mt_X6_addNet.1.cls ∈ ds_T ∧ (mt_X6_addNet.1.cls ≠ "java/lang/invoke/MethodHandle" ∧ mt_X6_addNet.1.cls ≠ "java/lang/invoke/VarHandle" ∧ (parseMethodDescriptor mt_X6_addNet.1.desc).map (fun d => d.parameters.length) = some 4) := ⟨ds_T_of (i := 551) rfl rfl, ds_wb_T (p := 48) (by decide +kernel), by decide +kernel⟩
theorem zi_X6_addNet : Cond.instanceMethod mt_X6_addNet.1 ∈ ds_T := ds_wb_T (p := 549) (by decide +kernel)
theorem zs_X6_addNet : Cond.selects mt_X6_addNet.1.cls mt_X6_addNet.1 mt_X6_addNet.1 ∈ ds_T := ds_wb_T (p := 550) (by decide +kernel)
set_option maxRecDepth 100000 in
theorem zw_X6_targetsOfLoads : Cond.code mt_X6_targetsOfLoads.1 mt_X6_targetsOfLoads.2.1 mt_X6_targetsOfLoads.2.2.1 mt_X6_targetsOfLoads.2.2.2.1 ∈ ds_T ∧ Cond.initialized mt_X6_targetsOfLoads.1.cls ∈ ds_T ∧ (mt_X6_targetsOfLoads.1.cls ≠ "java/lang/invoke/MethodHandle" ∧ mt_X6_targetsOfLoads.1.cls ≠ "java/lang/invoke/VarHandle" ∧ (parseMethodDescriptor mt_X6_targetsOfLoads.1.desc).map (fun d => d.parameters.length) = some 0) := ⟨ds_T_of (i := 543) rfl rfl, ds_wb_T (p := 48) (by decide +kernel), by decide +kernel⟩
theorem zi_X6_targetsOfLoads : Cond.instanceMethod mt_X6_targetsOfLoads.1 ∈ ds_T := ds_wb_T (p := 541) (by decide +kernel)
theorem zs_X6_targetsOfLoads : Cond.selects mt_X6_targetsOfLoads.1.cls mt_X6_targetsOfLoads.1 mt_X6_targetsOfLoads.1 ∈ ds_T := ds_wb_T (p := 542) (by decide +kernel)
set_option maxRecDepth 100000 in
theorem zw_X7_find : Cond.code mt_X7_find.1 mt_X7_find.2.1 mt_X7_find.2.2.1 mt_X7_find.2.2.2.1 ∈ ds_T ∧ Cond.initialized mt_X7_find.1.cls ∈ ds_T ∧ (mt_X7_find.1.cls ≠ "java/lang/invoke/MethodHandle" ∧ mt_X7_find.1.cls ≠ "java/lang/invoke/VarHandle" ∧ (parseMethodDescriptor mt_X7_find.1.desc).map (fun d => d.parameters.length) = some 4) := ⟨ds_T_of (i := 438) rfl rfl, ds_wb_T (p := 45) (by decide +kernel), by decide +kernel⟩
theorem zi_X7_find : Cond.instanceMethod mt_X7_find.1 ∈ ds_T := ds_wb_T (p := 436) (by decide +kernel)
theorem zs_X7_find : Cond.selects mt_X7_find.1.cls mt_X7_find.1 mt_X7_find.1 ∈ ds_T := ds_wb_T (p := 437) (by decide +kernel)
set_option maxRecDepth 100000 in
theorem zw_X7_nearest : Cond.code mt_X7_nearest.1 mt_X7_nearest.2.1 mt_X7_nearest.2.2.1 mt_X7_nearest.2.2.2.1 ∈ ds_T ∧ Cond.initialized mt_X7_nearest.1.cls ∈ ds_T ∧ (mt_X7_nearest.1.cls ≠ "java/lang/invoke/MethodHandle" ∧ mt_X7_nearest.1.cls ≠ "java/lang/invoke/VarHandle" ∧ (parseMethodDescriptor mt_X7_nearest.1.desc).map (fun d => d.parameters.length) = some 2) := ⟨ds_T_of (i := 443) rfl rfl, ds_wb_T (p := 45) (by decide +kernel), by decide +kernel⟩
theorem zi_X7_nearest : Cond.instanceMethod mt_X7_nearest.1 ∈ ds_T := ds_wb_T (p := 442) (by decide +kernel)
theorem zs_X7_nearest : Cond.selects mt_X7_nearest.1.cls mt_X7_nearest.1 mt_X7_nearest.1 ∈ ds_T := ds_wb_T (p := 0) (by decide +kernel)
set_option maxRecDepth 100000 in
theorem zw_X7_comeNearerBy : Cond.code mt_X7_comeNearerBy.1 mt_X7_comeNearerBy.2.1 mt_X7_comeNearerBy.2.2.1 mt_X7_comeNearerBy.2.2.2.1 ∈ ds_T ∧ Cond.initialized mt_X7_comeNearerBy.1.cls ∈ ds_T ∧ (mt_X7_comeNearerBy.1.cls ≠ "java/lang/invoke/MethodHandle" ∧ mt_X7_comeNearerBy.1.cls ≠ "java/lang/invoke/VarHandle" ∧ (parseMethodDescriptor mt_X7_comeNearerBy.1.desc).map (fun d => d.parameters.length) = some 4) := ⟨ds_T_of (i := 447) rfl rfl, ds_wb_T (p := 45) (by decide +kernel), by decide +kernel⟩
theorem zi_X7_comeNearerBy : Cond.instanceMethod mt_X7_comeNearerBy.1 ∈ ds_T := ds_wb_T (p := 446) (by decide +kernel)
theorem zs_X7_comeNearerBy : Cond.selects mt_X7_comeNearerBy.1.cls mt_X7_comeNearerBy.1 mt_X7_comeNearerBy.1 ∈ ds_T := ds_wb_T (p := 1) (by decide +kernel)
set_option maxRecDepth 100000 in
theorem zw_X7_findNext : Cond.code mt_X7_findNext.1 mt_X7_findNext.2.1 mt_X7_findNext.2.2.1 mt_X7_findNext.2.2.2.1 ∈ ds_T ∧ Cond.initialized mt_X7_findNext.1.cls ∈ ds_T ∧ (mt_X7_findNext.1.cls ≠ "java/lang/invoke/MethodHandle" ∧ mt_X7_findNext.1.cls ≠ "java/lang/invoke/VarHandle" ∧ (parseMethodDescriptor mt_X7_findNext.1.desc).map (fun d => d.parameters.length) = some 3) := ⟨ds_T_of (i := 451) rfl rfl, ds_wb_T (p := 45) (by decide +kernel), by decide +kernel⟩
theorem zi_X7_findNext : Cond.instanceMethod mt_X7_findNext.1 ∈ ds_T := ds_wb_T (p := 450) (by decide +kernel)
theorem zs_X7_findNext : Cond.selects mt_X7_findNext.1.cls mt_X7_findNext.1 mt_X7_findNext.1 ∈ ds_T := ds_wb_T (p := 2) (by decide +kernel)
set_option maxRecDepth 100000 in
theorem zw_X8_boxes : Cond.code mt_X8_boxes.1 mt_X8_boxes.2.1 mt_X8_boxes.2.2.1 mt_X8_boxes.2.2.2.1 ∈ ds_T ∧ Cond.initialized mt_X8_boxes.1.cls ∈ ds_T ∧ (mt_X8_boxes.1.cls ≠ "java/lang/invoke/MethodHandle" ∧ mt_X8_boxes.1.cls ≠ "java/lang/invoke/VarHandle" ∧ (parseMethodDescriptor mt_X8_boxes.1.desc).map (fun d => d.parameters.length) = some 1) := ⟨ds_T_of (i := 356) rfl rfl, ds_wb_T (p := 42) (by decide +kernel), by decide +kernel⟩
theorem zi_X8_boxes : Cond.instanceMethod mt_X8_boxes.1 ∈ ds_T := ds_wb_T (p := 354) (by decide +kernel)
theorem zs_X8_boxes : Cond.selects mt_X8_boxes.1.cls mt_X8_boxes.1 mt_X8_boxes.1 ∈ ds_T := ds_wb_T (p := 355) (by decide +kernel)
set_option maxRecDepth 100000 in
theorem zw_X8_line : Cond.code mt_X8_line.1 mt_X8_line.2.1 mt_X8_line.2.2.1 mt_X8_line.2.2.2.1 ∈ ds_T ∧ Cond.initialized mt_X8_line.1.cls ∈ ds_T ∧ (mt_X8_line.1.cls ≠ "java/lang/invoke/MethodHandle" ∧ mt_X8_line.1.cls ≠ "java/lang/invoke/VarHandle" ∧ (parseMethodDescriptor mt_X8_line.1.desc).map (fun d => d.parameters.length) = some 4) := ⟨ds_T_of (i := 371) rfl rfl, ds_wb_T (p := 42) (by decide +kernel), by decide +kernel⟩
theorem zi_X8_line : Cond.instanceMethod mt_X8_line.1 ∈ ds_T := ds_wb_T (p := 369) (by decide +kernel)
theorem zs_X8_line : Cond.selects mt_X8_line.1.cls mt_X8_line.1 mt_X8_line.1 ∈ ds_T := ds_wb_T (p := 370) (by decide +kernel)
set_option maxRecDepth 100000 in
theorem zw_X8_about : Cond.code mt_X8_about.1 mt_X8_about.2.1 mt_X8_about.2.2.1 mt_X8_about.2.2.2.1 ∈ ds_T ∧ Cond.initialized mt_X8_about.1.cls ∈ ds_T ∧ (mt_X8_about.1.cls ≠ "java/lang/invoke/MethodHandle" ∧ mt_X8_about.1.cls ≠ "java/lang/invoke/VarHandle" ∧ (parseMethodDescriptor mt_X8_about.1.desc).map (fun d => d.parameters.length) = some 2) := ⟨ds_T_of (i := 390) rfl rfl, ds_wb_T (p := 42) (by decide +kernel), by decide +kernel⟩
theorem zi_X8_about : Cond.instanceMethod mt_X8_about.1 ∈ ds_T := ds_wb_T (p := 388) (by decide +kernel)
theorem zs_X8_about : Cond.selects mt_X8_about.1.cls mt_X8_about.1 mt_X8_about.1 ∈ ds_T := ds_wb_T (p := 389) (by decide +kernel)
set_option maxRecDepth 100000 in
theorem zw_X8_weigh : Cond.code mt_X8_weigh.1 mt_X8_weigh.2.1 mt_X8_weigh.2.2.1 mt_X8_weigh.2.2.2.1 ∈ ds_T ∧ Cond.initialized mt_X8_weigh.1.cls ∈ ds_T ∧ (mt_X8_weigh.1.cls ≠ "java/lang/invoke/MethodHandle" ∧ mt_X8_weigh.1.cls ≠ "java/lang/invoke/VarHandle" ∧ (parseMethodDescriptor mt_X8_weigh.1.desc).map (fun d => d.parameters.length) = some 2) := ⟨ds_T_of (i := 401) rfl rfl, ds_wb_T (p := 42) (by decide +kernel), by decide +kernel⟩
theorem zi_X8_weigh : Cond.instanceMethod mt_X8_weigh.1 ∈ ds_T := ds_wb_T (p := 399) (by decide +kernel)
theorem zs_X8_weigh : Cond.selects mt_X8_weigh.1.cls mt_X8_weigh.1 mt_X8_weigh.1 ∈ ds_T := ds_wb_T (p := 400) (by decide +kernel)
set_option maxRecDepth 100000 in
theorem zw_X8_mark : Cond.code mt_X8_mark.1 mt_X8_mark.2.1 mt_X8_mark.2.2.1 mt_X8_mark.2.2.2.1 ∈ ds_T ∧ Cond.initialized mt_X8_mark.1.cls ∈ ds_T ∧ (mt_X8_mark.1.cls ≠ "java/lang/invoke/MethodHandle" ∧ mt_X8_mark.1.cls ≠ "java/lang/invoke/VarHandle" ∧ (parseMethodDescriptor mt_X8_mark.1.desc).map (fun d => d.parameters.length) = some 3) := ⟨ds_T_of (i := 405) rfl rfl, ds_wb_T (p := 42) (by decide +kernel), by decide +kernel⟩
theorem zi_X8_mark : Cond.instanceMethod mt_X8_mark.1 ∈ ds_T := ds_wb_T (p := 403) (by decide +kernel)
theorem zs_X8_mark : Cond.selects mt_X8_mark.1.cls mt_X8_mark.1 mt_X8_mark.1 ∈ ds_T := ds_wb_T (p := 404) (by decide +kernel)
set_option maxRecDepth 100000 in
theorem zw_X8_load : Cond.code mt_X8_load.1 mt_X8_load.2.1 mt_X8_load.2.2.1 mt_X8_load.2.2.2.1 ∈ ds_T ∧ Cond.initialized mt_X8_load.1.cls ∈ ds_T ∧ (mt_X8_load.1.cls ≠ "java/lang/invoke/MethodHandle" ∧ mt_X8_load.1.cls ≠ "java/lang/invoke/VarHandle" ∧ (parseMethodDescriptor mt_X8_load.1.desc).map (fun d => d.parameters.length) = some 4) := ⟨ds_T_of (i := 415) rfl rfl, ds_wb_T (p := 42) (by decide +kernel), by decide +kernel⟩
theorem zi_X8_load : Cond.instanceMethod mt_X8_load.1 ∈ ds_T := ds_wb_T (p := 413) (by decide +kernel)
theorem zs_X8_load : Cond.selects mt_X8_load.1.cls mt_X8_load.1 mt_X8_load.1 ∈ ds_T := ds_wb_T (p := 414) (by decide +kernel)
set_option maxRecDepth 100000 in
theorem zw_X8_least : Cond.code mt_X8_least.1 mt_X8_least.2.1 mt_X8_least.2.2.1 mt_X8_least.2.2.2.1 ∈ ds_T ∧ Cond.initialized mt_X8_least.1.cls ∈ ds_T ∧ (mt_X8_least.1.cls ≠ "java/lang/invoke/MethodHandle" ∧ mt_X8_least.1.cls ≠ "java/lang/invoke/VarHandle" ∧ (parseMethodDescriptor mt_X8_least.1.desc).map (fun d => d.parameters.length) = some 2) := ⟨ds_T_of (i := 425) rfl rfl, ds_wb_T (p := 42) (by decide +kernel), by decide +kernel⟩
theorem zi_X8_least : Cond.instanceMethod mt_X8_least.1 ∈ ds_T := ds_wb_T (p := 423) (by decide +kernel)
theorem zs_X8_least : Cond.selects mt_X8_least.1.cls mt_X8_least.1 mt_X8_least.1 ∈ ds_T := ds_wb_T (p := 424) (by decide +kernel)
set_option maxRecDepth 100000 in
theorem zw_X8_next : Cond.code mt_X8_next.1 mt_X8_next.2.1 mt_X8_next.2.2.1 mt_X8_next.2.2.2.1 ∈ ds_T ∧ Cond.initialized mt_X8_next.1.cls ∈ ds_T ∧ (mt_X8_next.1.cls ≠ "java/lang/invoke/MethodHandle" ∧ mt_X8_next.1.cls ≠ "java/lang/invoke/VarHandle" ∧ (parseMethodDescriptor mt_X8_next.1.desc).map (fun d => d.parameters.length) = some 2) := ⟨ds_T_of (i := 455) rfl rfl, ds_wb_T (p := 42) (by decide +kernel), by decide +kernel⟩
theorem zi_X8_next : Cond.instanceMethod mt_X8_next.1 ∈ ds_T := ds_wb_T (p := 453) (by decide +kernel)
theorem zs_X8_next : Cond.selects mt_X8_next.1.cls mt_X8_next.1 mt_X8_next.1 ∈ ds_T := ds_wb_T (p := 454) (by decide +kernel)
set_option maxRecDepth 100000 in
theorem zw_X8_share : Cond.code mt_X8_share.1 mt_X8_share.2.1 mt_X8_share.2.2.1 mt_X8_share.2.2.2.1 ∈ ds_T ∧ Cond.initialized mt_X8_share.1.cls ∈ ds_T ∧ (mt_X8_share.1.cls ≠ "java/lang/invoke/MethodHandle" ∧ mt_X8_share.1.cls ≠ "java/lang/invoke/VarHandle" ∧ (parseMethodDescriptor mt_X8_share.1.desc).map (fun d => d.parameters.length) = some 5) := ⟨ds_T_of (i := 459) rfl rfl, ds_wb_T (p := 42) (by decide +kernel), by decide +kernel⟩
theorem zi_X8_share : Cond.instanceMethod mt_X8_share.1 ∈ ds_T := ds_wb_T (p := 457) (by decide +kernel)
theorem zs_X8_share : Cond.selects mt_X8_share.1.cls mt_X8_share.1 mt_X8_share.1 ∈ ds_T := ds_wb_T (p := 458) (by decide +kernel)
set_option maxRecDepth 100000 in
theorem zw_X8_on : Cond.code mt_X8_on.1 mt_X8_on.2.1 mt_X8_on.2.2.1 mt_X8_on.2.2.2.1 ∈ ds_T ∧ Cond.initialized mt_X8_on.1.cls ∈ ds_T ∧ (mt_X8_on.1.cls ≠ "java/lang/invoke/MethodHandle" ∧ mt_X8_on.1.cls ≠ "java/lang/invoke/VarHandle" ∧ (parseMethodDescriptor mt_X8_on.1.desc).map (fun d => d.parameters.length) = some 4) := ⟨ds_T_of (i := 491) rfl rfl, ds_wb_T (p := 42) (by decide +kernel), by decide +kernel⟩
theorem zi_X8_on : Cond.instanceMethod mt_X8_on.1 ∈ ds_T := ds_wb_T (p := 489) (by decide +kernel)
theorem zs_X8_on : Cond.selects mt_X8_on.1.cls mt_X8_on.1 mt_X8_on.1 ∈ ds_T := ds_wb_T (p := 490) (by decide +kernel)
set_option maxRecDepth 100000 in
theorem zw_X8_worst : Cond.code mt_X8_worst.1 mt_X8_worst.2.1 mt_X8_worst.2.2.1 mt_X8_worst.2.2.2.1 ∈ ds_T ∧ Cond.initialized mt_X8_worst.1.cls ∈ ds_T ∧ (mt_X8_worst.1.cls ≠ "java/lang/invoke/MethodHandle" ∧ mt_X8_worst.1.cls ≠ "java/lang/invoke/VarHandle" ∧ (parseMethodDescriptor mt_X8_worst.1.desc).map (fun d => d.parameters.length) = some 2) := ⟨ds_T_of (i := 513) rfl rfl, ds_wb_T (p := 42) (by decide +kernel), by decide +kernel⟩
theorem zi_X8_worst : Cond.instanceMethod mt_X8_worst.1 ∈ ds_T := ds_wb_T (p := 511) (by decide +kernel)
theorem zs_X8_worst : Cond.selects mt_X8_worst.1.cls mt_X8_worst.1 mt_X8_worst.1 ∈ ds_T := ds_wb_T (p := 512) (by decide +kernel)
set_option maxRecDepth 100000 in
theorem zw_X8_guard : Cond.code mt_X8_guard.1 mt_X8_guard.2.1 mt_X8_guard.2.2.1 mt_X8_guard.2.2.2.1 ∈ ds_T ∧ Cond.initialized mt_X8_guard.1.cls ∈ ds_T ∧ (mt_X8_guard.1.cls ≠ "java/lang/invoke/MethodHandle" ∧ mt_X8_guard.1.cls ≠ "java/lang/invoke/VarHandle" ∧ (parseMethodDescriptor mt_X8_guard.1.desc).map (fun d => d.parameters.length) = some 1) := ⟨ds_T_of (i := 530) rfl rfl, ds_wb_T (p := 42) (by decide +kernel), by decide +kernel⟩
theorem zi_X8_guard : Cond.instanceMethod mt_X8_guard.1 ∈ ds_T := ds_wb_T (p := 528) (by decide +kernel)
theorem zs_X8_guard : Cond.selects mt_X8_guard.1.cls mt_X8_guard.1 mt_X8_guard.1 ∈ ds_T := ds_wb_T (p := 529) (by decide +kernel)
set_option maxRecDepth 100000 in
theorem zw_X8_all : Cond.code mt_X8_all.1 mt_X8_all.2.1 mt_X8_all.2.2.1 mt_X8_all.2.2.2.1 ∈ ds_T ∧ Cond.initialized mt_X8_all.1.cls ∈ ds_T ∧ (mt_X8_all.1.cls ≠ "java/lang/invoke/MethodHandle" ∧ mt_X8_all.1.cls ≠ "java/lang/invoke/VarHandle" ∧ (parseMethodDescriptor mt_X8_all.1.desc).map (fun d => d.parameters.length) = some 1) := ⟨ds_T_of (i := 534) rfl rfl, ds_wb_T (p := 42) (by decide +kernel), by decide +kernel⟩
theorem zi_X8_all : Cond.instanceMethod mt_X8_all.1 ∈ ds_T := ds_wb_T (p := 532) (by decide +kernel)
theorem zs_X8_all : Cond.selects mt_X8_all.1.cls mt_X8_all.1 mt_X8_all.1 ∈ ds_T := ds_wb_T (p := 533) (by decide +kernel)
set_option maxRecDepth 100000 in
theorem zw_X8_parted : Cond.code mt_X8_parted.1 mt_X8_parted.2.1 mt_X8_parted.2.2.1 mt_X8_parted.2.2.2.1 ∈ ds_T ∧ Cond.initialized mt_X8_parted.1.cls ∈ ds_T ∧ (mt_X8_parted.1.cls ≠ "java/lang/invoke/MethodHandle" ∧ mt_X8_parted.1.cls ≠ "java/lang/invoke/VarHandle" ∧ (parseMethodDescriptor mt_X8_parted.1.desc).map (fun d => d.parameters.length) = some 2) := ⟨ds_T_of (i := 571) rfl rfl, ds_wb_T (p := 42) (by decide +kernel), by decide +kernel⟩
theorem zi_X8_parted : Cond.instanceMethod mt_X8_parted.1 ∈ ds_T := ds_wb_T (p := 569) (by decide +kernel)
theorem zs_X8_parted : Cond.selects mt_X8_parted.1.cls mt_X8_parted.1 mt_X8_parted.1 ∈ ds_T := ds_wb_T (p := 570) (by decide +kernel)
set_option maxRecDepth 100000 in
theorem zw_X8_who : Cond.code mt_X8_who.1 mt_X8_who.2.1 mt_X8_who.2.2.1 mt_X8_who.2.2.2.1 ∈ ds_T ∧ Cond.initialized mt_X8_who.1.cls ∈ ds_T ∧ (mt_X8_who.1.cls ≠ "java/lang/invoke/MethodHandle" ∧ mt_X8_who.1.cls ≠ "java/lang/invoke/VarHandle" ∧ (parseMethodDescriptor mt_X8_who.1.desc).map (fun d => d.parameters.length) = some 3) := ⟨ds_T_of (i := 575) rfl rfl, ds_wb_T (p := 42) (by decide +kernel), by decide +kernel⟩
theorem zi_X8_who : Cond.instanceMethod mt_X8_who.1 ∈ ds_T := ds_wb_T (p := 573) (by decide +kernel)
theorem zs_X8_who : Cond.selects mt_X8_who.1.cls mt_X8_who.1 mt_X8_who.1 ∈ ds_T := ds_wb_T (p := 574) (by decide +kernel)
set_option maxRecDepth 100000 in
theorem zw_X8_seek : Cond.code mt_X8_seek.1 mt_X8_seek.2.1 mt_X8_seek.2.2.1 mt_X8_seek.2.2.2.1 ∈ ds_T ∧ Cond.initialized mt_X8_seek.1.cls ∈ ds_T ∧ (mt_X8_seek.1.cls ≠ "java/lang/invoke/MethodHandle" ∧ mt_X8_seek.1.cls ≠ "java/lang/invoke/VarHandle" ∧ (parseMethodDescriptor mt_X8_seek.1.desc).map (fun d => d.parameters.length) = some 2) := ⟨ds_T_of (i := 579) rfl rfl, ds_wb_T (p := 42) (by decide +kernel), by decide +kernel⟩
theorem zi_X8_seek : Cond.instanceMethod mt_X8_seek.1 ∈ ds_T := ds_wb_T (p := 577) (by decide +kernel)
theorem zs_X8_seek : Cond.selects mt_X8_seek.1.cls mt_X8_seek.1 mt_X8_seek.1 ∈ ds_T := ds_wb_T (p := 578) (by decide +kernel)
set_option maxRecDepth 100000 in
theorem zw_X8_sought : Cond.code mt_X8_sought.1 mt_X8_sought.2.1 mt_X8_sought.2.2.1 mt_X8_sought.2.2.2.1 ∈ ds_T ∧ Cond.initialized mt_X8_sought.1.cls ∈ ds_T ∧ (mt_X8_sought.1.cls ≠ "java/lang/invoke/MethodHandle" ∧ mt_X8_sought.1.cls ≠ "java/lang/invoke/VarHandle" ∧ (parseMethodDescriptor mt_X8_sought.1.desc).map (fun d => d.parameters.length) = some 1) := ⟨ds_T_of (i := 618) rfl rfl, ds_wb_T (p := 42) (by decide +kernel), by decide +kernel⟩
theorem zi_X8_sought : Cond.instanceMethod mt_X8_sought.1 ∈ ds_T := ds_wb_T (p := 616) (by decide +kernel)
theorem zs_X8_sought : Cond.selects mt_X8_sought.1.cls mt_X8_sought.1 mt_X8_sought.1 ∈ ds_T := ds_wb_T (p := 617) (by decide +kernel)
set_option maxRecDepth 100000 in
theorem zw_X8_better : Cond.code mt_X8_better.1 mt_X8_better.2.1 mt_X8_better.2.2.1 mt_X8_better.2.2.2.1 ∈ ds_T ∧ Cond.initialized mt_X8_better.1.cls ∈ ds_T ∧ (mt_X8_better.1.cls ≠ "java/lang/invoke/MethodHandle" ∧ mt_X8_better.1.cls ≠ "java/lang/invoke/VarHandle" ∧ (parseMethodDescriptor mt_X8_better.1.desc).map (fun d => d.parameters.length) = some 1) := ⟨ds_T_of (i := 622) rfl rfl, ds_wb_T (p := 42) (by decide +kernel), by decide +kernel⟩
theorem zi_X8_better : Cond.instanceMethod mt_X8_better.1 ∈ ds_T := ds_wb_T (p := 620) (by decide +kernel)
theorem zs_X8_better : Cond.selects mt_X8_better.1.cls mt_X8_better.1 mt_X8_better.1 ∈ ds_T := ds_wb_T (p := 621) (by decide +kernel)
set_option maxRecDepth 100000 in
theorem zw_X8_take : Cond.code mt_X8_take.1 mt_X8_take.2.1 mt_X8_take.2.2.1 mt_X8_take.2.2.2.1 ∈ ds_T ∧ Cond.initialized mt_X8_take.1.cls ∈ ds_T ∧ (mt_X8_take.1.cls ≠ "java/lang/invoke/MethodHandle" ∧ mt_X8_take.1.cls ≠ "java/lang/invoke/VarHandle" ∧ (parseMethodDescriptor mt_X8_take.1.desc).map (fun d => d.parameters.length) = some 0) := ⟨ds_T_of (i := 627) rfl rfl, ds_wb_T (p := 42) (by decide +kernel), by decide +kernel⟩
theorem zi_X8_take : Cond.instanceMethod mt_X8_take.1 ∈ ds_T := ds_wb_T (p := 625) (by decide +kernel)
theorem zs_X8_take : Cond.selects mt_X8_take.1.cls mt_X8_take.1 mt_X8_take.1 ∈ ds_T := ds_wb_T (p := 626) (by decide +kernel)
set_option maxRecDepth 100000 in
theorem zw_X8_ring : Cond.code mt_X8_ring.1 mt_X8_ring.2.1 mt_X8_ring.2.2.1 mt_X8_ring.2.2.2.1 ∈ ds_T ∧ Cond.initialized mt_X8_ring.1.cls ∈ ds_T ∧ (mt_X8_ring.1.cls ≠ "java/lang/invoke/MethodHandle" ∧ mt_X8_ring.1.cls ≠ "java/lang/invoke/VarHandle" ∧ (parseMethodDescriptor mt_X8_ring.1.desc).map (fun d => d.parameters.length) = some 2) := ⟨ds_T_of (i := 632) rfl rfl, ds_wb_T (p := 42) (by decide +kernel), by decide +kernel⟩
theorem zi_X8_ring : Cond.instanceMethod mt_X8_ring.1 ∈ ds_T := ds_wb_T (p := 630) (by decide +kernel)
theorem zs_X8_ring : Cond.selects mt_X8_ring.1.cls mt_X8_ring.1 mt_X8_ring.1 ∈ ds_T := ds_wb_T (p := 631) (by decide +kernel)
set_option maxRecDepth 100000 in
theorem zw_X8_between : Cond.code mt_X8_between.1 mt_X8_between.2.1 mt_X8_between.2.2.1 mt_X8_between.2.2.2.1 ∈ ds_T ∧ Cond.initialized mt_X8_between.1.cls ∈ ds_T ∧ (mt_X8_between.1.cls ≠ "java/lang/invoke/MethodHandle" ∧ mt_X8_between.1.cls ≠ "java/lang/invoke/VarHandle" ∧ (parseMethodDescriptor mt_X8_between.1.desc).map (fun d => d.parameters.length) = some 2) := ⟨ds_T_of (i := 665) rfl rfl, ds_wb_T (p := 42) (by decide +kernel), by decide +kernel⟩
theorem zi_X8_between : Cond.instanceMethod mt_X8_between.1 ∈ ds_T := ds_wb_T (p := 663) (by decide +kernel)
theorem zs_X8_between : Cond.selects mt_X8_between.1.cls mt_X8_between.1 mt_X8_between.1 ∈ ds_T := ds_wb_T (p := 664) (by decide +kernel)
set_option maxRecDepth 100000 in
theorem zw_X8_value : Cond.code mt_X8_value.1 mt_X8_value.2.1 mt_X8_value.2.2.1 mt_X8_value.2.2.2.1 ∈ ds_T ∧ Cond.initialized mt_X8_value.1.cls ∈ ds_T ∧ (mt_X8_value.1.cls ≠ "java/lang/invoke/MethodHandle" ∧ mt_X8_value.1.cls ≠ "java/lang/invoke/VarHandle" ∧ (parseMethodDescriptor mt_X8_value.1.desc).map (fun d => d.parameters.length) = some 3) := ⟨ds_T_of (i := 682) rfl rfl, ds_wb_T (p := 42) (by decide +kernel), by decide +kernel⟩
theorem zi_X8_value : Cond.instanceMethod mt_X8_value.1 ∈ ds_T := ds_wb_T (p := 680) (by decide +kernel)
theorem zs_X8_value : Cond.selects mt_X8_value.1.cls mt_X8_value.1 mt_X8_value.1 ∈ ds_T := ds_wb_T (p := 681) (by decide +kernel)
set_option maxRecDepth 100000 in
theorem zw_X8_grow : Cond.code mt_X8_grow.1 mt_X8_grow.2.1 mt_X8_grow.2.2.1 mt_X8_grow.2.2.2.1 ∈ ds_T ∧ Cond.initialized mt_X8_grow.1.cls ∈ ds_T ∧ (mt_X8_grow.1.cls ≠ "java/lang/invoke/MethodHandle" ∧ mt_X8_grow.1.cls ≠ "java/lang/invoke/VarHandle" ∧ (parseMethodDescriptor mt_X8_grow.1.desc).map (fun d => d.parameters.length) = some 2) := ⟨ds_T_of (i := 694) rfl rfl, ds_wb_T (p := 42) (by decide +kernel), by decide +kernel⟩
theorem zi_X8_grow : Cond.instanceMethod mt_X8_grow.1 ∈ ds_T := ds_wb_T (p := 692) (by decide +kernel)
theorem zs_X8_grow : Cond.selects mt_X8_grow.1.cls mt_X8_grow.1 mt_X8_grow.1 ∈ ds_T := ds_wb_T (p := 693) (by decide +kernel)
set_option maxRecDepth 100000 in
theorem zw_X8_year : Cond.code mt_X8_year.1 mt_X8_year.2.1 mt_X8_year.2.2.1 mt_X8_year.2.2.2.1 ∈ ds_T ∧ Cond.initialized mt_X8_year.1.cls ∈ ds_T ∧ (mt_X8_year.1.cls ≠ "java/lang/invoke/MethodHandle" ∧ mt_X8_year.1.cls ≠ "java/lang/invoke/VarHandle" ∧ (parseMethodDescriptor mt_X8_year.1.desc).map (fun d => d.parameters.length) = some 2) := ⟨ds_T_of (i := 699) rfl rfl, ds_wb_T (p := 42) (by decide +kernel), by decide +kernel⟩
theorem zi_X8_year : Cond.instanceMethod mt_X8_year.1 ∈ ds_T := ds_wb_T (p := 697) (by decide +kernel)
theorem zs_X8_year : Cond.selects mt_X8_year.1.cls mt_X8_year.1 mt_X8_year.1 ∈ ds_T := ds_wb_T (p := 698) (by decide +kernel)
set_option maxRecDepth 100000 in
theorem zw_X8_told : Cond.code mt_X8_told.1 mt_X8_told.2.1 mt_X8_told.2.2.1 mt_X8_told.2.2.2.1 ∈ ds_T ∧ Cond.initialized mt_X8_told.1.cls ∈ ds_T ∧ (mt_X8_told.1.cls ≠ "java/lang/invoke/MethodHandle" ∧ mt_X8_told.1.cls ≠ "java/lang/invoke/VarHandle" ∧ (parseMethodDescriptor mt_X8_told.1.desc).map (fun d => d.parameters.length) = some 1) := ⟨ds_T_of (i := 718) rfl rfl, ds_wb_T (p := 42) (by decide +kernel), by decide +kernel⟩
theorem zi_X8_told : Cond.instanceMethod mt_X8_told.1 ∈ ds_T := ds_wb_T (p := 716) (by decide +kernel)
theorem zs_X8_told : Cond.selects mt_X8_told.1.cls mt_X8_told.1 mt_X8_told.1 ∈ ds_T := ds_wb_T (p := 717) (by decide +kernel)
set_option maxRecDepth 100000 in
theorem zw_X8_refusalOfNews : Cond.code mt_X8_refusalOfNews.1 mt_X8_refusalOfNews.2.1 mt_X8_refusalOfNews.2.2.1 mt_X8_refusalOfNews.2.2.2.1 ∈ ds_T ∧ Cond.initialized mt_X8_refusalOfNews.1.cls ∈ ds_T ∧ (mt_X8_refusalOfNews.1.cls ≠ "java/lang/invoke/MethodHandle" ∧ mt_X8_refusalOfNews.1.cls ≠ "java/lang/invoke/VarHandle" ∧ (parseMethodDescriptor mt_X8_refusalOfNews.1.desc).map (fun d => d.parameters.length) = some 2) := ⟨ds_T_of (i := 636) rfl rfl, ds_wb_T (p := 42) (by decide +kernel), by decide +kernel⟩
theorem zi_X8_refusalOfNews : Cond.instanceMethod mt_X8_refusalOfNews.1 ∈ ds_T := ds_wb_T (p := 635) (by decide +kernel)
theorem zs_X8_refusalOfNews : Cond.selects mt_X8_refusalOfNews.1.cls mt_X8_refusalOfNews.1 mt_X8_refusalOfNews.1 ∈ ds_T := ds_wb_T (p := 12) (by decide +kernel)
set_option maxRecDepth 100000 in
theorem zw_X8_findPeak : Cond.code mt_X8_findPeak.1 mt_X8_findPeak.2.1 mt_X8_findPeak.2.2.1 mt_X8_findPeak.2.2.2.1 ∈ ds_T ∧ Cond.initialized mt_X8_findPeak.1.cls ∈ ds_T ∧ (mt_X8_findPeak.1.cls ≠ "java/lang/invoke/MethodHandle" ∧ mt_X8_findPeak.1.cls ≠ "java/lang/invoke/VarHandle" ∧ (parseMethodDescriptor mt_X8_findPeak.1.desc).map (fun d => d.parameters.length) = some 1) := ⟨ds_T_of (i := 517) rfl rfl, ds_wb_T (p := 42) (by decide +kernel), by decide +kernel⟩
theorem zi_X8_findPeak : Cond.instanceMethod mt_X8_findPeak.1 ∈ ds_T := ds_wb_T (p := 516) (by decide +kernel)
theorem zs_X8_findPeak : Cond.selects mt_X8_findPeak.1.cls mt_X8_findPeak.1 mt_X8_findPeak.1 ∈ ds_T := ds_wb_T (p := 6) (by decide +kernel)
set_option maxRecDepth 100000 in
theorem zw_X8_growByHundredths : Cond.code mt_X8_growByHundredths.1 mt_X8_growByHundredths.2.1 mt_X8_growByHundredths.2.2.1 mt_X8_growByHundredths.2.2.2.1 ∈ ds_T ∧ Cond.initialized mt_X8_growByHundredths.1.cls ∈ ds_T ∧ (mt_X8_growByHundredths.1.cls ≠ "java/lang/invoke/MethodHandle" ∧ mt_X8_growByHundredths.1.cls ≠ "java/lang/invoke/VarHandle" ∧ (parseMethodDescriptor mt_X8_growByHundredths.1.desc).map (fun d => d.parameters.length) = some 1) := ⟨ds_T_of (i := 708) rfl rfl, ds_wb_T (p := 42) (by decide +kernel), by decide +kernel⟩
theorem zi_X8_growByHundredths : Cond.instanceMethod mt_X8_growByHundredths.1 ∈ ds_T := ds_wb_T (p := 707) (by decide +kernel)
theorem zs_X8_growByHundredths : Cond.selects mt_X8_growByHundredths.1.cls mt_X8_growByHundredths.1 mt_X8_growByHundredths.1 ∈ ds_T := ds_wb_T (p := 20) (by decide +kernel)
set_option maxRecDepth 100000 in
theorem zw_X8_sumOfLoads : Cond.code mt_X8_sumOfLoads.1 mt_X8_sumOfLoads.2.1 mt_X8_sumOfLoads.2.2.1 mt_X8_sumOfLoads.2.2.2.1 ∈ ds_T ∧ Cond.initialized mt_X8_sumOfLoads.1.cls ∈ ds_T ∧ (mt_X8_sumOfLoads.1.cls ≠ "java/lang/invoke/MethodHandle" ∧ mt_X8_sumOfLoads.1.cls ≠ "java/lang/invoke/VarHandle" ∧ (parseMethodDescriptor mt_X8_sumOfLoads.1.desc).map (fun d => d.parameters.length) = some 1) := ⟨ds_T_of (i := 722) rfl rfl, ds_wb_T (p := 42) (by decide +kernel), by decide +kernel⟩
theorem zi_X8_sumOfLoads : Cond.instanceMethod mt_X8_sumOfLoads.1 ∈ ds_T := ds_wb_T (p := 721) (by decide +kernel)
theorem zs_X8_sumOfLoads : Cond.selects mt_X8_sumOfLoads.1.cls mt_X8_sumOfLoads.1 mt_X8_sumOfLoads.1 ∈ ds_T := ds_wb_T (p := 21) (by decide +kernel)
set_option maxRecDepth 100000 in
theorem zw_X8_isTable : Cond.code mt_X8_isTable.1 mt_X8_isTable.2.1 mt_X8_isTable.2.2.1 mt_X8_isTable.2.2.2.1 ∈ ds_T ∧ Cond.initialized mt_X8_isTable.1.cls ∈ ds_T ∧ (mt_X8_isTable.1.cls ≠ "java/lang/invoke/MethodHandle" ∧ mt_X8_isTable.1.cls ≠ "java/lang/invoke/VarHandle" ∧ (parseMethodDescriptor mt_X8_isTable.1.desc).map (fun d => d.parameters.length) = some 1) := ⟨ds_T_of (i := 418) rfl rfl, ds_wb_T (p := 42) (by decide +kernel), by decide +kernel⟩
theorem zt_X8_isTable : Cond.static mt_X8_isTable.1 ∈ ds_T := ds_wb_T (p := 417) (by decide +kernel)
set_option maxRecDepth 100000 in
theorem zw_X8_isWeight : Cond.code mt_X8_isWeight.1 mt_X8_isWeight.2.1 mt_X8_isWeight.2.2.1 mt_X8_isWeight.2.2.2.1 ∈ ds_T ∧ Cond.initialized mt_X8_isWeight.1.cls ∈ ds_T ∧ (mt_X8_isWeight.1.cls ≠ "java/lang/invoke/MethodHandle" ∧ mt_X8_isWeight.1.cls ≠ "java/lang/invoke/VarHandle" ∧ (parseMethodDescriptor mt_X8_isWeight.1.desc).map (fun d => d.parameters.length) = some 1) := ⟨ds_T_of (i := 382) rfl rfl, ds_wb_T (p := 42) (by decide +kernel), by decide +kernel⟩
theorem zt_X8_isWeight : Cond.static mt_X8_isWeight.1 ∈ ds_T := ds_wb_T (p := 381) (by decide +kernel)
set_option maxRecDepth 100000 in
theorem zw_X8_isOneOfTwo : Cond.code mt_X8_isOneOfTwo.1 mt_X8_isOneOfTwo.2.1 mt_X8_isOneOfTwo.2.2.1 mt_X8_isOneOfTwo.2.2.2.1 ∈ ds_T ∧ Cond.initialized mt_X8_isOneOfTwo.1.cls ∈ ds_T ∧ (mt_X8_isOneOfTwo.1.cls ≠ "java/lang/invoke/MethodHandle" ∧ mt_X8_isOneOfTwo.1.cls ≠ "java/lang/invoke/VarHandle" ∧ (parseMethodDescriptor mt_X8_isOneOfTwo.1.desc).map (fun d => d.parameters.length) = some 1) := ⟨ds_T_of (i := 408) rfl rfl, ds_wb_T (p := 42) (by decide +kernel), by decide +kernel⟩
theorem zt_X8_isOneOfTwo : Cond.static mt_X8_isOneOfTwo.1 ∈ ds_T := ds_wb_T (p := 407) (by decide +kernel)
set_option maxRecDepth 100000 in
theorem zw_X8_bit : Cond.code mt_X8_bit.1 mt_X8_bit.2.1 mt_X8_bit.2.2.1 mt_X8_bit.2.2.2.1 ∈ ds_T ∧ Cond.initialized mt_X8_bit.1.cls ∈ ds_T ∧ (mt_X8_bit.1.cls ≠ "java/lang/invoke/MethodHandle" ∧ mt_X8_bit.1.cls ≠ "java/lang/invoke/VarHandle" ∧ (parseMethodDescriptor mt_X8_bit.1.desc).map (fun d => d.parameters.length) = some 2) := ⟨ds_T_of (i := 397) rfl rfl, ds_wb_T (p := 42) (by decide +kernel), by decide +kernel⟩
theorem zt_X8_bit : Cond.static mt_X8_bit.1 ∈ ds_T := ds_wb_T (p := 396) (by decide +kernel)
set_option maxRecDepth 100000 in
theorem zw_X8_withBit : Cond.code mt_X8_withBit.1 mt_X8_withBit.2.1 mt_X8_withBit.2.2.1 mt_X8_withBit.2.2.2.1 ∈ ds_T ∧ Cond.initialized mt_X8_withBit.1.cls ∈ ds_T ∧ (mt_X8_withBit.1.cls ≠ "java/lang/invoke/MethodHandle" ∧ mt_X8_withBit.1.cls ≠ "java/lang/invoke/VarHandle" ∧ (parseMethodDescriptor mt_X8_withBit.1.desc).map (fun d => d.parameters.length) = some 3) := ⟨ds_T_of (i := 411) rfl rfl, ds_wb_T (p := 42) (by decide +kernel), by decide +kernel⟩
theorem zt_X8_withBit : Cond.static mt_X8_withBit.1 ∈ ds_T := ds_wb_T (p := 410) (by decide +kernel)
set_option maxRecDepth 100000 in
theorem zw_X8_pair : Cond.code mt_X8_pair.1 mt_X8_pair.2.1 mt_X8_pair.2.2.1 mt_X8_pair.2.2.2.1 ∈ ds_T ∧ Cond.initialized mt_X8_pair.1.cls ∈ ds_T ∧ (mt_X8_pair.1.cls ≠ "java/lang/invoke/MethodHandle" ∧ mt_X8_pair.1.cls ≠ "java/lang/invoke/VarHandle" ∧ (parseMethodDescriptor mt_X8_pair.1.desc).map (fun d => d.parameters.length) = some 2) := ⟨ds_T_of (i := 421) rfl rfl, ds_wb_T (p := 42) (by decide +kernel), by decide +kernel⟩
theorem zt_X8_pair : Cond.static mt_X8_pair.1 ∈ ds_T := ds_wb_T (p := 420) (by decide +kernel)
set_option maxRecDepth 100000 in
theorem zw_X8_slot : Cond.code mt_X8_slot.1 mt_X8_slot.2.1 mt_X8_slot.2.2.1 mt_X8_slot.2.2.2.1 ∈ ds_T ∧ Cond.initialized mt_X8_slot.1.cls ∈ ds_T ∧ (mt_X8_slot.1.cls ≠ "java/lang/invoke/MethodHandle" ∧ mt_X8_slot.1.cls ≠ "java/lang/invoke/VarHandle" ∧ (parseMethodDescriptor mt_X8_slot.1.desc).map (fun d => d.parameters.length) = some 2) := ⟨ds_T_of (i := 480) rfl rfl, ds_wb_T (p := 42) (by decide +kernel), by decide +kernel⟩
theorem zt_X8_slot : Cond.static mt_X8_slot.1 ∈ ds_T := ds_wb_T (p := 479) (by decide +kernel)
set_option maxRecDepth 100000 in
theorem zw_X8_fraction : Cond.code mt_X8_fraction.1 mt_X8_fraction.2.1 mt_X8_fraction.2.2.1 mt_X8_fraction.2.2.2.1 ∈ ds_T ∧ Cond.initialized mt_X8_fraction.1.cls ∈ ds_T ∧ (mt_X8_fraction.1.cls ≠ "java/lang/invoke/MethodHandle" ∧ mt_X8_fraction.1.cls ≠ "java/lang/invoke/VarHandle" ∧ (parseMethodDescriptor mt_X8_fraction.1.desc).map (fun d => d.parameters.length) = some 3) := ⟨ds_T_of (i := 484) rfl rfl, ds_wb_T (p := 42) (by decide +kernel), by decide +kernel⟩
theorem zt_X8_fraction : Cond.static mt_X8_fraction.1 ∈ ds_T := ds_wb_T (p := 483) (by decide +kernel)
set_option maxRecDepth 100000 in
theorem zw_X8_commonDivisor : Cond.code mt_X8_commonDivisor.1 mt_X8_commonDivisor.2.1 mt_X8_commonDivisor.2.2.1 mt_X8_commonDivisor.2.2.2.1 ∈ ds_T ∧ Cond.initialized mt_X8_commonDivisor.1.cls ∈ ds_T ∧ (mt_X8_commonDivisor.1.cls ≠ "java/lang/invoke/MethodHandle" ∧ mt_X8_commonDivisor.1.cls ≠ "java/lang/invoke/VarHandle" ∧ (parseMethodDescriptor mt_X8_commonDivisor.1.desc).map (fun d => d.parameters.length) = some 2) := ⟨ds_T_of (i := 487) rfl rfl, ds_wb_T (p := 42) (by decide +kernel), by decide +kernel⟩
theorem zt_X8_commonDivisor : Cond.static mt_X8_commonDivisor.1 ∈ ds_T := ds_wb_T (p := 486) (by decide +kernel)
set_option maxRecDepth 100000 in
theorem zw_X9_in : Cond.code mt_X9_in.1 mt_X9_in.2.1 mt_X9_in.2.2.1 mt_X9_in.2.2.2.1 ∈ ds_T ∧ Cond.initialized mt_X9_in.1.cls ∈ ds_T ∧ (mt_X9_in.1.cls ≠ "java/lang/invoke/MethodHandle" ∧ mt_X9_in.1.cls ≠ "java/lang/invoke/VarHandle" ∧ (parseMethodDescriptor mt_X9_in.1.desc).map (fun d => d.parameters.length) = some 3) := ⟨ds_T_of (i := 838) rfl rfl, ds_wb_T (p := 51) (by decide +kernel), by decide +kernel⟩
theorem zt_X9_in : Cond.static mt_X9_in.1 ∈ ds_T := ds_wb_T (p := 837) (by decide +kernel)
set_option maxRecDepth 100000 in
theorem zw_X9_common : Cond.code mt_X9_common.1 mt_X9_common.2.1 mt_X9_common.2.2.1 mt_X9_common.2.2.2.1 ∈ ds_T ∧ Cond.initialized mt_X9_common.1.cls ∈ ds_T ∧ (mt_X9_common.1.cls ≠ "java/lang/invoke/MethodHandle" ∧ mt_X9_common.1.cls ≠ "java/lang/invoke/VarHandle" ∧ (parseMethodDescriptor mt_X9_common.1.desc).map (fun d => d.parameters.length) = some 2) := ⟨ds_T_of (i := 924) rfl rfl, ds_wb_T (p := 51) (by decide +kernel), by decide +kernel⟩
theorem zt_X9_common : Cond.static mt_X9_common.1 ∈ ds_T := ds_wb_T (p := 923) (by decide +kernel)
set_option maxRecDepth 100000 in
theorem zw_X9_isGreater : Cond.code mt_X9_isGreater.1 mt_X9_isGreater.2.1 mt_X9_isGreater.2.2.1 mt_X9_isGreater.2.2.2.1 ∈ ds_T ∧ Cond.initialized mt_X9_isGreater.1.cls ∈ ds_T ∧ (mt_X9_isGreater.1.cls ≠ "java/lang/invoke/MethodHandle" ∧ mt_X9_isGreater.1.cls ≠ "java/lang/invoke/VarHandle" ∧ (parseMethodDescriptor mt_X9_isGreater.1.desc).map (fun d => d.parameters.length) = some 4) := ⟨ds_T_of (i := 944) rfl rfl, ds_wb_T (p := 51) (by decide +kernel), by decide +kernel⟩
theorem zt_X9_isGreater : Cond.static mt_X9_isGreater.1 ∈ ds_T := ds_wb_T (p := 943) (by decide +kernel)
set_option maxRecDepth 100000 in
theorem zw_X9_isBox : Cond.code mt_X9_isBox.1 mt_X9_isBox.2.1 mt_X9_isBox.2.2.1 mt_X9_isBox.2.2.2.1 ∈ ds_T ∧ Cond.initialized mt_X9_isBox.1.cls ∈ ds_T ∧ (mt_X9_isBox.1.cls ≠ "java/lang/invoke/MethodHandle" ∧ mt_X9_isBox.1.cls ≠ "java/lang/invoke/VarHandle" ∧ (parseMethodDescriptor mt_X9_isBox.1.desc).map (fun d => d.parameters.length) = some 1) := ⟨ds_T_of (i := 846) rfl rfl, ds_wb_T (p := 51) (by decide +kernel), by decide +kernel⟩
theorem zi_X9_isBox : Cond.instanceMethod mt_X9_isBox.1 ∈ ds_T := ds_wb_T (p := 845) (by decide +kernel)
theorem zs_X9_isBox : Cond.selects mt_X9_isBox.1.cls mt_X9_isBox.1 mt_X9_isBox.1 ∈ ds_T := ds_wb_T (p := 22) (by decide +kernel)
set_option maxRecDepth 100000 in
theorem zw_X9_isLine : Cond.code mt_X9_isLine.1 mt_X9_isLine.2.1 mt_X9_isLine.2.2.1 mt_X9_isLine.2.2.2.1 ∈ ds_T ∧ Cond.initialized mt_X9_isLine.1.cls ∈ ds_T ∧ (mt_X9_isLine.1.cls ≠ "java/lang/invoke/MethodHandle" ∧ mt_X9_isLine.1.cls ≠ "java/lang/invoke/VarHandle" ∧ (parseMethodDescriptor mt_X9_isLine.1.desc).map (fun d => d.parameters.length) = some 1) := ⟨ds_T_of (i := 856) rfl rfl, ds_wb_T (p := 51) (by decide +kernel), by decide +kernel⟩
theorem zi_X9_isLine : Cond.instanceMethod mt_X9_isLine.1 ∈ ds_T := ds_wb_T (p := 855) (by decide +kernel)
theorem zs_X9_isLine : Cond.selects mt_X9_isLine.1.cls mt_X9_isLine.1 mt_X9_isLine.1 ∈ ds_T := ds_wb_T (p := 23) (by decide +kernel)
set_option maxRecDepth 100000 in
theorem zw_X9_isTable : Cond.code mt_X9_isTable.1 mt_X9_isTable.2.1 mt_X9_isTable.2.2.1 mt_X9_isTable.2.2.2.1 ∈ ds_T ∧ Cond.initialized mt_X9_isTable.1.cls ∈ ds_T ∧ (mt_X9_isTable.1.cls ≠ "java/lang/invoke/MethodHandle" ∧ mt_X9_isTable.1.cls ≠ "java/lang/invoke/VarHandle" ∧ (parseMethodDescriptor mt_X9_isTable.1.desc).map (fun d => d.parameters.length) = some 1) := ⟨ds_T_of (i := 871) rfl rfl, ds_wb_T (p := 51) (by decide +kernel), by decide +kernel⟩
theorem zt_X9_isTable : Cond.static mt_X9_isTable.1 ∈ ds_T := ds_wb_T (p := 870) (by decide +kernel)
set_option maxRecDepth 100000 in
theorem zw_X9_boxes : Cond.code mt_X9_boxes.1 mt_X9_boxes.2.1 mt_X9_boxes.2.2.1 mt_X9_boxes.2.2.2.1 ∈ ds_T ∧ Cond.initialized mt_X9_boxes.1.cls ∈ ds_T ∧ (mt_X9_boxes.1.cls ≠ "java/lang/invoke/MethodHandle" ∧ mt_X9_boxes.1.cls ≠ "java/lang/invoke/VarHandle" ∧ (parseMethodDescriptor mt_X9_boxes.1.desc).map (fun d => d.parameters.length) = some 1) := ⟨ds_T_of (i := 833) rfl rfl, ds_wb_T (p := 51) (by decide +kernel), by decide +kernel⟩
theorem zi_X9_boxes : Cond.instanceMethod mt_X9_boxes.1 ∈ ds_T := ds_wb_T (p := 831) (by decide +kernel)
theorem zs_X9_boxes : Cond.selects mt_X9_boxes.1.cls mt_X9_boxes.1 mt_X9_boxes.1 ∈ ds_T := ds_wb_T (p := 832) (by decide +kernel)
set_option maxRecDepth 100000 in
theorem zw_X9_line : Cond.code mt_X9_line.1 mt_X9_line.2.1 mt_X9_line.2.2.1 mt_X9_line.2.2.2.1 ∈ ds_T ∧ Cond.initialized mt_X9_line.1.cls ∈ ds_T ∧ (mt_X9_line.1.cls ≠ "java/lang/invoke/MethodHandle" ∧ mt_X9_line.1.cls ≠ "java/lang/invoke/VarHandle" ∧ (parseMethodDescriptor mt_X9_line.1.desc).map (fun d => d.parameters.length) = some 4) := ⟨ds_T_of (i := 842) rfl rfl, ds_wb_T (p := 51) (by decide +kernel), by decide +kernel⟩
theorem zi_X9_line : Cond.instanceMethod mt_X9_line.1 ∈ ds_T := ds_wb_T (p := 840) (by decide +kernel)
theorem zs_X9_line : Cond.selects mt_X9_line.1.cls mt_X9_line.1 mt_X9_line.1 ∈ ds_T := ds_wb_T (p := 841) (by decide +kernel)
set_option maxRecDepth 100000 in
theorem zw_X9_about : Cond.code mt_X9_about.1 mt_X9_about.2.1 mt_X9_about.2.2.1 mt_X9_about.2.2.2.1 ∈ ds_T ∧ Cond.initialized mt_X9_about.1.cls ∈ ds_T ∧ (mt_X9_about.1.cls ≠ "java/lang/invoke/MethodHandle" ∧ mt_X9_about.1.cls ≠ "java/lang/invoke/VarHandle" ∧ (parseMethodDescriptor mt_X9_about.1.desc).map (fun d => d.parameters.length) = some 2) := ⟨ds_T_of (i := 852) rfl rfl, ds_wb_T (p := 51) (by decide +kernel), by decide +kernel⟩
theorem zi_X9_about : Cond.instanceMethod mt_X9_about.1 ∈ ds_T := ds_wb_T (p := 850) (by decide +kernel)
theorem zs_X9_about : Cond.selects mt_X9_about.1.cls mt_X9_about.1 mt_X9_about.1 ∈ ds_T := ds_wb_T (p := 851) (by decide +kernel)
set_option maxRecDepth 100000 in
theorem zw_X9_weigh : Cond.code mt_X9_weigh.1 mt_X9_weigh.2.1 mt_X9_weigh.2.2.1 mt_X9_weigh.2.2.2.1 ∈ ds_T ∧ Cond.initialized mt_X9_weigh.1.cls ∈ ds_T ∧ (mt_X9_weigh.1.cls ≠ "java/lang/invoke/MethodHandle" ∧ mt_X9_weigh.1.cls ≠ "java/lang/invoke/VarHandle" ∧ (parseMethodDescriptor mt_X9_weigh.1.desc).map (fun d => d.parameters.length) = some 2) := ⟨ds_T_of (i := 860) rfl rfl, ds_wb_T (p := 51) (by decide +kernel), by decide +kernel⟩
theorem zi_X9_weigh : Cond.instanceMethod mt_X9_weigh.1 ∈ ds_T := ds_wb_T (p := 858) (by decide +kernel)
theorem zs_X9_weigh : Cond.selects mt_X9_weigh.1.cls mt_X9_weigh.1 mt_X9_weigh.1 ∈ ds_T := ds_wb_T (p := 859) (by decide +kernel)
set_option maxRecDepth 100000 in
theorem zw_X9_mark : Cond.code mt_X9_mark.1 mt_X9_mark.2.1 mt_X9_mark.2.2.1 mt_X9_mark.2.2.2.1 ∈ ds_T ∧ Cond.initialized mt_X9_mark.1.cls ∈ ds_T ∧ (mt_X9_mark.1.cls ≠ "java/lang/invoke/MethodHandle" ∧ mt_X9_mark.1.cls ≠ "java/lang/invoke/VarHandle" ∧ (parseMethodDescriptor mt_X9_mark.1.desc).map (fun d => d.parameters.length) = some 3) := ⟨ds_T_of (i := 864) rfl rfl, ds_wb_T (p := 51) (by decide +kernel), by decide +kernel⟩
theorem zi_X9_mark : Cond.instanceMethod mt_X9_mark.1 ∈ ds_T := ds_wb_T (p := 862) (by decide +kernel)
theorem zs_X9_mark : Cond.selects mt_X9_mark.1.cls mt_X9_mark.1 mt_X9_mark.1 ∈ ds_T := ds_wb_T (p := 863) (by decide +kernel)
set_option maxRecDepth 100000 in
theorem zw_X9_loadOf : Cond.code mt_X9_loadOf.1 mt_X9_loadOf.2.1 mt_X9_loadOf.2.2.1 mt_X9_loadOf.2.2.2.1 ∈ ds_T ∧ Cond.initialized mt_X9_loadOf.1.cls ∈ ds_T ∧ (mt_X9_loadOf.1.cls ≠ "java/lang/invoke/MethodHandle" ∧ mt_X9_loadOf.1.cls ≠ "java/lang/invoke/VarHandle" ∧ (parseMethodDescriptor mt_X9_loadOf.1.desc).map (fun d => d.parameters.length) = some 3) := ⟨ds_T_of (i := 876) rfl rfl, ds_wb_T (p := 51) (by decide +kernel), by decide +kernel⟩
theorem zi_X9_loadOf : Cond.instanceMethod mt_X9_loadOf.1 ∈ ds_T := ds_wb_T (p := 875) (by decide +kernel)
theorem zs_X9_loadOf : Cond.selects mt_X9_loadOf.1.cls mt_X9_loadOf.1 mt_X9_loadOf.1 ∈ ds_T := ds_wb_T (p := 24) (by decide +kernel)
set_option maxRecDepth 100000 in
theorem zw_X9_load : Cond.code mt_X9_load.1 mt_X9_load.2.1 mt_X9_load.2.2.1 mt_X9_load.2.2.2.1 ∈ ds_T ∧ Cond.initialized mt_X9_load.1.cls ∈ ds_T ∧ (mt_X9_load.1.cls ≠ "java/lang/invoke/MethodHandle" ∧ mt_X9_load.1.cls ≠ "java/lang/invoke/VarHandle" ∧ (parseMethodDescriptor mt_X9_load.1.desc).map (fun d => d.parameters.length) = some 4) := ⟨ds_T_of (i := 868) rfl rfl, ds_wb_T (p := 51) (by decide +kernel), by decide +kernel⟩
theorem zi_X9_load : Cond.instanceMethod mt_X9_load.1 ∈ ds_T := ds_wb_T (p := 866) (by decide +kernel)
theorem zs_X9_load : Cond.selects mt_X9_load.1.cls mt_X9_load.1 mt_X9_load.1 ∈ ds_T := ds_wb_T (p := 867) (by decide +kernel)
set_option maxRecDepth 100000 in
theorem zw_X9_isThere : Cond.code mt_X9_isThere.1 mt_X9_isThere.2.1 mt_X9_isThere.2.2.1 mt_X9_isThere.2.2.2.1 ∈ ds_T ∧ Cond.initialized mt_X9_isThere.1.cls ∈ ds_T ∧ (mt_X9_isThere.1.cls ≠ "java/lang/invoke/MethodHandle" ∧ mt_X9_isThere.1.cls ≠ "java/lang/invoke/VarHandle" ∧ (parseMethodDescriptor mt_X9_isThere.1.desc).map (fun d => d.parameters.length) = some 1) := ⟨ds_T_of (i := 889) rfl rfl, ds_wb_T (p := 51) (by decide +kernel), by decide +kernel⟩
theorem zi_X9_isThere : Cond.instanceMethod mt_X9_isThere.1 ∈ ds_T := ds_wb_T (p := 888) (by decide +kernel)
theorem zs_X9_isThere : Cond.selects mt_X9_isThere.1.cls mt_X9_isThere.1 mt_X9_isThere.1 ∈ ds_T := ds_wb_T (p := 26) (by decide +kernel)
set_option maxRecDepth 100000 in
theorem zw_X9_findFar : Cond.code mt_X9_findFar.1 mt_X9_findFar.2.1 mt_X9_findFar.2.2.1 mt_X9_findFar.2.2.2.1 ∈ ds_T ∧ Cond.initialized mt_X9_findFar.1.cls ∈ ds_T ∧ (mt_X9_findFar.1.cls ≠ "java/lang/invoke/MethodHandle" ∧ mt_X9_findFar.1.cls ≠ "java/lang/invoke/VarHandle" ∧ (parseMethodDescriptor mt_X9_findFar.1.desc).map (fun d => d.parameters.length) = some 1) := ⟨ds_T_of (i := 884) rfl rfl, ds_wb_T (p := 51) (by decide +kernel), by decide +kernel⟩
theorem zi_X9_findFar : Cond.instanceMethod mt_X9_findFar.1 ∈ ds_T := ds_wb_T (p := 883) (by decide +kernel)
theorem zs_X9_findFar : Cond.selects mt_X9_findFar.1.cls mt_X9_findFar.1 mt_X9_findFar.1 ∈ ds_T := ds_wb_T (p := 25) (by decide +kernel)
set_option maxRecDepth 100000 in
theorem zw_X9_least : Cond.code mt_X9_least.1 mt_X9_least.2.1 mt_X9_least.2.2.1 mt_X9_least.2.2.2.1 ∈ ds_T ∧ Cond.initialized mt_X9_least.1.cls ∈ ds_T ∧ (mt_X9_least.1.cls ≠ "java/lang/invoke/MethodHandle" ∧ mt_X9_least.1.cls ≠ "java/lang/invoke/VarHandle" ∧ (parseMethodDescriptor mt_X9_least.1.desc).map (fun d => d.parameters.length) = some 2) := ⟨ds_T_of (i := 880) rfl rfl, ds_wb_T (p := 51) (by decide +kernel), by decide +kernel⟩
theorem zi_X9_least : Cond.instanceMethod mt_X9_least.1 ∈ ds_T := ds_wb_T (p := 878) (by decide +kernel)
theorem zs_X9_least : Cond.selects mt_X9_least.1.cls mt_X9_least.1 mt_X9_least.1 ∈ ds_T := ds_wb_T (p := 879) (by decide +kernel)
set_option maxRecDepth 100000 in
theorem zw_X9_isNext : Cond.code mt_X9_isNext.1 mt_X9_isNext.2.1 mt_X9_isNext.2.2.1 mt_X9_isNext.2.2.2.1 ∈ ds_T ∧ Cond.initialized mt_X9_isNext.1.cls ∈ ds_T ∧ (mt_X9_isNext.1.cls ≠ "java/lang/invoke/MethodHandle" ∧ mt_X9_isNext.1.cls ≠ "java/lang/invoke/VarHandle" ∧ (parseMethodDescriptor mt_X9_isNext.1.desc).map (fun d => d.parameters.length) = some 2) := ⟨ds_T_of (i := 901) rfl rfl, ds_wb_T (p := 51) (by decide +kernel), by decide +kernel⟩
theorem zi_X9_isNext : Cond.instanceMethod mt_X9_isNext.1 ∈ ds_T := ds_wb_T (p := 900) (by decide +kernel)
theorem zs_X9_isNext : Cond.selects mt_X9_isNext.1.cls mt_X9_isNext.1 mt_X9_isNext.1 ∈ ds_T := ds_wb_T (p := 28) (by decide +kernel)
set_option maxRecDepth 100000 in
theorem zw_X9_nextOf : Cond.code mt_X9_nextOf.1 mt_X9_nextOf.2.1 mt_X9_nextOf.2.2.1 mt_X9_nextOf.2.2.2.1 ∈ ds_T ∧ Cond.initialized mt_X9_nextOf.1.cls ∈ ds_T ∧ (mt_X9_nextOf.1.cls ≠ "java/lang/invoke/MethodHandle" ∧ mt_X9_nextOf.1.cls ≠ "java/lang/invoke/VarHandle" ∧ (parseMethodDescriptor mt_X9_nextOf.1.desc).map (fun d => d.parameters.length) = some 1) := ⟨ds_T_of (i := 897) rfl rfl, ds_wb_T (p := 51) (by decide +kernel), by decide +kernel⟩
theorem zi_X9_nextOf : Cond.instanceMethod mt_X9_nextOf.1 ∈ ds_T := ds_wb_T (p := 896) (by decide +kernel)
theorem zs_X9_nextOf : Cond.selects mt_X9_nextOf.1.cls mt_X9_nextOf.1 mt_X9_nextOf.1 ∈ ds_T := ds_wb_T (p := 27) (by decide +kernel)
set_option maxRecDepth 100000 in
theorem zw_X9_next : Cond.code mt_X9_next.1 mt_X9_next.2.1 mt_X9_next.2.2.1 mt_X9_next.2.2.2.1 ∈ ds_T ∧ Cond.initialized mt_X9_next.1.cls ∈ ds_T ∧ (mt_X9_next.1.cls ≠ "java/lang/invoke/MethodHandle" ∧ mt_X9_next.1.cls ≠ "java/lang/invoke/VarHandle" ∧ (parseMethodDescriptor mt_X9_next.1.desc).map (fun d => d.parameters.length) = some 2) := ⟨ds_T_of (i := 893) rfl rfl, ds_wb_T (p := 51) (by decide +kernel), by decide +kernel⟩
theorem zi_X9_next : Cond.instanceMethod mt_X9_next.1 ∈ ds_T := ds_wb_T (p := 891) (by decide +kernel)
theorem zs_X9_next : Cond.selects mt_X9_next.1.cls mt_X9_next.1 mt_X9_next.1 ∈ ds_T := ds_wb_T (p := 892) (by decide +kernel)
set_option maxRecDepth 100000 in
theorem zw_X9_ones : Cond.code mt_X9_ones.1 mt_X9_ones.2.1 mt_X9_ones.2.2.1 mt_X9_ones.2.2.2.1 ∈ ds_T ∧ Cond.initialized mt_X9_ones.1.cls ∈ ds_T ∧ (mt_X9_ones.1.cls ≠ "java/lang/invoke/MethodHandle" ∧ mt_X9_ones.1.cls ≠ "java/lang/invoke/VarHandle" ∧ (parseMethodDescriptor mt_X9_ones.1.desc).map (fun d => d.parameters.length) = some 1) := ⟨ds_T_of (i := 914) rfl rfl, ds_wb_T (p := 51) (by decide +kernel), by decide +kernel⟩
theorem zt_X9_ones : Cond.static mt_X9_ones.1 ∈ ds_T := ds_wb_T (p := 913) (by decide +kernel)
set_option maxRecDepth 100000 in
theorem zw_X9_goDown : Cond.code mt_X9_goDown.1 mt_X9_goDown.2.1 mt_X9_goDown.2.2.1 mt_X9_goDown.2.2.2.1 ∈ ds_T ∧ Cond.initialized mt_X9_goDown.1.cls ∈ ds_T ∧ (mt_X9_goDown.1.cls ≠ "java/lang/invoke/MethodHandle" ∧ mt_X9_goDown.1.cls ≠ "java/lang/invoke/VarHandle" ∧ (parseMethodDescriptor mt_X9_goDown.1.desc).map (fun d => d.parameters.length) = some 0) := ⟨ds_T_of (i := 911) rfl rfl, ds_wb_T (p := 51) (by decide +kernel), by decide +kernel⟩
theorem zi_X9_goDown : Cond.instanceMethod mt_X9_goDown.1 ∈ ds_T := ds_wb_T (p := 910) (by decide +kernel)
theorem zs_X9_goDown : Cond.selects mt_X9_goDown.1.cls mt_X9_goDown.1 mt_X9_goDown.1 ∈ ds_T := ds_wb_T (p := 29) (by decide +kernel)
set_option maxRecDepth 100000 in
theorem zw_X9_parts : Cond.code mt_X9_parts.1 mt_X9_parts.2.1 mt_X9_parts.2.2.1 mt_X9_parts.2.2.2.1 ∈ ds_T ∧ Cond.initialized mt_X9_parts.1.cls ∈ ds_T ∧ (mt_X9_parts.1.cls ≠ "java/lang/invoke/MethodHandle" ∧ mt_X9_parts.1.cls ≠ "java/lang/invoke/VarHandle" ∧ (parseMethodDescriptor mt_X9_parts.1.desc).map (fun d => d.parameters.length) = some 1) := ⟨ds_T_of (i := 918) rfl rfl, ds_wb_T (p := 51) (by decide +kernel), by decide +kernel⟩
theorem zi_X9_parts : Cond.instanceMethod mt_X9_parts.1 ∈ ds_T := ds_wb_T (p := 917) (by decide +kernel)
theorem zs_X9_parts : Cond.selects mt_X9_parts.1.cls mt_X9_parts.1 mt_X9_parts.1 ∈ ds_T := ds_wb_T (p := 30) (by decide +kernel)
set_option maxRecDepth 100000 in
theorem zw_X9_lowest : Cond.code mt_X9_lowest.1 mt_X9_lowest.2.1 mt_X9_lowest.2.2.1 mt_X9_lowest.2.2.2.1 ∈ ds_T ∧ Cond.initialized mt_X9_lowest.1.cls ∈ ds_T ∧ (mt_X9_lowest.1.cls ≠ "java/lang/invoke/MethodHandle" ∧ mt_X9_lowest.1.cls ≠ "java/lang/invoke/VarHandle" ∧ (parseMethodDescriptor mt_X9_lowest.1.desc).map (fun d => d.parameters.length) = some 3) := ⟨ds_T_of (i := 921) rfl rfl, ds_wb_T (p := 51) (by decide +kernel), by decide +kernel⟩
theorem zt_X9_lowest : Cond.static mt_X9_lowest.1 ∈ ds_T := ds_wb_T (p := 920) (by decide +kernel)
set_option maxRecDepth 100000 in
theorem zw_X9_share : Cond.code mt_X9_share.1 mt_X9_share.2.1 mt_X9_share.2.2.1 mt_X9_share.2.2.2.1 ∈ ds_T ∧ Cond.initialized mt_X9_share.1.cls ∈ ds_T ∧ (mt_X9_share.1.cls ≠ "java/lang/invoke/MethodHandle" ∧ mt_X9_share.1.cls ≠ "java/lang/invoke/VarHandle" ∧ (parseMethodDescriptor mt_X9_share.1.desc).map (fun d => d.parameters.length) = some 5) := ⟨ds_T_of (i := 905) rfl rfl, ds_wb_T (p := 51) (by decide +kernel), by decide +kernel⟩
theorem zi_X9_share : Cond.instanceMethod mt_X9_share.1 ∈ ds_T := ds_wb_T (p := 903) (by decide +kernel)
theorem zs_X9_share : Cond.selects mt_X9_share.1.cls mt_X9_share.1 mt_X9_share.1 ∈ ds_T := ds_wb_T (p := 904) (by decide +kernel)
set_option maxRecDepth 100000 in
theorem zw_X9_findOn : Cond.code mt_X9_findOn.1 mt_X9_findOn.2.1 mt_X9_findOn.2.2.1 mt_X9_findOn.2.2.2.1 ∈ ds_T ∧ Cond.initialized mt_X9_findOn.1.cls ∈ ds_T ∧ (mt_X9_findOn.1.cls ≠ "java/lang/invoke/MethodHandle" ∧ mt_X9_findOn.1.cls ≠ "java/lang/invoke/VarHandle" ∧ (parseMethodDescriptor mt_X9_findOn.1.desc).map (fun d => d.parameters.length) = some 1) := ⟨ds_T_of (i := 932) rfl rfl, ds_wb_T (p := 51) (by decide +kernel), by decide +kernel⟩
theorem zi_X9_findOn : Cond.instanceMethod mt_X9_findOn.1 ∈ ds_T := ds_wb_T (p := 931) (by decide +kernel)
theorem zs_X9_findOn : Cond.selects mt_X9_findOn.1.cls mt_X9_findOn.1 mt_X9_findOn.1 ∈ ds_T := ds_wb_T (p := 31) (by decide +kernel)
set_option maxRecDepth 100000 in
theorem zw_X9_on : Cond.code mt_X9_on.1 mt_X9_on.2.1 mt_X9_on.2.2.1 mt_X9_on.2.2.2.1 ∈ ds_T ∧ Cond.initialized mt_X9_on.1.cls ∈ ds_T ∧ (mt_X9_on.1.cls ≠ "java/lang/invoke/MethodHandle" ∧ mt_X9_on.1.cls ≠ "java/lang/invoke/VarHandle" ∧ (parseMethodDescriptor mt_X9_on.1.desc).map (fun d => d.parameters.length) = some 4) := ⟨ds_T_of (i := 928) rfl rfl, ds_wb_T (p := 51) (by decide +kernel), by decide +kernel⟩
theorem zi_X9_on : Cond.instanceMethod mt_X9_on.1 ∈ ds_T := ds_wb_T (p := 926) (by decide +kernel)
theorem zs_X9_on : Cond.selects mt_X9_on.1.cls mt_X9_on.1 mt_X9_on.1 ∈ ds_T := ds_wb_T (p := 927) (by decide +kernel)
set_option maxRecDepth 100000 in
theorem zw_X9_findWorst : Cond.code mt_X9_findWorst.1 mt_X9_findWorst.2.1 mt_X9_findWorst.2.2.1 mt_X9_findWorst.2.2.2.1 ∈ ds_T ∧ Cond.initialized mt_X9_findWorst.1.cls ∈ ds_T ∧ (mt_X9_findWorst.1.cls ≠ "java/lang/invoke/MethodHandle" ∧ mt_X9_findWorst.1.cls ≠ "java/lang/invoke/VarHandle" ∧ (parseMethodDescriptor mt_X9_findWorst.1.desc).map (fun d => d.parameters.length) = some 1) := ⟨ds_T_of (i := 941) rfl rfl, ds_wb_T (p := 51) (by decide +kernel), by decide +kernel⟩
theorem zi_X9_findWorst : Cond.instanceMethod mt_X9_findWorst.1 ∈ ds_T := ds_wb_T (p := 940) (by decide +kernel)
theorem zs_X9_findWorst : Cond.selects mt_X9_findWorst.1.cls mt_X9_findWorst.1 mt_X9_findWorst.1 ∈ ds_T := ds_wb_T (p := 32) (by decide +kernel)
set_option maxRecDepth 100000 in
theorem zw_X9_worst : Cond.code mt_X9_worst.1 mt_X9_worst.2.1 mt_X9_worst.2.2.1 mt_X9_worst.2.2.2.1 ∈ ds_T ∧ Cond.initialized mt_X9_worst.1.cls ∈ ds_T ∧ (mt_X9_worst.1.cls ≠ "java/lang/invoke/MethodHandle" ∧ mt_X9_worst.1.cls ≠ "java/lang/invoke/VarHandle" ∧ (parseMethodDescriptor mt_X9_worst.1.desc).map (fun d => d.parameters.length) = some 2) := ⟨ds_T_of (i := 936) rfl rfl, ds_wb_T (p := 51) (by decide +kernel), by decide +kernel⟩
theorem zi_X9_worst : Cond.instanceMethod mt_X9_worst.1 ∈ ds_T := ds_wb_T (p := 934) (by decide +kernel)
theorem zs_X9_worst : Cond.selects mt_X9_worst.1.cls mt_X9_worst.1 mt_X9_worst.1 ∈ ds_T := ds_wb_T (p := 935) (by decide +kernel)
set_option maxRecDepth 100000 in
theorem zw_X9_guard : Cond.code mt_X9_guard.1 mt_X9_guard.2.1 mt_X9_guard.2.2.1 mt_X9_guard.2.2.2.1 ∈ ds_T ∧ Cond.initialized mt_X9_guard.1.cls ∈ ds_T ∧ (mt_X9_guard.1.cls ≠ "java/lang/invoke/MethodHandle" ∧ mt_X9_guard.1.cls ≠ "java/lang/invoke/VarHandle" ∧ (parseMethodDescriptor mt_X9_guard.1.desc).map (fun d => d.parameters.length) = some 1) := ⟨ds_T_of (i := 949) rfl rfl, ds_wb_T (p := 51) (by decide +kernel), by decide +kernel⟩
theorem zi_X9_guard : Cond.instanceMethod mt_X9_guard.1 ∈ ds_T := ds_wb_T (p := 947) (by decide +kernel)
theorem zs_X9_guard : Cond.selects mt_X9_guard.1.cls mt_X9_guard.1 mt_X9_guard.1 ∈ ds_T := ds_wb_T (p := 948) (by decide +kernel)
set_option maxRecDepth 100000 in
theorem zw_X9_findAll : Cond.code mt_X9_findAll.1 mt_X9_findAll.2.1 mt_X9_findAll.2.2.1 mt_X9_findAll.2.2.2.1 ∈ ds_T ∧ Cond.initialized mt_X9_findAll.1.cls ∈ ds_T ∧ (mt_X9_findAll.1.cls ≠ "java/lang/invoke/MethodHandle" ∧ mt_X9_findAll.1.cls ≠ "java/lang/invoke/VarHandle" ∧ (parseMethodDescriptor mt_X9_findAll.1.desc).map (fun d => d.parameters.length) = some 0) := ⟨ds_T_of (i := 957) rfl rfl, ds_wb_T (p := 51) (by decide +kernel), by decide +kernel⟩
theorem zi_X9_findAll : Cond.instanceMethod mt_X9_findAll.1 ∈ ds_T := ds_wb_T (p := 956) (by decide +kernel)
theorem zs_X9_findAll : Cond.selects mt_X9_findAll.1.cls mt_X9_findAll.1 mt_X9_findAll.1 ∈ ds_T := ds_wb_T (p := 33) (by decide +kernel)
set_option maxRecDepth 100000 in
theorem zw_X9_all : Cond.code mt_X9_all.1 mt_X9_all.2.1 mt_X9_all.2.2.1 mt_X9_all.2.2.2.1 ∈ ds_T ∧ Cond.initialized mt_X9_all.1.cls ∈ ds_T ∧ (mt_X9_all.1.cls ≠ "java/lang/invoke/MethodHandle" ∧ mt_X9_all.1.cls ≠ "java/lang/invoke/VarHandle" ∧ (parseMethodDescriptor mt_X9_all.1.desc).map (fun d => d.parameters.length) = some 1) := ⟨ds_T_of (i := 953) rfl rfl, ds_wb_T (p := 51) (by decide +kernel), by decide +kernel⟩
theorem zi_X9_all : Cond.instanceMethod mt_X9_all.1 ∈ ds_T := ds_wb_T (p := 951) (by decide +kernel)
theorem zs_X9_all : Cond.selects mt_X9_all.1.cls mt_X9_all.1 mt_X9_all.1 ∈ ds_T := ds_wb_T (p := 952) (by decide +kernel)
set_option maxRecDepth 100000 in
theorem zw_X9_parted : Cond.code mt_X9_parted.1 mt_X9_parted.2.1 mt_X9_parted.2.2.1 mt_X9_parted.2.2.2.1 ∈ ds_T ∧ Cond.initialized mt_X9_parted.1.cls ∈ ds_T ∧ (mt_X9_parted.1.cls ≠ "java/lang/invoke/MethodHandle" ∧ mt_X9_parted.1.cls ≠ "java/lang/invoke/VarHandle" ∧ (parseMethodDescriptor mt_X9_parted.1.desc).map (fun d => d.parameters.length) = some 2) := ⟨ds_T_of (i := 961) rfl rfl, ds_wb_T (p := 51) (by decide +kernel), by decide +kernel⟩
theorem zi_X9_parted : Cond.instanceMethod mt_X9_parted.1 ∈ ds_T := ds_wb_T (p := 959) (by decide +kernel)
theorem zs_X9_parted : Cond.selects mt_X9_parted.1.cls mt_X9_parted.1 mt_X9_parted.1 ∈ ds_T := ds_wb_T (p := 960) (by decide +kernel)
set_option maxRecDepth 100000 in
theorem zw_X9_who : Cond.code mt_X9_who.1 mt_X9_who.2.1 mt_X9_who.2.2.1 mt_X9_who.2.2.2.1 ∈ ds_T ∧ Cond.initialized mt_X9_who.1.cls ∈ ds_T ∧ (mt_X9_who.1.cls ≠ "java/lang/invoke/MethodHandle" ∧ mt_X9_who.1.cls ≠ "java/lang/invoke/VarHandle" ∧ (parseMethodDescriptor mt_X9_who.1.desc).map (fun d => d.parameters.length) = some 3) := ⟨ds_T_of (i := 965) rfl rfl, ds_wb_T (p := 51) (by decide +kernel), by decide +kernel⟩
theorem zi_X9_who : Cond.instanceMethod mt_X9_who.1 ∈ ds_T := ds_wb_T (p := 963) (by decide +kernel)
theorem zs_X9_who : Cond.selects mt_X9_who.1.cls mt_X9_who.1 mt_X9_who.1 ∈ ds_T := ds_wb_T (p := 964) (by decide +kernel)
set_option maxRecDepth 100000 in
theorem zw_X9_isLesserRow : Cond.code mt_X9_isLesserRow.1 mt_X9_isLesserRow.2.1 mt_X9_isLesserRow.2.2.1 mt_X9_isLesserRow.2.2.2.1 ∈ ds_T ∧ Cond.initialized mt_X9_isLesserRow.1.cls ∈ ds_T ∧ (mt_X9_isLesserRow.1.cls ≠ "java/lang/invoke/MethodHandle" ∧ mt_X9_isLesserRow.1.cls ≠ "java/lang/invoke/VarHandle" ∧ (parseMethodDescriptor mt_X9_isLesserRow.1.desc).map (fun d => d.parameters.length) = some 0) := ⟨ds_T_of (i := 979) rfl rfl, ds_wb_T (p := 51) (by decide +kernel), by decide +kernel⟩
theorem zi_X9_isLesserRow : Cond.instanceMethod mt_X9_isLesserRow.1 ∈ ds_T := ds_wb_T (p := 978) (by decide +kernel)
theorem zs_X9_isLesserRow : Cond.selects mt_X9_isLesserRow.1.cls mt_X9_isLesserRow.1 mt_X9_isLesserRow.1 ∈ ds_T := ds_wb_T (p := 35) (by decide +kernel)
set_option maxRecDepth 100000 in
theorem zw_X9_changes : Cond.code mt_X9_changes.1 mt_X9_changes.2.1 mt_X9_changes.2.2.1 mt_X9_changes.2.2.2.1 ∈ ds_T ∧ Cond.initialized mt_X9_changes.1.cls ∈ ds_T ∧ (mt_X9_changes.1.cls ≠ "java/lang/invoke/MethodHandle" ∧ mt_X9_changes.1.cls ≠ "java/lang/invoke/VarHandle" ∧ (parseMethodDescriptor mt_X9_changes.1.desc).map (fun d => d.parameters.length) = some 0) := ⟨ds_T_of (i := 975) rfl rfl, ds_wb_T (p := 51) (by decide +kernel), by decide +kernel⟩
theorem zi_X9_changes : Cond.instanceMethod mt_X9_changes.1 ∈ ds_T := ds_wb_T (p := 974) (by decide +kernel)
theorem zs_X9_changes : Cond.selects mt_X9_changes.1.cls mt_X9_changes.1 mt_X9_changes.1 ∈ ds_T := ds_wb_T (p := 34) (by decide +kernel)
set_option maxRecDepth 100000 in
theorem zw_X9_seek : Cond.code mt_X9_seek.1 mt_X9_seek.2.1 mt_X9_seek.2.2.1 mt_X9_seek.2.2.2.1 ∈ ds_T ∧ Cond.initialized mt_X9_seek.1.cls ∈ ds_T ∧ (mt_X9_seek.1.cls ≠ "java/lang/invoke/MethodHandle" ∧ mt_X9_seek.1.cls ≠ "java/lang/invoke/VarHandle" ∧ (parseMethodDescriptor mt_X9_seek.1.desc).map (fun d => d.parameters.length) = some 2) := ⟨ds_T_of (i := 970) rfl rfl, ds_wb_T (p := 51) (by decide +kernel), by decide +kernel⟩
theorem zi_X9_seek : Cond.instanceMethod mt_X9_seek.1 ∈ ds_T := ds_wb_T (p := 968) (by decide +kernel)
theorem zs_X9_seek : Cond.selects mt_X9_seek.1.cls mt_X9_seek.1 mt_X9_seek.1 ∈ ds_T := ds_wb_T (p := 969) (by decide +kernel)
set_option maxRecDepth 100000 in
theorem zw_X9_sought : Cond.code mt_X9_sought.1 mt_X9_sought.2.1 mt_X9_sought.2.2.1 mt_X9_sought.2.2.2.1 ∈ ds_T ∧ Cond.initialized mt_X9_sought.1.cls ∈ ds_T ∧ (mt_X9_sought.1.cls ≠ "java/lang/invoke/MethodHandle" ∧ mt_X9_sought.1.cls ≠ "java/lang/invoke/VarHandle" ∧ (parseMethodDescriptor mt_X9_sought.1.desc).map (fun d => d.parameters.length) = some 1) := ⟨ds_T_of (i := 983) rfl rfl, ds_wb_T (p := 51) (by decide +kernel), by decide +kernel⟩
theorem zi_X9_sought : Cond.instanceMethod mt_X9_sought.1 ∈ ds_T := ds_wb_T (p := 981) (by decide +kernel)
theorem zs_X9_sought : Cond.selects mt_X9_sought.1.cls mt_X9_sought.1 mt_X9_sought.1 ∈ ds_T := ds_wb_T (p := 982) (by decide +kernel)
set_option maxRecDepth 100000 in
theorem zw_X9_better : Cond.code mt_X9_better.1 mt_X9_better.2.1 mt_X9_better.2.2.1 mt_X9_better.2.2.2.1 ∈ ds_T ∧ Cond.initialized mt_X9_better.1.cls ∈ ds_T ∧ (mt_X9_better.1.cls ≠ "java/lang/invoke/MethodHandle" ∧ mt_X9_better.1.cls ≠ "java/lang/invoke/VarHandle" ∧ (parseMethodDescriptor mt_X9_better.1.desc).map (fun d => d.parameters.length) = some 1) := ⟨ds_T_of (i := 987) rfl rfl, ds_wb_T (p := 51) (by decide +kernel), by decide +kernel⟩
theorem zi_X9_better : Cond.instanceMethod mt_X9_better.1 ∈ ds_T := ds_wb_T (p := 985) (by decide +kernel)
theorem zs_X9_better : Cond.selects mt_X9_better.1.cls mt_X9_better.1 mt_X9_better.1 ∈ ds_T := ds_wb_T (p := 986) (by decide +kernel)
set_option maxRecDepth 100000 in
theorem zw_X9_take : Cond.code mt_X9_take.1 mt_X9_take.2.1 mt_X9_take.2.2.1 mt_X9_take.2.2.2.1 ∈ ds_T ∧ Cond.initialized mt_X9_take.1.cls ∈ ds_T ∧ (mt_X9_take.1.cls ≠ "java/lang/invoke/MethodHandle" ∧ mt_X9_take.1.cls ≠ "java/lang/invoke/VarHandle" ∧ (parseMethodDescriptor mt_X9_take.1.desc).map (fun d => d.parameters.length) = some 0) := ⟨ds_T_of (i := 992) rfl rfl, ds_wb_T (p := 51) (by decide +kernel), by decide +kernel⟩
theorem zi_X9_take : Cond.instanceMethod mt_X9_take.1 ∈ ds_T := ds_wb_T (p := 990) (by decide +kernel)
theorem zs_X9_take : Cond.selects mt_X9_take.1.cls mt_X9_take.1 mt_X9_take.1 ∈ ds_T := ds_wb_T (p := 991) (by decide +kernel)
set_option maxRecDepth 100000 in
theorem zw_X9_addGoes : Cond.code mt_X9_addGoes.1 mt_X9_addGoes.2.1 mt_X9_addGoes.2.2.1 mt_X9_addGoes.2.2.2.1 ∈ ds_T ∧ Cond.initialized mt_X9_addGoes.1.cls ∈ ds_T ∧ (mt_X9_addGoes.1.cls ≠ "java/lang/invoke/MethodHandle" ∧ mt_X9_addGoes.1.cls ≠ "java/lang/invoke/VarHandle" ∧ (parseMethodDescriptor mt_X9_addGoes.1.desc).map (fun d => d.parameters.length) = some 3) := ⟨ds_T_of (i := 1012) rfl rfl, ds_wb_T (p := 51) (by decide +kernel), by decide +kernel⟩
theorem zi_X9_addGoes : Cond.instanceMethod mt_X9_addGoes.1 ∈ ds_T := ds_wb_T (p := 1011) (by decide +kernel)
theorem zs_X9_addGoes : Cond.selects mt_X9_addGoes.1.cls mt_X9_addGoes.1 mt_X9_addGoes.1 ∈ ds_T := ds_wb_T (p := 39) (by decide +kernel)
set_option maxRecDepth 100000 in
theorem zw_X9_hasRing : Cond.code mt_X9_hasRing.1 mt_X9_hasRing.2.1 mt_X9_hasRing.2.2.1 mt_X9_hasRing.2.2.2.1 ∈ ds_T ∧ Cond.initialized mt_X9_hasRing.1.cls ∈ ds_T ∧ (mt_X9_hasRing.1.cls ≠ "java/lang/invoke/MethodHandle" ∧ mt_X9_hasRing.1.cls ≠ "java/lang/invoke/VarHandle" ∧ (parseMethodDescriptor mt_X9_hasRing.1.desc).map (fun d => d.parameters.length) = some 4) := ⟨ds_T_of (i := 1008) rfl rfl, ds_wb_T (p := 51) (by decide +kernel), by decide +kernel⟩
theorem zi_X9_hasRing : Cond.instanceMethod mt_X9_hasRing.1 ∈ ds_T := ds_wb_T (p := 1007) (by decide +kernel)
theorem zs_X9_hasRing : Cond.selects mt_X9_hasRing.1.cls mt_X9_hasRing.1 mt_X9_hasRing.1 ∈ ds_T := ds_wb_T (p := 38) (by decide +kernel)
set_option maxRecDepth 100000 in
theorem zw_X9_ringOf : Cond.code mt_X9_ringOf.1 mt_X9_ringOf.2.1 mt_X9_ringOf.2.2.1 mt_X9_ringOf.2.2.2.1 ∈ ds_T ∧ Cond.initialized mt_X9_ringOf.1.cls ∈ ds_T ∧ (mt_X9_ringOf.1.cls ≠ "java/lang/invoke/MethodHandle" ∧ mt_X9_ringOf.1.cls ≠ "java/lang/invoke/VarHandle" ∧ (parseMethodDescriptor mt_X9_ringOf.1.desc).map (fun d => d.parameters.length) = some 3) := ⟨ds_T_of (i := 1004) rfl rfl, ds_wb_T (p := 51) (by decide +kernel), by decide +kernel⟩
theorem zi_X9_ringOf : Cond.instanceMethod mt_X9_ringOf.1 ∈ ds_T := ds_wb_T (p := 1003) (by decide +kernel)
theorem zs_X9_ringOf : Cond.selects mt_X9_ringOf.1.cls mt_X9_ringOf.1 mt_X9_ringOf.1 ∈ ds_T := ds_wb_T (p := 37) (by decide +kernel)
set_option maxRecDepth 100000 in
theorem zw_X9_whyNot : Cond.code mt_X9_whyNot.1 mt_X9_whyNot.2.1 mt_X9_whyNot.2.2.1 mt_X9_whyNot.2.2.2.1 ∈ ds_T ∧ Cond.initialized mt_X9_whyNot.1.cls ∈ ds_T ∧ (mt_X9_whyNot.1.cls ≠ "java/lang/invoke/MethodHandle" ∧ mt_X9_whyNot.1.cls ≠ "java/lang/invoke/VarHandle" ∧ (parseMethodDescriptor mt_X9_whyNot.1.desc).map (fun d => d.parameters.length) = some 2) := ⟨ds_T_of (i := 1000) rfl rfl, ds_wb_T (p := 51) (by decide +kernel), by decide +kernel⟩
theorem zi_X9_whyNot : Cond.instanceMethod mt_X9_whyNot.1 ∈ ds_T := ds_wb_T (p := 999) (by decide +kernel)
theorem zs_X9_whyNot : Cond.selects mt_X9_whyNot.1.cls mt_X9_whyNot.1 mt_X9_whyNot.1 ∈ ds_T := ds_wb_T (p := 36) (by decide +kernel)
set_option maxRecDepth 100000 in
theorem zw_X9_ring : Cond.code mt_X9_ring.1 mt_X9_ring.2.1 mt_X9_ring.2.2.1 mt_X9_ring.2.2.2.1 ∈ ds_T ∧ Cond.initialized mt_X9_ring.1.cls ∈ ds_T ∧ (mt_X9_ring.1.cls ≠ "java/lang/invoke/MethodHandle" ∧ mt_X9_ring.1.cls ≠ "java/lang/invoke/VarHandle" ∧ (parseMethodDescriptor mt_X9_ring.1.desc).map (fun d => d.parameters.length) = some 2) := ⟨ds_T_of (i := 996) rfl rfl, ds_wb_T (p := 51) (by decide +kernel), by decide +kernel⟩
theorem zi_X9_ring : Cond.instanceMethod mt_X9_ring.1 ∈ ds_T := ds_wb_T (p := 994) (by decide +kernel)
theorem zs_X9_ring : Cond.selects mt_X9_ring.1.cls mt_X9_ring.1 mt_X9_ring.1 ∈ ds_T := ds_wb_T (p := 995) (by decide +kernel)
set_option maxRecDepth 100000 in
theorem zw_X9_findOff : Cond.code mt_X9_findOff.1 mt_X9_findOff.2.1 mt_X9_findOff.2.2.1 mt_X9_findOff.2.2.2.1 ∈ ds_T ∧ Cond.initialized mt_X9_findOff.1.cls ∈ ds_T ∧ (mt_X9_findOff.1.cls ≠ "java/lang/invoke/MethodHandle" ∧ mt_X9_findOff.1.cls ≠ "java/lang/invoke/VarHandle" ∧ (parseMethodDescriptor mt_X9_findOff.1.desc).map (fun d => d.parameters.length) = some 2) := ⟨ds_T_of (i := 1020) rfl rfl, ds_wb_T (p := 51) (by decide +kernel), by decide +kernel⟩
theorem zi_X9_findOff : Cond.instanceMethod mt_X9_findOff.1 ∈ ds_T := ds_wb_T (p := 1019) (by decide +kernel)
theorem zs_X9_findOff : Cond.selects mt_X9_findOff.1.cls mt_X9_findOff.1 mt_X9_findOff.1 ∈ ds_T := ds_wb_T (p := 40) (by decide +kernel)
set_option maxRecDepth 100000 in
theorem zw_X9_between : Cond.code mt_X9_between.1 mt_X9_between.2.1 mt_X9_between.2.2.1 mt_X9_between.2.2.2.1 ∈ ds_T ∧ Cond.initialized mt_X9_between.1.cls ∈ ds_T ∧ (mt_X9_between.1.cls ≠ "java/lang/invoke/MethodHandle" ∧ mt_X9_between.1.cls ≠ "java/lang/invoke/VarHandle" ∧ (parseMethodDescriptor mt_X9_between.1.desc).map (fun d => d.parameters.length) = some 2) := ⟨ds_T_of (i := 1016) rfl rfl, ds_wb_T (p := 51) (by decide +kernel), by decide +kernel⟩
theorem zi_X9_between : Cond.instanceMethod mt_X9_between.1 ∈ ds_T := ds_wb_T (p := 1014) (by decide +kernel)
theorem zs_X9_between : Cond.selects mt_X9_between.1.cls mt_X9_between.1 mt_X9_between.1 ∈ ds_T := ds_wb_T (p := 1015) (by decide +kernel)
set_option maxRecDepth 100000 in
theorem zw_X9_value : Cond.code mt_X9_value.1 mt_X9_value.2.1 mt_X9_value.2.2.1 mt_X9_value.2.2.2.1 ∈ ds_T ∧ Cond.initialized mt_X9_value.1.cls ∈ ds_T ∧ (mt_X9_value.1.cls ≠ "java/lang/invoke/MethodHandle" ∧ mt_X9_value.1.cls ≠ "java/lang/invoke/VarHandle" ∧ (parseMethodDescriptor mt_X9_value.1.desc).map (fun d => d.parameters.length) = some 3) := ⟨ds_T_of (i := 1024) rfl rfl, ds_wb_T (p := 51) (by decide +kernel), by decide +kernel⟩
theorem zi_X9_value : Cond.instanceMethod mt_X9_value.1 ∈ ds_T := ds_wb_T (p := 1022) (by decide +kernel)
theorem zs_X9_value : Cond.selects mt_X9_value.1.cls mt_X9_value.1 mt_X9_value.1 ∈ ds_T := ds_wb_T (p := 1023) (by decide +kernel)
set_option maxRecDepth 100000 in
theorem zw_X9_grow : Cond.code mt_X9_grow.1 mt_X9_grow.2.1 mt_X9_grow.2.2.1 mt_X9_grow.2.2.2.1 ∈ ds_T ∧ Cond.initialized mt_X9_grow.1.cls ∈ ds_T ∧ (mt_X9_grow.1.cls ≠ "java/lang/invoke/MethodHandle" ∧ mt_X9_grow.1.cls ≠ "java/lang/invoke/VarHandle" ∧ (parseMethodDescriptor mt_X9_grow.1.desc).map (fun d => d.parameters.length) = some 2) := ⟨ds_T_of (i := 1028) rfl rfl, ds_wb_T (p := 51) (by decide +kernel), by decide +kernel⟩
theorem zi_X9_grow : Cond.instanceMethod mt_X9_grow.1 ∈ ds_T := ds_wb_T (p := 1026) (by decide +kernel)
theorem zs_X9_grow : Cond.selects mt_X9_grow.1.cls mt_X9_grow.1 mt_X9_grow.1 ∈ ds_T := ds_wb_T (p := 1027) (by decide +kernel)
set_option maxRecDepth 100000 in
theorem zw_X9_year : Cond.code mt_X9_year.1 mt_X9_year.2.1 mt_X9_year.2.2.1 mt_X9_year.2.2.2.1 ∈ ds_T ∧ Cond.initialized mt_X9_year.1.cls ∈ ds_T ∧ (mt_X9_year.1.cls ≠ "java/lang/invoke/MethodHandle" ∧ mt_X9_year.1.cls ≠ "java/lang/invoke/VarHandle" ∧ (parseMethodDescriptor mt_X9_year.1.desc).map (fun d => d.parameters.length) = some 2) := ⟨ds_T_of (i := 1033) rfl rfl, ds_wb_T (p := 51) (by decide +kernel), by decide +kernel⟩
theorem zi_X9_year : Cond.instanceMethod mt_X9_year.1 ∈ ds_T := ds_wb_T (p := 1031) (by decide +kernel)
theorem zs_X9_year : Cond.selects mt_X9_year.1.cls mt_X9_year.1 mt_X9_year.1 ∈ ds_T := ds_wb_T (p := 1032) (by decide +kernel)
set_option maxRecDepth 100000 in
theorem zw_X9_told : Cond.code mt_X9_told.1 mt_X9_told.2.1 mt_X9_told.2.2.1 mt_X9_told.2.2.2.1 ∈ ds_T ∧ Cond.initialized mt_X9_told.1.cls ∈ ds_T ∧ (mt_X9_told.1.cls ≠ "java/lang/invoke/MethodHandle" ∧ mt_X9_told.1.cls ≠ "java/lang/invoke/VarHandle" ∧ (parseMethodDescriptor mt_X9_told.1.desc).map (fun d => d.parameters.length) = some 1) := ⟨ds_T_of (i := 1039) rfl rfl, ds_wb_T (p := 51) (by decide +kernel), by decide +kernel⟩
theorem zi_X9_told : Cond.instanceMethod mt_X9_told.1 ∈ ds_T := ds_wb_T (p := 1037) (by decide +kernel)
theorem zs_X9_told : Cond.selects mt_X9_told.1.cls mt_X9_told.1 mt_X9_told.1 ∈ ds_T := ds_wb_T (p := 1038) (by decide +kernel)
set_option maxRecDepth 100000 in
theorem zw_J13_compare_74951 : Cond.code mt_J13_compare_74951.1 mt_J13_compare_74951.2.1 mt_J13_compare_74951.2.2.1 mt_J13_compare_74951.2.2.2.1 ∈ ds_T ∧ Cond.initialized mt_J13_compare_74951.1.cls ∈ ds_T ∧ (mt_J13_compare_74951.1.cls ≠ "java/lang/invoke/MethodHandle" ∧ mt_J13_compare_74951.1.cls ≠ "java/lang/invoke/VarHandle" ∧ (parseMethodDescriptor mt_J13_compare_74951.1.desc).map (fun d => d.parameters.length) = some 2) := ⟨ds_T_of (i := 562) rfl rfl, ds_wb_T (p := 53) (by decide +kernel), by decide +kernel⟩
theorem zt_J13_compare_74951 : Cond.static mt_J13_compare_74951.1 ∈ ds_T := ds_wb_T (p := 561) (by decide +kernel)
set_option maxRecDepth 100000 in
theorem zw_J9_min_f86c9 : Cond.code mt_J9_min_f86c9.1 mt_J9_min_f86c9.2.1 mt_J9_min_f86c9.2.2.1 mt_J9_min_f86c9.2.2.2.1 ∈ ds_T ∧ Cond.initialized mt_J9_min_f86c9.1.cls ∈ ds_T ∧ (mt_J9_min_f86c9.1.cls ≠ "java/lang/invoke/MethodHandle" ∧ mt_J9_min_f86c9.1.cls ≠ "java/lang/invoke/VarHandle" ∧ (parseMethodDescriptor mt_J9_min_f86c9.1.desc).map (fun d => d.parameters.length) = some 2) := ⟨ds_T_of (i := 714) rfl rfl, ds_wb_T (p := 55) (by decide +kernel), by decide +kernel⟩
theorem zt_J9_min_f86c9 : Cond.static mt_J9_min_f86c9.1 ∈ ds_T := ds_wb_T (p := 713) (by decide +kernel)
set_option maxRecDepth 100000 in
theorem zw_J7_fill_d0a16 : Cond.code mt_J7_fill_d0a16.1 mt_J7_fill_d0a16.2.1 mt_J7_fill_d0a16.2.2.1 mt_J7_fill_d0a16.2.2.2.1 ∈ ds_T ∧ Cond.initialized mt_J7_fill_d0a16.1.cls ∈ ds_T ∧ (mt_J7_fill_d0a16.1.cls ≠ "java/lang/invoke/MethodHandle" ∧ mt_J7_fill_d0a16.1.cls ≠ "java/lang/invoke/VarHandle" ∧ (parseMethodDescriptor mt_J7_fill_d0a16.1.desc).map (fun d => d.parameters.length) = some 2) := ⟨ds_T_of (i := 468) rfl rfl, ds_wb_T (p := 52) (by decide +kernel), by decide +kernel⟩
theorem zt_J7_fill_d0a16 : Cond.static mt_J7_fill_d0a16.1 ∈ ds_T := ds_wb_T (p := 467) (by decide +kernel)
set_option maxRecDepth 100000 in
theorem zw_J7_fill_53178 : Cond.code mt_J7_fill_53178.1 mt_J7_fill_53178.2.1 mt_J7_fill_53178.2.2.1 mt_J7_fill_53178.2.2.2.1 ∈ ds_T ∧ Cond.initialized mt_J7_fill_53178.1.cls ∈ ds_T ∧ (mt_J7_fill_53178.1.cls ≠ "java/lang/invoke/MethodHandle" ∧ mt_J7_fill_53178.1.cls ≠ "java/lang/invoke/VarHandle" ∧ (parseMethodDescriptor mt_J7_fill_53178.1.desc).map (fun d => d.parameters.length) = some 2) := ⟨ds_T_of (i := 363) rfl rfl, ds_wb_T (p := 52) (by decide +kernel), by decide +kernel⟩
theorem zt_J7_fill_53178 : Cond.static mt_J7_fill_53178.1 ∈ ds_T := ds_wb_T (p := 362) (by decide +kernel)
