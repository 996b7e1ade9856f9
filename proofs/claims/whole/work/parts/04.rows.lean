section DSX
variable {y : ds_M} {Y : ds_Y} {pc : Nat} {ls : ds_L} {st : List Value} {σ : ds_S} {Q : Option Value → ds_S → Prop}
/-- an instruction that leaves heap and locals -/
theorem ds_x1 {pc' : Nat} {st' : List Value} (hk : ds_X y Y pc' ls st' σ Q)
    (h : ∀ (p : Program) (l : Launch) (e : Env) (s : State) (m : MethodId) (args : Array Value) (below : List Frame) (meth : Method) (c : Code) (ad : Nat → Nat) (H : Heap) (locs : List Loc) (lc : Array Slot) (R : State → Prop), p.tables.exec = Jvm.exec → c.code = y.2.1 → ds_loc ad lc y.2.2.1 ls → s.vm.findClass y.1.cls = some m.cls → (∀ w ∈ ds_T, w.before args s = true) → W p l e (ds_rm y) s m args below meth c H locs 0 0 R (F0 m pc' lc (st'.map (ds_v ad))) → W p l e (ds_rm y) s m args below meth c H locs 0 0 R (F0 m pc lc (st.map (ds_v ad)))) : ds_X y Y pc ls st σ Q := by
  intro p l e s m args below meth c cy dC dI ad A C H locs hP hD hS lc hl
  exact h p l e s m args below meth c ad H locs lc _ C.1 C.2.1 hl C.2.2.2.2.2.2.1 C.2.2.2.2.2.1 (hk p l e s m args below meth c cy dC dI ad A C H locs hP hD hS lc hl)
theorem ds_iconst {n : Int} {v : Int32} (hd : decode y.2.1 pc = .ok (.iconst n, 1)) (hv : Int32.ofInt n = v) (k : ds_X y Y (pc + 1) ls (.int v :: st) σ Q) : ds_X y Y pc ls st σ Q :=
  ds_x1 k fun _ _ _ _ _ _ _ _ _ _ _ _ _ _ hx hb _ _ _ kk => lv_iconst hx hb hd hv kk
theorem ds_bipush {n : Int} {v : Int32} (hd : decode y.2.1 pc = .ok (.bipush n, 2)) (hv : (Int8.ofInt n).toInt32 = v) (k : ds_X y Y (pc + 2) ls (.int v :: st) σ Q) : ds_X y Y pc ls st σ Q :=
  ds_x1 k fun _ _ _ _ _ _ _ _ _ _ _ _ _ _ hx hb _ _ _ kk => lv_bipush hx hb hd hv kk
theorem ds_sipush {n : Int} {v : Int32} (hd : decode y.2.1 pc = .ok (.sipush n, 3)) (hv : (Int16.ofInt n).toInt32 = v) (k : ds_X y Y (pc + 3) ls (.int v :: st) σ Q) : ds_X y Y pc ls st σ Q :=
  ds_x1 k fun _ _ _ _ _ _ _ _ _ _ _ _ _ _ hx hb _ _ _ kk => lv_sipush hx hb hd hv kk
theorem ds_lconst {n : Fin 2} {v : Int64} (hd : decode y.2.1 pc = .ok (.lconst n, 1)) (hv : Int64.ofNat (n : Nat) = v) (k : ds_X y Y (pc + 1) ls (.long v :: st) σ Q) : ds_X y Y pc ls st σ Q :=
  ds_x1 k fun _ _ _ _ _ _ _ _ _ _ _ _ _ _ hx hb _ _ _ kk => lv_lconst hx hb hd hv kk
theorem ds_ldc {n : Nat} {v : Int32} (hd : decode y.2.1 pc = .ok (.ldc n, 2)) (hv : Cond.constant y.1.cls n v ∈ ds_T) (k : ds_X y Y (pc + 2) ls (.int v :: st) σ Q) : ds_X y Y pc ls st σ Q :=
  ds_x1 k fun _ _ _ _ _ _ _ _ _ _ _ _ _ _ hx hb _ ho ht kk => lv_ldc hx hb ho (ht _ hv) hd kk
theorem ds_ldc2 {n : Nat} {v : Int64} (hd : decode y.2.1 pc = .ok (.ldc2_w n, 3)) (hv : Cond.constantLong y.1.cls n v ∈ ds_T) (k : ds_X y Y (pc + 3) ls (.long v :: st) σ Q) : ds_X y Y pc ls st σ Q :=
  ds_x1 k fun _ _ _ _ _ _ _ _ _ _ _ _ _ _ hx hb _ ho ht kk => lv_ldc2 hx hb ho (ht _ hv) hd kk
theorem ds_iload {n : Nat} {x : Int32} (hd : decode y.2.1 pc = .ok (.iload n, 2)) (hv : ds_at ls n = some (.int x)) (k : ds_X y Y (pc + 2) ls (.int x :: st) σ Q) : ds_X y Y pc ls st σ Q :=
  ds_x1 k fun _ _ _ _ _ _ _ _ _ _ _ _ _ _ hx hb hl _ _ kk => lv_iload hx hb hd (hl.2.2.2 _ _ hv) kk
theorem ds_iload_n {n : Fin 4} {x : Int32} (hd : decode y.2.1 pc = .ok (.iload_n n, 1)) (hv : ds_at ls n = some (.int x)) (k : ds_X y Y (pc + 1) ls (.int x :: st) σ Q) : ds_X y Y pc ls st σ Q :=
  ds_x1 k fun _ _ _ _ _ _ _ _ _ _ _ _ _ _ hx hb hl _ _ kk => lv_iload_n hx hb hd rfl (hl.2.2.2 _ _ hv) kk
theorem ds_lload {n : Nat} {x : Int64} (hd : decode y.2.1 pc = .ok (.lload n, 2)) (hv : ds_at ls n = some (.long x)) (k : ds_X y Y (pc + 2) ls (.long x :: st) σ Q) : ds_X y Y pc ls st σ Q :=
  ds_x1 k fun _ _ _ _ _ _ _ _ _ _ _ _ _ _ hx hb hl _ _ kk => lv_lload hx hb hd (hl.2.2.2 _ _ hv) kk
theorem ds_lload_n {n : Fin 4} {x : Int64} (hd : decode y.2.1 pc = .ok (.lload_n n, 1)) (hv : ds_at ls n = some (.long x)) (k : ds_X y Y (pc + 1) ls (.long x :: st) σ Q) : ds_X y Y pc ls st σ Q :=
  ds_x1 k fun _ _ _ _ _ _ _ _ _ _ _ _ _ _ hx hb hl _ _ kk => lv_lload_n hx hb hd rfl (hl.2.2.2 _ _ hv) kk
theorem ds_aload {n : Nat} {x : Nat} (hd : decode y.2.1 pc = .ok (.aload n, 2)) (hv : ds_at ls n = some (.ref x)) (k : ds_X y Y (pc + 2) ls (.ref x :: st) σ Q) : ds_X y Y pc ls st σ Q :=
  ds_x1 k fun _ _ _ _ _ _ _ _ _ _ _ _ _ _ hx hb hl _ _ kk => lv_aload hx hb hd (hl.2.2.2 _ _ hv) kk
theorem ds_aload_n {n : Fin 4} {x : Nat} (hd : decode y.2.1 pc = .ok (.aload_n n, 1)) (hv : ds_at ls n = some (.ref x)) (k : ds_X y Y (pc + 1) ls (.ref x :: st) σ Q) : ds_X y Y pc ls st σ Q :=
  ds_x1 k fun _ _ _ _ _ _ _ _ _ _ _ _ _ _ hx hb hl _ _ kk => lv_aload_n hx hb hd rfl (hl.2.2.2 _ _ hv) kk
theorem ds_iadd {x z : Int32} (hd : decode y.2.1 pc = .ok (.iadd, 1)) (k : ds_X y Y (pc + 1) ls (.int (x + z) :: st) σ Q) : ds_X y Y pc ls (.int z :: .int x :: st) σ Q :=
  ds_x1 k fun _ _ _ _ _ _ _ _ _ _ _ _ _ _ hx hb _ _ _ kk => lv_iadd hx hb hd kk
theorem ds_isub {x z : Int32} (hd : decode y.2.1 pc = .ok (.isub, 1)) (k : ds_X y Y (pc + 1) ls (.int (x - z) :: st) σ Q) : ds_X y Y pc ls (.int z :: .int x :: st) σ Q :=
  ds_x1 k fun _ _ _ _ _ _ _ _ _ _ _ _ _ _ hx hb _ _ _ kk => lv_isub hx hb hd kk
theorem ds_imul {x z : Int32} (hd : decode y.2.1 pc = .ok (.imul, 1)) (k : ds_X y Y (pc + 1) ls (.int (x * z) :: st) σ Q) : ds_X y Y pc ls (.int z :: .int x :: st) σ Q :=
  ds_x1 k fun _ _ _ _ _ _ _ _ _ _ _ _ _ _ hx hb _ _ _ kk => lv_imul hx hb hd kk
theorem ds_iand {x z : Int32} (hd : decode y.2.1 pc = .ok (.iand, 1)) (k : ds_X y Y (pc + 1) ls (.int (x &&& z) :: st) σ Q) : ds_X y Y pc ls (.int z :: .int x :: st) σ Q :=
  ds_x1 k fun _ _ _ _ _ _ _ _ _ _ _ _ _ _ hx hb _ _ _ kk => lv_iand hx hb hd kk
theorem ds_ior {x z : Int32} (hd : decode y.2.1 pc = .ok (.ior, 1)) (k : ds_X y Y (pc + 1) ls (.int (x ||| z) :: st) σ Q) : ds_X y Y pc ls (.int z :: .int x :: st) σ Q :=
  ds_x1 k fun _ _ _ _ _ _ _ _ _ _ _ _ _ _ hx hb _ _ _ kk => lv_ior hx hb hd kk
theorem ds_ixor {x z : Int32} (hd : decode y.2.1 pc = .ok (.ixor, 1)) (k : ds_X y Y (pc + 1) ls (.int (x ^^^ z) :: st) σ Q) : ds_X y Y pc ls (.int z :: .int x :: st) σ Q :=
  ds_x1 k fun _ _ _ _ _ _ _ _ _ _ _ _ _ _ hx hb _ _ _ kk => lv_ixor hx hb hd kk
theorem ds_ishl {x z : Int32} (hd : decode y.2.1 pc = .ok (.ishl, 1)) (k : ds_X y Y (pc + 1) ls (.int (x <<< (z &&& 31)) :: st) σ Q) : ds_X y Y pc ls (.int z :: .int x :: st) σ Q :=
  ds_x1 k fun _ _ _ _ _ _ _ _ _ _ _ _ _ _ hx hb _ _ _ kk => lv_ishl hx hb hd kk
theorem ds_ishr {x z : Int32} (hd : decode y.2.1 pc = .ok (.ishr, 1)) (k : ds_X y Y (pc + 1) ls (.int (x >>> (z &&& 31)) :: st) σ Q) : ds_X y Y pc ls (.int z :: .int x :: st) σ Q :=
  ds_x1 k fun _ _ _ _ _ _ _ _ _ _ _ _ _ _ hx hb _ _ _ kk => lv_ishr hx hb hd kk
theorem ds_ladd {x z : Int64} (hd : decode y.2.1 pc = .ok (.ladd, 1)) (k : ds_X y Y (pc + 1) ls (.long (x + z) :: st) σ Q) : ds_X y Y pc ls (.long z :: .long x :: st) σ Q :=
  ds_x1 k fun _ _ _ _ _ _ _ _ _ _ _ _ _ _ hx hb _ _ _ kk => lv_ladd hx hb hd kk
theorem ds_lsub {x z : Int64} (hd : decode y.2.1 pc = .ok (.lsub, 1)) (k : ds_X y Y (pc + 1) ls (.long (x - z) :: st) σ Q) : ds_X y Y pc ls (.long z :: .long x :: st) σ Q :=
  ds_x1 k fun _ _ _ _ _ _ _ _ _ _ _ _ _ _ hx hb _ _ _ kk => lv_lsub hx hb hd kk
theorem ds_lmul {x z : Int64} (hd : decode y.2.1 pc = .ok (.lmul, 1)) (k : ds_X y Y (pc + 1) ls (.long (x * z) :: st) σ Q) : ds_X y Y pc ls (.long z :: .long x :: st) σ Q :=
  ds_x1 k fun _ _ _ _ _ _ _ _ _ _ _ _ _ _ hx hb _ _ _ kk => lv_lmul hx hb hd kk
theorem ds_idiv {x z : Int32} (hd : decode y.2.1 pc = .ok (.idiv, 1)) (hz : ¬ z = 0) (k : ds_X y Y (pc + 1) ls (.int (x / z) :: st) σ Q) : ds_X y Y pc ls (.int z :: .int x :: st) σ Q :=
  ds_x1 k fun _ _ _ _ _ _ _ _ _ _ _ _ _ _ hx hb _ _ _ kk => lv_idiv hx hb hd hz kk
theorem ds_irem {x z : Int32} (hd : decode y.2.1 pc = .ok (.irem, 1)) (hz : ¬ z = 0) (k : ds_X y Y (pc + 1) ls (.int (x - x / z * z) :: st) σ Q) : ds_X y Y pc ls (.int z :: .int x :: st) σ Q :=
  ds_x1 k fun _ _ _ _ _ _ _ _ _ _ _ _ _ _ hx hb _ _ _ kk => lv_irem hx hb hd hz kk
theorem ds_ldiv {x z : Int64} (hd : decode y.2.1 pc = .ok (.ldiv, 1)) (hz : ¬ z = 0) (k : ds_X y Y (pc + 1) ls (.long (x / z) :: st) σ Q) : ds_X y Y pc ls (.long z :: .long x :: st) σ Q :=
  ds_x1 k fun _ _ _ _ _ _ _ _ _ _ _ _ _ _ hx hb _ _ _ kk => lv_ldiv hx hb hd hz kk
theorem ds_lrem {x z : Int64} (hd : decode y.2.1 pc = .ok (.lrem, 1)) (hz : ¬ z = 0) (k : ds_X y Y (pc + 1) ls (.long (x - x / z * z) :: st) σ Q) : ds_X y Y pc ls (.long z :: .long x :: st) σ Q :=
  ds_x1 k fun _ _ _ _ _ _ _ _ _ _ _ _ _ _ hx hb _ _ _ kk => lv_lrem hx hb hd hz kk
theorem ds_lcmp {x z : Int64} (hd : decode y.2.1 pc = .ok (.lcmp, 1)) (k : ds_X y Y (pc + 1) ls (.int (lg_cmp x z) :: st) σ Q) : ds_X y Y pc ls (.long z :: .long x :: st) σ Q :=
  ds_x1 k fun _ _ _ _ _ _ _ _ _ _ _ _ _ _ hx hb _ _ _ kk => W.lcmp hx hb hd kk
theorem ds_ineg {x : Int32} (hd : decode y.2.1 pc = .ok (.ineg, 1)) (k : ds_X y Y (pc + 1) ls (.int (-x) :: st) σ Q) : ds_X y Y pc ls (.int x :: st) σ Q :=
  ds_x1 k fun _ _ _ _ _ _ _ _ _ _ _ _ _ _ hx hb _ _ _ kk => lv_ineg hx hb hd kk
theorem ds_lneg {x : Int64} (hd : decode y.2.1 pc = .ok (.lneg, 1)) (k : ds_X y Y (pc + 1) ls (.long (-x) :: st) σ Q) : ds_X y Y pc ls (.long x :: st) σ Q :=
  ds_x1 k fun _ _ _ _ _ _ _ _ _ _ _ _ _ _ hx hb _ _ _ kk => lv_lneg hx hb hd kk
theorem ds_i2l {x : Int32} (hd : decode y.2.1 pc = .ok (.i2l, 1)) (k : ds_X y Y (pc + 1) ls (.long x.toInt64 :: st) σ Q) : ds_X y Y pc ls (.int x :: st) σ Q :=
  ds_x1 k fun _ _ _ _ _ _ _ _ _ _ _ _ _ _ hx hb _ _ _ kk => lv_i2l hx hb hd rfl kk
theorem ds_l2i {x : Int64} (hd : decode y.2.1 pc = .ok (.l2i, 1)) (k : ds_X y Y (pc + 1) ls (.int x.toInt32 :: st) σ Q) : ds_X y Y pc ls (.long x :: st) σ Q :=
  ds_x1 k fun _ _ _ _ _ _ _ _ _ _ _ _ _ _ hx hb _ _ _ kk => lv_l2i hx hb hd rfl kk
theorem ds_dup {v : Value} (hd : decode y.2.1 pc = .ok (.dup, 1)) (hv : v.category = 1) (k : ds_X y Y (pc + 1) ls (v :: v :: st) σ Q) : ds_X y Y pc ls (v :: st) σ Q :=
  ds_x1 k fun _ _ _ _ _ _ _ _ _ ad _ _ _ _ hx hb _ _ _ kk => lv_dup hx hb hd ((ds_v_cat ad v).trans hv) kk
theorem ds_dup2 {v w : Value} (hd : decode y.2.1 pc = .ok (.dup2, 1)) (hv : v.category = 1) (hw : w.category = 1) (k : ds_X y Y (pc + 1) ls (v :: w :: v :: w :: st) σ Q) : ds_X y Y pc ls (v :: w :: st) σ Q :=
  ds_x1 k fun _ _ _ _ _ _ _ _ _ ad _ _ _ _ hx hb _ _ _ kk => lv_dup2_11 hx hb hd ((ds_v_cat ad v).trans hv) ((ds_v_cat ad w).trans hw) kk
theorem ds_goto {off : Int} {t : Nat} (hd : decode y.2.1 pc = .ok (.goto off, 3)) (ht : (pc : Int) + off = (t : Int)) (k : ds_X y Y t ls st σ Q) : ds_X y Y pc ls st σ Q :=
  ds_x1 k fun _ _ _ _ _ _ _ _ _ _ _ _ _ _ hx hb _ _ _ kk => lv_goto hx hb hd ht kk
/-! branches -/
theorem ds_if_eq {x : Int32} {off : Int} {t : Nat} (hd : decode y.2.1 pc = .ok (.ifCond .eq off, 3)) (ht : (pc : Int) + off = (t : Int)) (kt : x = 0 → ds_X y Y t ls st σ Q) (kf : ¬ x = 0 → ds_X y Y (pc + 3) ls st σ Q) : ds_X y Y pc ls (.int x :: st) σ Q := by
  intro p l e s m args below meth c cy dC dI ad A C H locs hP hD hS lc hl
  exact lv_if_eq C.1 C.2.1 hd ht (fun h => kt h p l e s m args below meth c cy dC dI ad A C H locs hP hD hS lc hl) (fun h => kf h p l e s m args below meth c cy dC dI ad A C H locs hP hD hS lc hl)
theorem ds_ic_eq {x z : Int32} {off : Int} {t : Nat} (hd : decode y.2.1 pc = .ok (.if_icmp .eq off, 3)) (ht : (pc : Int) + off = (t : Int)) (kt : x = z → ds_X y Y t ls st σ Q) (kf : ¬ x = z → ds_X y Y (pc + 3) ls st σ Q) : ds_X y Y pc ls (.int z :: .int x :: st) σ Q := by
  intro p l e s m args below meth c cy dC dI ad A C H locs hP hD hS lc hl
  exact lv_icmp_eq C.1 C.2.1 hd ht (fun h => kt h p l e s m args below meth c cy dC dI ad A C H locs hP hD hS lc hl) (fun h => kf h p l e s m args below meth c cy dC dI ad A C H locs hP hD hS lc hl)
theorem ds_if_ne {x : Int32} {off : Int} {t : Nat} (hd : decode y.2.1 pc = .ok (.ifCond .ne off, 3)) (ht : (pc : Int) + off = (t : Int)) (kt : ¬ x = 0 → ds_X y Y t ls st σ Q) (kf : x = 0 → ds_X y Y (pc + 3) ls st σ Q) : ds_X y Y pc ls (.int x :: st) σ Q := by
  intro p l e s m args below meth c cy dC dI ad A C H locs hP hD hS lc hl
  exact lv_if_ne C.1 C.2.1 hd ht (fun h => kt h p l e s m args below meth c cy dC dI ad A C H locs hP hD hS lc hl) (fun h => kf h p l e s m args below meth c cy dC dI ad A C H locs hP hD hS lc hl)
theorem ds_ic_ne {x z : Int32} {off : Int} {t : Nat} (hd : decode y.2.1 pc = .ok (.if_icmp .ne off, 3)) (ht : (pc : Int) + off = (t : Int)) (kt : ¬ x = z → ds_X y Y t ls st σ Q) (kf : x = z → ds_X y Y (pc + 3) ls st σ Q) : ds_X y Y pc ls (.int z :: .int x :: st) σ Q := by
  intro p l e s m args below meth c cy dC dI ad A C H locs hP hD hS lc hl
  exact lv_icmp_ne C.1 C.2.1 hd ht (fun h => kt h p l e s m args below meth c cy dC dI ad A C H locs hP hD hS lc hl) (fun h => kf h p l e s m args below meth c cy dC dI ad A C H locs hP hD hS lc hl)
theorem ds_if_lt {x : Int32} {off : Int} {t : Nat} (hd : decode y.2.1 pc = .ok (.ifCond .lt off, 3)) (ht : (pc : Int) + off = (t : Int)) (kt : x < 0 → ds_X y Y t ls st σ Q) (kf : ¬ x < 0 → ds_X y Y (pc + 3) ls st σ Q) : ds_X y Y pc ls (.int x :: st) σ Q := by
  intro p l e s m args below meth c cy dC dI ad A C H locs hP hD hS lc hl
  exact lv_if_lt C.1 C.2.1 hd ht (fun h => kt h p l e s m args below meth c cy dC dI ad A C H locs hP hD hS lc hl) (fun h => kf h p l e s m args below meth c cy dC dI ad A C H locs hP hD hS lc hl)
theorem ds_ic_lt {x z : Int32} {off : Int} {t : Nat} (hd : decode y.2.1 pc = .ok (.if_icmp .lt off, 3)) (ht : (pc : Int) + off = (t : Int)) (kt : x < z → ds_X y Y t ls st σ Q) (kf : ¬ x < z → ds_X y Y (pc + 3) ls st σ Q) : ds_X y Y pc ls (.int z :: .int x :: st) σ Q := by
  intro p l e s m args below meth c cy dC dI ad A C H locs hP hD hS lc hl
  exact lv_icmp_lt C.1 C.2.1 hd ht (fun h => kt h p l e s m args below meth c cy dC dI ad A C H locs hP hD hS lc hl) (fun h => kf h p l e s m args below meth c cy dC dI ad A C H locs hP hD hS lc hl)
theorem ds_if_ge {x : Int32} {off : Int} {t : Nat} (hd : decode y.2.1 pc = .ok (.ifCond .ge off, 3)) (ht : (pc : Int) + off = (t : Int)) (kt : 0 ≤ x → ds_X y Y t ls st σ Q) (kf : ¬ 0 ≤ x → ds_X y Y (pc + 3) ls st σ Q) : ds_X y Y pc ls (.int x :: st) σ Q := by
  intro p l e s m args below meth c cy dC dI ad A C H locs hP hD hS lc hl
  exact lv_if_ge C.1 C.2.1 hd ht (fun h => kt h p l e s m args below meth c cy dC dI ad A C H locs hP hD hS lc hl) (fun h => kf h p l e s m args below meth c cy dC dI ad A C H locs hP hD hS lc hl)
theorem ds_ic_ge {x z : Int32} {off : Int} {t : Nat} (hd : decode y.2.1 pc = .ok (.if_icmp .ge off, 3)) (ht : (pc : Int) + off = (t : Int)) (kt : z ≤ x → ds_X y Y t ls st σ Q) (kf : ¬ z ≤ x → ds_X y Y (pc + 3) ls st σ Q) : ds_X y Y pc ls (.int z :: .int x :: st) σ Q := by
  intro p l e s m args below meth c cy dC dI ad A C H locs hP hD hS lc hl
  exact lv_icmp_ge C.1 C.2.1 hd ht (fun h => kt h p l e s m args below meth c cy dC dI ad A C H locs hP hD hS lc hl) (fun h => kf h p l e s m args below meth c cy dC dI ad A C H locs hP hD hS lc hl)
theorem ds_if_gt {x : Int32} {off : Int} {t : Nat} (hd : decode y.2.1 pc = .ok (.ifCond .gt off, 3)) (ht : (pc : Int) + off = (t : Int)) (kt : 0 < x → ds_X y Y t ls st σ Q) (kf : ¬ 0 < x → ds_X y Y (pc + 3) ls st σ Q) : ds_X y Y pc ls (.int x :: st) σ Q := by
  intro p l e s m args below meth c cy dC dI ad A C H locs hP hD hS lc hl
  exact lv_if_gt C.1 C.2.1 hd ht (fun h => kt h p l e s m args below meth c cy dC dI ad A C H locs hP hD hS lc hl) (fun h => kf h p l e s m args below meth c cy dC dI ad A C H locs hP hD hS lc hl)
theorem ds_ic_gt {x z : Int32} {off : Int} {t : Nat} (hd : decode y.2.1 pc = .ok (.if_icmp .gt off, 3)) (ht : (pc : Int) + off = (t : Int)) (kt : z < x → ds_X y Y t ls st σ Q) (kf : ¬ z < x → ds_X y Y (pc + 3) ls st σ Q) : ds_X y Y pc ls (.int z :: .int x :: st) σ Q := by
  intro p l e s m args below meth c cy dC dI ad A C H locs hP hD hS lc hl
  exact lv_icmp_gt C.1 C.2.1 hd ht (fun h => kt h p l e s m args below meth c cy dC dI ad A C H locs hP hD hS lc hl) (fun h => kf h p l e s m args below meth c cy dC dI ad A C H locs hP hD hS lc hl)
theorem ds_if_le {x : Int32} {off : Int} {t : Nat} (hd : decode y.2.1 pc = .ok (.ifCond .le off, 3)) (ht : (pc : Int) + off = (t : Int)) (kt : x ≤ 0 → ds_X y Y t ls st σ Q) (kf : ¬ x ≤ 0 → ds_X y Y (pc + 3) ls st σ Q) : ds_X y Y pc ls (.int x :: st) σ Q := by
  intro p l e s m args below meth c cy dC dI ad A C H locs hP hD hS lc hl
  exact lv_if_le C.1 C.2.1 hd ht (fun h => kt h p l e s m args below meth c cy dC dI ad A C H locs hP hD hS lc hl) (fun h => kf h p l e s m args below meth c cy dC dI ad A C H locs hP hD hS lc hl)
theorem ds_ic_le {x z : Int32} {off : Int} {t : Nat} (hd : decode y.2.1 pc = .ok (.if_icmp .le off, 3)) (ht : (pc : Int) + off = (t : Int)) (kt : x ≤ z → ds_X y Y t ls st σ Q) (kf : ¬ x ≤ z → ds_X y Y (pc + 3) ls st σ Q) : ds_X y Y pc ls (.int z :: .int x :: st) σ Q := by
  intro p l e s m args below meth c cy dC dI ad A C H locs hP hD hS lc hl
  exact lv_icmp_le C.1 C.2.1 hd ht (fun h => kt h p l e s m args below meth c cy dC dI ad A C H locs hP hD hS lc hl) (fun h => kf h p l e s m args below meth c cy dC dI ad A C H locs hP hD hS lc hl)
theorem ds_table {d lo hi : Int} {offs : Array Int} {len : Nat} {x : Int32} (hd : decode y.2.1 pc = .ok (.tableswitch d lo hi offs, len)) (t : Nat) (ht : (pc : Int) + d = (t : Int)) (ho : x.toInt < lo ∨ hi < x.toInt → ds_X y Y t ls st σ Q) (hin : ¬ x.toInt < lo → ¬ hi < x.toInt → ∃ (off : Int) (t : Nat), offs[(x.toInt - lo).toNat]? = some off ∧ (pc : Int) + off = (t : Int) ∧ ds_X y Y t ls st σ Q) : ds_X y Y pc ls (.int x :: st) σ Q := by
  intro p l e s m args below meth c cy dC dI ad A C H locs hP hD hS lc hl
  by_cases h : x.toInt < lo ∨ hi < x.toInt
  · exact lv_tableOut C.1 C.2.1 hd h ht (ho h p l e s m args below meth c cy dC dI ad A C H locs hP hD hS lc hl)
  · obtain ⟨off, t2, h1, h2, h3⟩ := hin (fun q => h (Or.inl q)) (fun q => h (Or.inr q))
    exact lv_tableIn C.1 C.2.1 hd (fun q => h (Or.inl q)) (fun q => h (Or.inr q)) h1 h2 (h3 p l e s m args below meth c cy dC dI ad A C H locs hP hD hS lc hl)
/-! locals written -/
theorem ds_istore {n : Nat} {x : Int32} (hd : decode y.2.1 pc = .ok (.istore n, 2)) (hn : n < ls.length) (k : ds_X y Y (pc + 2) (ds_put ls n (.int x)) st σ Q) : ds_X y Y pc ls (.int x :: st) σ Q := by
  intro p l e s m args below meth c cy dC dI ad A C H locs hP hD hS lc hl
  exact lv_istore C.1 C.2.1 hd hl.has (by rw [← hl.1]; exact hn) rfl (fun lc' h' => k p l e s m args below meth c cy dC dI ad A C H locs hP hD hS lc' (hl.put h'))
theorem ds_istore_n {n : Fin 4} {x : Int32} (hd : decode y.2.1 pc = .ok (.istore_n n, 1)) (hn : (n : Nat) < ls.length) (k : ds_X y Y (pc + 1) (ds_put ls n (.int x)) st σ Q) : ds_X y Y pc ls (.int x :: st) σ Q := by
  intro p l e s m args below meth c cy dC dI ad A C H locs hP hD hS lc hl
  exact lv_istore_n C.1 C.2.1 hd rfl hl.has (by rw [← hl.1]; exact hn) rfl (fun lc' h' => k p l e s m args below meth c cy dC dI ad A C H locs hP hD hS lc' (hl.put h'))
theorem ds_astore {n : Nat} {x : Nat} (hd : decode y.2.1 pc = .ok (.astore n, 2)) (hn : n < ls.length) (k : ds_X y Y (pc + 2) (ds_put ls n (.ref x)) st σ Q) : ds_X y Y pc ls (.ref x :: st) σ Q := by
  intro p l e s m args below meth c cy dC dI ad A C H locs hP hD hS lc hl
  exact lv_astore C.1 C.2.1 hd hl.has (by rw [← hl.1]; exact hn) rfl (fun lc' h' => k p l e s m args below meth c cy dC dI ad A C H locs hP hD hS lc' (hl.put h'))
theorem ds_astore_n {n : Fin 4} {x : Nat} (hd : decode y.2.1 pc = .ok (.astore_n n, 1)) (hn : (n : Nat) < ls.length) (k : ds_X y Y (pc + 1) (ds_put ls n (.ref x)) st σ Q) : ds_X y Y pc ls (.ref x :: st) σ Q := by
  intro p l e s m args below meth c cy dC dI ad A C H locs hP hD hS lc hl
  exact lv_astore_n C.1 C.2.1 hd rfl hl.has (by rw [← hl.1]; exact hn) rfl (fun lc' h' => k p l e s m args below meth c cy dC dI ad A C H locs hP hD hS lc' (hl.put h'))
theorem ds_lstore {n : Nat} {x : Int64} (hd : decode y.2.1 pc = .ok (.lstore n, 2)) (hn : n + 1 < ls.length) (k : ds_X y Y (pc + 2) (ds_put2 ls n (.long x)) st σ Q) : ds_X y Y pc ls (.long x :: st) σ Q := by
  intro p l e s m args below meth c cy dC dI ad A C H locs hP hD hS lc hl
  exact lv_lstore C.1 C.2.1 hd hl.has (by rw [← hl.1]; exact hn) rfl (fun lc' h' => k p l e s m args below meth c cy dC dI ad A C H locs hP hD hS lc' (hl.put2 h'))
theorem ds_lstore_n {n : Fin 4} {x : Int64} (hd : decode y.2.1 pc = .ok (.lstore_n n, 1)) (hn : (n : Nat) + 1 < ls.length) (k : ds_X y Y (pc + 1) (ds_put2 ls n (.long x)) st σ Q) : ds_X y Y pc ls (.long x :: st) σ Q := by
  intro p l e s m args below meth c cy dC dI ad A C H locs hP hD hS lc hl
  exact lv_lstore_n C.1 C.2.1 hd rfl hl.has (by rw [← hl.1]; exact hn) rfl (fun lc' h' => k p l e s m args below meth c cy dC dI ad A C H locs hP hD hS lc' (hl.put2 h'))
theorem ds_iinc {n : Nat} {i : Int} {x v : Int32} (hd : decode y.2.1 pc = .ok (.iinc n i, 3)) (hi : Int32.ofInt i = v) (hv : ds_at ls n = some (.int x)) (k : ds_X y Y (pc + 3) (ds_put ls n (.int (x + v))) st σ Q) : ds_X y Y pc ls st σ Q := by
  intro p l e s m args below meth c cy dC dI ad A C H locs hP hD hS lc hl
  obtain ⟨j, hj⟩ := List.getElem?_of_mem (ds_pr_mem (ad := ad) hv)
  exact lv_iinc (k := j) C.1 C.2.1 hd hl.has hj (by rw [hi]) (by rw [← hl.1]; exact ds_at_lt hv) rfl (fun lc' h' => k p l e s m args below meth c cy dC dI ad A C H locs hP hD hS lc' (hl.put h'))
/-! ends -/
theorem ds_vret (hd : decode y.2.1 pc = .ok (.return_, 1)) (hr : y.2.2.2.1 = none) (hq : Q none σ) : ds_X y Y pc ls [] σ Q := by
  intro p l e s m args below meth c cy dC dI ad A C H locs hP hD hS lc hl
  obtain ⟨hx, hb, hml, hret, hlocks, hts, hown, hK, hN, hA⟩ := C
  refine W.vret hx hb (hret.trans hr) (fun t ht hW => ?_) hS.2.2 hd
  rw [hr]
  exact ⟨⟨σ, rfl, hq, by rw [ht]; exact hP, va_K.moved hW.alike hK, hD⟩, hS.F ht⟩
theorem ds_lret {x : Int64} (hd : decode y.2.1 pc = .ok (.lreturn, 1)) (hr : y.2.2.2.1 = some .long) (hq : Q (some (.long x)) σ) : ds_X y Y pc ls [.long x] σ Q := by
  intro p l e s m args below meth c cy dC dI ad A C H locs hP hD hS lc hl
  obtain ⟨hx, hb, hml, hret, hlocks, hts, hown, hK, hN, hA⟩ := C
  refine W.lret hx hb (hret.trans hr) (fun t ht hW => ?_) hS.2.2 hd
  rw [hr]
  exact ⟨⟨x, σ, rfl, hq, by rw [ht]; exact hP, va_K.moved hW.alike hK, hD⟩, hS.F ht⟩
theorem ds_iret {x : Int32} (hd : decode y.2.1 pc = .ok (.ireturn, 1)) (hr : y.2.2.2.1 = some .int) (hq : Q (some (.int x)) σ) : ds_X y Y pc ls [.int x] σ Q := by
  intro p l e s m args below meth c cy dC dI ad A C H locs hP hD hS lc hl
  obtain ⟨hx, hb, hml, hret, hlocks, hts, hown, hK, hN, hA⟩ := C
  refine W.iret hx hb (hret.trans hr) (fun t ht hW => ?_) hS.2.2 hd
  rw [hr]
  exact ⟨⟨x, σ, rfl, hq, by rw [ht]; exact hP, va_K.moved hW.alike hK, hD⟩, hS.F ht⟩
theorem ds_zret {x : Int32} (hd : decode y.2.1 pc = .ok (.ireturn, 1)) (hr : y.2.2.2.1 = some .boolean) (hn : x = 0 ∨ x = 1) (hq : Q (some (.int x)) σ) : ds_X y Y pc ls [.int x] σ Q := by
  intro p l e s m args below meth c cy dC dI ad A C H locs hP hD hS lc hl
  obtain ⟨hx, hb, hml, hret, hlocks, hts, hown, hK, hN, hA⟩ := C
  refine W.zret (ty := .boolean) hx hb (hret.trans hr) (by rcases hn with rfl | rfl <;> rfl) (fun t ht hW => ?_) hS.2.2 hd
  rw [hr]
  exact ⟨⟨x, σ, rfl, hq, by rw [ht]; exact hP, va_K.moved hW.alike hK, hD⟩, hS.F ht⟩
theorem ds_aret {x : Nat} {cn : String} (hd : decode y.2.1 pc = .ok (.areturn, 1)) (hr : y.2.2.2.1 = some (.object cn)) (hq : Q (some (.ref x)) σ) : ds_X y Y pc ls [.ref x] σ Q := by
  intro p l e s m args below meth c cy dC dI ad A C H locs hP hD hS lc hl
  obtain ⟨hx, hb, hml, hret, hlocks, hts, hown, hK, hN, hA⟩ := C
  refine W.aret (v := .ref (ad x)) (rt := .object cn) hx hb (hret.trans hr) (Or.inl ⟨_, rfl⟩) (Or.inr ⟨_, rfl⟩) (fun t ht hW => ?_) hS.2.2 hd
  rw [hr]
  exact ⟨⟨(σ, x), ad x, rfl, hq, rfl, by rw [ht]; exact hP, va_K.moved hW.alike hK, hD⟩, hS.F ht⟩
end DSX
