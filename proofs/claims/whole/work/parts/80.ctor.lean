/-! making objects: rows of constructors -/
def di_N : List (String × Nat × MethodName) := [("WayWeights", 11, ⟨"WayWeights$Net", "<init>", "()V"⟩), ("WayWeights$Routes", 17, ⟨"WayWeights$Ways", "<init>", "()V"⟩), ("WayWeights", 30, ⟨"WayWeights$Flow", "<init>", "()V"⟩), ("WayWeights", 37, ⟨"WayWeights$Peak", "<init>", "()V"⟩), ("WayWeights$Survey", 11, ⟨"WayWeights$Peak", "<init>", "()V"⟩), ("WayWeights$Seeker", 17, ⟨"WayWeights$Peak", "<init>", "()V"⟩)]
/-- the class of arrays of int arrays has the int arrays' class for its parts -/
def di_AA (cy : Nat → ClassId) (U : State) : Prop := ∃ k : Class, U.vm.classes[cy 14]? = some k ∧ k.kind = .array (cy 10) (.array .int)
def di_Z (cy : Nat → ClassId) (U : State) : Prop := (∀ q ∈ di_N, va_Nw (.methodLinkNest q.1 q.2.1 q.2.2 "WayWeights") U) ∧ va_AO "WayWeights$Ways" U ∧ di_AA cy U
theorem di_Z.warm {cy : Nat → ClassId} {s U : State} (hW : s.WarmedH U.vm) (h : di_Z cy s) : di_Z cy U := by
  refine ⟨fun q hq => va_Nw.warmM hW (h.1 q hq), va_AO.moved hW.alike h.2.1, ?_⟩
  obtain ⟨k, h1, h2⟩ := h.2.2
  obtain ⟨k', h3, h4⟩ := hW.alike.2.2 _ _ h1
  exact ⟨k', h3, by rw [h4]; exact h2⟩
theorem di_Z.same {cy : Nat → ClassId} {s U : State} (hW : s.vm = U.vm) (h : di_Z cy s) : di_Z cy U := by
  refine ⟨fun q hq => va_Nw.same rfl hW (h.1 q hq), va_AO.moved (by rw [hW]; exact Vm.Alike.refl _) h.2.1, ?_⟩
  obtain ⟨k, h1, h2⟩ := h.2.2
  exact ⟨k, by rw [← hW]; exact h1, h2⟩
def di_rm (y : ds_M) (mc ms : Nat) : Room := { frames := y.2.2.2.2.1, cells := mc, slots := ms, locals := y.2.2.2.2.2 }
def di_B (cy : Nat → ClassId) (dC : Nat → ClassId) (dI : Nat → Nat → Nat) (A : Nat → Prop) (w : va_W) (t : State) : Prop :=
  va_P (dC, dI) vwCl w t.heap ∧ va_K (dC, dI) vwCl (ds_ty cy) t ∧ va_D A w
def di_C (y : ds_M) (p : Program) (s : State) (m : MethodId) (args : Array Value) (meth : Method) (c : Code) (cy : Nat → ClassId) (dC : Nat → ClassId) (dI : Nat → Nat → Nat) (A : Nat → Prop) : Prop :=
  p.tables.exec = Jvm.exec ∧ c.code = y.2.1 ∧ c.maxLocals = y.2.2.1 ∧ meth.sig.returnType = none ∧ meth.locks = false ∧ meth.name = "<init>" ∧ (∀ w ∈ ds_T, w.before args s = true) ∧ s.vm.findClass y.1.cls = some m.cls ∧ va_K (dC, dI) vwCl (ds_ty cy) s ∧ di_Z cy s ∧ ∀ q, s.heap.size ≤ q → A q
def di_X (y : ds_M) (mc ms : Nat) (cy : Nat → ClassId) (Q : va_W → Prop) (pc : Nat) (lv : List (Nat × Value)) (st : List Value) (k n : Nat) (w : va_W) : Prop :=
  ∀ (p : Program) (l : Launch) (e : Env) (s : State) (m : MethodId) (args : Array Value) (below : List Frame) (meth : Method) (c : Code) (dC : Nat → ClassId) (dI : Nat → Nat → Nat) (A : Nat → Prop),
    di_C y p s m args meth c cy dC dI A → ∀ (H : Heap) (locs : List Loc), va_P (dC, dI) vwCl w H → va_D A w → va_S A s.heap H locs → ∀ lc : Array Slot, lv_has lc y.2.2.1 lv →
    W p l e (di_rm y mc ms) s m args below meth c H locs k n (MQ below (va_Qv Q (di_B cy dC dI A) A) args s mc ms A) (F0 m pc lc st)
def di_Pc (as : List Value) (cy : Nat → ClassId) (dC : Nat → ClassId) (dI : Nat → Nat → Nat) (w0 : va_W) (sz : Nat) : Array Value → State → Prop :=
  va_Pc as (fun U => U.heap.size = sz ∧ va_P (dC, dI) vwCl w0 U.heap ∧ va_K (dC, dI) vwCl (ds_ty cy) U ∧ di_Z cy U ∧ va_D (fun _ => True) w0)
def di_E (y : ds_M) (mc ms : Nat) (as : List Value) (w0 : va_W) (Q : (Nat → ClassId) → va_W → Prop) : Prop :=
  ∀ (l : Launch) (cy : Nat → ClassId) (dC : Nat → ClassId) (dI : Nat → Nat → Nat) (sz : Nat),
    Met l y.1 (ds_ws y) (di_rm y mc ms) (di_Pc as cy dC dI w0 sz) (va_Qv (Q cy) (di_B cy dC dI (va_A w0 sz)) (va_A w0 sz)) mc ms (va_A w0 sz)
theorem di_enter {y : ds_M} {mc ms : Nat} {as : List Value} {w0 : va_W} {Q : (Nat → ClassId) → va_W → Prop} (hy : plainName y.1.cls = true) (hi : y.1.name = "<init>") (hr : y.2.2.2.1 = none) (hn : (lg_sl as).length ≤ y.2.2.1) (h : ∀ cy, di_X y mc ms cy (Q cy) 0 (lv_args 0 as) [] 0 0 w0) : di_E y mc ms as w0 Q := by
  intro l cy dC dI sz
  refine ds_ofWF (cc := y.2.1) (maxL := y.2.2.1) (ret := y.2.2.2.1) (ws' := ds_T) (by unfold plainFor; rw [hy]; rfl) rfl ?_
  intro p e s m args below meth c s₁ B hml hv
  obtain ⟨rfl, hsz, hP, hK, hZ, hD0⟩ := hv
  have hts := atoms_spec (ws := ds_ws y) B.pre
  have hown : s.vm.findClass y.1.cls = some m.cls := findClass_of_methodNamed B.named
  have hin : meth.name = y.1.name := (name_of_methodNamed B.named B.method).1
  subst hsz
  have hD := hD0.self (sz := s.heap.size)
  have hA : ∀ q : Nat, s.heap.size ≤ q → va_A w0 s.heap.size q := fun q h => Or.inr h
  rw [lg_entry_eq]
  exact h cy p l e s m _ below meth c dC dI _ ⟨B.exec, B.bytes, hml, B.returns.trans hr, B.notSynchronized, hin.trans hi, fun w hw => hts w (List.mem_cons_of_mem _ hw), hown, hK, hZ, hA⟩ s.heap [] hP hD va_S.rf _ (lv_entry as hn)
theorem di_join {A0 : Nat → Prop} {D : va_G} {cl : List vw_C} {wr wc w1 : va_W} {H H1 : Heap} (hP : va_P D cl (wr ++ wc) H) (hD : va_D A0 (wr ++ wc)) (hk : ∀ q : Nat, q < H.size → ¬ va_A wc H.size q → H1[q]? = H[q]?) (hF : ∀ q, va_A wc H.size q → A0 q) (hP1 : va_P D cl w1 H1) (hD1 : va_D (va_A wc H.size) w1) : va_P D cl (wr ++ w1) H1 ∧ va_D A0 (wr ++ w1) := by
  have left : ∀ (k : Nat) (q : Nat × va_E), wr[k]? = some q → k < wr.length ∧ (wr ++ wc)[k]? = some q := by
    intro k q hq
    have hl := (List.getElem?_eq_some_iff.mp hq).1
    exact ⟨hl, by rw [List.getElem?_append_left hl]; exact hq⟩
  have apart : ∀ (k : Nat) (q : Nat × va_E), wr[k]? = some q → q.1 < H.size ∧ ¬ va_A wc H.size q.1 := by
    intro k q hq
    obtain ⟨h1, h2⟩ := left k q hq
    have hl := (hP k q h2).lt
    refine ⟨hl, fun h => ?_⟩
    rcases h with ⟨k2, e, h⟩ | h
    · have h3 : (wr ++ wc)[wr.length + k2]? = some (q.1, e) := by
        rw [List.getElem?_append_right (by omega), Nat.add_sub_cancel_left]
        exact h
      have := hD.1 k (wr.length + k2) q (q.1, e) h2 h3 rfl
      omega
    · omega
  refine ⟨va_P.app (fun k q hq => ?_) hP1, va_D.app ⟨fun i j x y hi hj hxy => ?_, fun k q hq => ?_⟩ (hD1.weaken (fun k q _ h => hF q.1 h)) (fun i j x y hx hy hxy => ?_)⟩
  · obtain ⟨g1, g2⟩ := apart k q hq
    exact (hP k q (left k q hq).2).kept (hk q.1 g1 g2)
  · exact hD.1 i j x y (left i x hi).2 (left j y hj).2 hxy
  · exact hD.2 k q (left k q hq).2
  · exact (apart i x hx).2 (by rw [hxy]; exact hD1.2 j y hy)
section DIR
variable {y : ds_M} {mc ms : Nat} {cy : Nat → ClassId} {Q : va_W → Prop} {pc : Nat} {lv : List (Nat × Value)} {st : List Value} {k n : Nat} {w : va_W}
theorem di_aload {j : Fin 4} {i x : Nat} (pos : Nat) (hd : decode y.2.1 pc = .ok (.aload_n j, 1)) (hi : (j : Nat) = i) (hl : lv[pos]? = some (i, .ref x)) (kk : di_X y mc ms cy Q (pc + 1) lv (.ref x :: st) k n w) : di_X y mc ms cy Q pc lv st k n w := by
  intro p l e s m args below meth c dC dI A C H locs hP hD hS lc hl'
  exact lv_aload_n C.1 C.2.1 hd hi (lv_at hl' pos hl) (kk p l e s m args below meth c dC dI A C H locs hP hD hS lc hl')
theorem di_aloadW {i x : Nat} (pos : Nat) (hd : decode y.2.1 pc = .ok (.aload i, 2)) (hl : lv[pos]? = some (i, .ref x)) (kk : di_X y mc ms cy Q (pc + 2) lv (.ref x :: st) k n w) : di_X y mc ms cy Q pc lv st k n w := by
  intro p l e s m args below meth c dC dI A C H locs hP hD hS lc hl'
  exact lv_aload C.1 C.2.1 hd (lv_at hl' pos hl) (kk p l e s m args below meth c dC dI A C H locs hP hD hS lc hl')
theorem di_iload {j : Fin 4} {i : Nat} {x : Int32} (pos : Nat) (hd : decode y.2.1 pc = .ok (.iload_n j, 1)) (hi : (j : Nat) = i) (hl : lv[pos]? = some (i, .int x)) (kk : di_X y mc ms cy Q (pc + 1) lv (.int x :: st) k n w) : di_X y mc ms cy Q pc lv st k n w := by
  intro p l e s m args below meth c dC dI A C H locs hP hD hS lc hl'
  exact lv_iload_n C.1 C.2.1 hd hi (lv_at hl' pos hl) (kk p l e s m args below meth c dC dI A C H locs hP hD hS lc hl')
theorem di_iconst {z : Int} (v : Int32) (hd : decode y.2.1 pc = .ok (.iconst z, 1)) (hv : Int32.ofInt z = v) (kk : di_X y mc ms cy Q (pc + 1) lv (.int v :: st) k n w) : di_X y mc ms cy Q pc lv st k n w := by
  intro p l e s m args below meth c dC dI A C H locs hP hD hS lc hl'
  exact lv_iconst C.1 C.2.1 hd hv (kk p l e s m args below meth c dC dI A C H locs hP hD hS lc hl')
theorem di_bipush {z : Int} (v : Int32) (hd : decode y.2.1 pc = .ok (.bipush z, 2)) (hv : (Int8.ofInt z).toInt32 = v) (kk : di_X y mc ms cy Q (pc + 2) lv (.int v :: st) k n w) : di_X y mc ms cy Q pc lv st k n w := by
  intro p l e s m args below meth c dC dI A C H locs hP hD hS lc hl'
  exact lv_bipush C.1 C.2.1 hd hv (kk p l e s m args below meth c dC dI A C H locs hP hD hS lc hl')
theorem di_sipush {z : Int} (v : Int32) (hd : decode y.2.1 pc = .ok (.sipush z, 3)) (hv : (Int16.ofInt z).toInt32 = v) (kk : di_X y mc ms cy Q (pc + 3) lv (.int v :: st) k n w) : di_X y mc ms cy Q pc lv st k n w := by
  intro p l e s m args below meth c dC dI A C H locs hP hD hS lc hl'
  exact lv_sipush C.1 C.2.1 hd hv (kk p l e s m args below meth c dC dI A C H locs hP hD hS lc hl')
theorem di_dup {x : Nat} (hd : decode y.2.1 pc = .ok (.dup, 1)) (kk : di_X y mc ms cy Q (pc + 1) lv (.ref x :: .ref x :: st) k n w) : di_X y mc ms cy Q pc lv (.ref x :: st) k n w := by
  intro p l e s m args below meth c dC dI A C H locs hP hD hS lc hl'
  exact lv_dup C.1 C.2.1 hd rfl (kk p l e s m args below meth c dC dI A C H locs hP hD hS lc hl')
theorem di_istore {j : Fin 4} {i : Nat} {x : Int32} {lv' : List (Nat × Value)} (hd : decode y.2.1 pc = .ok (.istore_n j, 1)) (hi : (j : Nat) = i) (hn : i < y.2.2.1) (hl : (i, Value.int x) :: lv.filter (fun q => !(q.1 == i) && !(q.1 + 1 == i && q.2.category == 2)) = lv') (kk : di_X y mc ms cy Q (pc + 1) lv' st k n w) : di_X y mc ms cy Q pc lv (.int x :: st) k n w := by
  intro p l e s m args below meth c dC dI A C H locs hP hD hS lc hl'
  exact lv_istore_n C.1 C.2.1 hd hi hl' hn hl (fun ls' h' => kk p l e s m args below meth c dC dI A C H locs hP hD hS ls' h')
theorem di_iinc {i pos : Nat} {z : Int} {x v : Int32} {lv' : List (Nat × Value)} (hd : decode y.2.1 pc = .ok (.iinc i z, 3)) (hk : lv[pos]? = some (i, .int x)) (hv : x + Int32.ofInt z = v) (hn : i < y.2.2.1) (hl : (i, Value.int v) :: lv.filter (fun q => !(q.1 == i) && !(q.1 + 1 == i && q.2.category == 2)) = lv') (kk : di_X y mc ms cy Q (pc + 3) lv' st k n w) : di_X y mc ms cy Q pc lv st k n w := by
  intro p l e s m args below meth c dC dI A C H locs hP hD hS lc hl'
  exact lv_iinc C.1 C.2.1 hd hl' hk hv hn hl (fun ls' h' => kk p l e s m args below meth c dC dI A C H locs hP hD hS ls' h')
theorem di_goto {off : Int} {tgt : Nat} (hd : decode y.2.1 pc = .ok (.goto off, 3)) (ht : (pc : Int) + off = (tgt : Int)) (kk : di_X y mc ms cy Q tgt lv st k n w) : di_X y mc ms cy Q pc lv st k n w := by
  intro p l e s m args below meth c dC dI A C H locs hP hD hS lc hl'
  exact lv_goto C.1 C.2.1 hd ht (kk p l e s m args below meth c dC dI A C H locs hP hD hS lc hl')
theorem di_ige {x z : Int32} {off : Int} {tgt : Nat} (hd : decode y.2.1 pc = .ok (.if_icmp .ge off, 3)) (ht : (pc : Int) + off = (tgt : Int)) (kt : z ≤ x → di_X y mc ms cy Q tgt lv st k n w) (kf : ¬ z ≤ x → di_X y mc ms cy Q (pc + 3) lv st k n w) : di_X y mc ms cy Q pc lv (.int z :: .int x :: st) k n w := by
  intro p l e s m args below meth c dC dI A C H locs hP hD hS lc hl'
  exact lv_icmp_ge C.1 C.2.1 hd ht (fun h => kt h p l e s m args below meth c dC dI A C H locs hP hD hS lc hl') (fun h => kf h p l e s m args below meth c dC dI A C H locs hP hD hS lc hl')
set_option maxRecDepth 100000 in
theorem di_o1 : Cond.instanceMethod Lib.objectInit ∈ ds_T := ds_wb_T (p := 62) (by decide +kernel)
set_option maxRecDepth 100000 in
theorem di_o2 : Cond.code Lib.objectInit ⟨#[0xb1]⟩ 1 none ∈ ds_T := ds_wb_T (p := 63) (by decide +kernel)
theorem di_oi {idx a : Nat} (hd : decode y.2.1 pc = .ok (.invokespecial idx, 3)) (hl1 : Cond.methodLink y.1.cls idx Lib.objectInit ∈ ds_T) (hf : 1 ≤ y.2.2.2.2.1) (hlo : 12 ≤ y.2.2.2.2.2) (kk : di_X y mc ms cy Q (pc + 3) lv [] k n w) : di_X y mc ms cy Q pc lv [.ref a] k n w := by
  intro p l e s m args below meth c dC dI A C H locs hP hD hS lc hl'
  have C0 := C
  obtain ⟨hx, hb, hml, hret, hlocks, hin, hts, hown, hK, hZ, hA⟩ := C
  refine W.objInit hx hb hown (hts _ hl1) (hts _ di_o1) (hts _ di_o2) rfl (by rw [hml]; exact hl'.1) rfl hd hf hlo ?_
  exact W.eq (g2 := F0 m (pc + 3) lc []) rfl (kk p l e s m args below meth c dC dI A C0 H locs hP hD hS lc hl')
def di_fp (y : ds_M) (ci j : Nat) (ty : FieldType) : Prop := ∃ q : vw_C, vwCl[ci]? = some q ∧ parseFieldDescriptor (q.2.1 j).2.2.1 = some ty ∧ (q.2.1 j).1 = y.1.cls
theorem di_put {idx ci j a : Nat} {ty : FieldType} {v : Value} {fs : List Value} {tl : va_W} (hd : decode y.2.1 pc = .ok (.putfield idx, 3)) (hw : ds_fld y idx ci j) (hp : di_fp y ci j ty) (hn : narrow ty v = v) (hfit : fits ty v = true) (hlen : j < fs.length) (kk : di_X y mc ms cy Q (pc + 3) lv st k n ((a, .inr (ci, fs.set j v)) :: tl)) : di_X y mc ms cy Q pc lv (v :: .ref a :: st) k n ((a, .inr (ci, fs)) :: tl) := by
  intro p l e s m args below meth c dC dI A C H locs hP hD hS lc hl'
  have C0 := C
  obtain ⟨hx, hb, hml, hret, hlocks, hin, hts, hown, hK, hZ, hA⟩ := C
  obtain ⟨q, q1, q2, q3, q4, q5⟩ := hw
  obtain ⟨q', g1, g2, g3⟩ := hp
  obtain rfl : q = q' := Option.some.inj (q1.symm.trans g1)
  obtain ⟨⟨ty0, g4⟩, g5⟩ := ds_nmT ci q q1
  have go : ∀ (H1 : Heap) (locs1 : List Loc), va_P (dC, dI) vwCl ((((a, .inr (ci, fs)) : Nat × va_E) :: tl).set 0 (a, .inr (ci, fs.set j v))) H1 → va_D A ((((a, .inr (ci, fs)) : Nat × va_E) :: tl).set 0 (a, .inr (ci, fs.set j v))) → va_S A s.heap H1 locs1 → W p l e (di_rm y mc ms) s m args below meth c H1 locs1 k n (MQ below (va_Qv Q (di_B cy dC dI A) A) args s mc ms A) (F0 m (pc + 3) lc st) := by
    intro H1 locs1 hP1 hD1 hS1
    exact kk p l e s m args below meth c dC dI A C0 H1 locs1 hP1 hD1 hS1 lc hl'
  by_cases hfin : (q.2.1 j).2.2.2 = true
  · exact va_putF (D := (dC, dI)) (ci := ci) (v := v) (ty := ty) (C := q.1) (T := q.2.1) (N := q.2.2) hx hb hts q5 ty0 g4 g5 hown hK hP hD hS 0 rfl q1 j q2 (hts _ q4) (fun _ h9 => h9) hfin hin g3 g2 hn hfit hlen hd go
  · exact va_put (D := (dC, dI)) (ci := ci) (v := v) (ty := ty) (C := q.1) (T := q.2.1) (N := q.2.2) hx hb hts q5 ty0 g4 g5 hown hK hP hD hS 0 rfl q1 j q2 (hts _ q4) (fun _ h9 => h9) (by simpa using hfin) g2 hn hfit hlen hd go
theorem di_get {idx ci j a : Nat} {v : Value} {fs : List Value} {tl : va_W} (hd : decode y.2.1 pc = .ok (.getfield idx, 3)) (hw : ds_fld y idx ci j) (hv : fs[j]? = some v) (kk : di_X y mc ms cy Q (pc + 3) lv (v :: st) k n ((a, .inr (ci, fs)) :: tl)) : di_X y mc ms cy Q pc lv (.ref a :: st) k n ((a, .inr (ci, fs)) :: tl) := by
  intro p l e s m args below meth c dC dI A C H locs hP hD hS lc hl'
  have C0 := C
  obtain ⟨hx, hb, hml, hret, hlocks, hin, hts, hown, hK, hZ, hA⟩ := C
  obtain ⟨q, q1, q2, q3, q4, q5⟩ := hw
  exact va_get (D := (dC, dI)) (ci := ci) (v := v) (C := q.1) (T := q.2.1) (N := q.2.2) hx hb hts q5 hown hK hP 0 rfl q1 j q2 (hts _ q4) (fun _ h9 => h9) hv hd (kk p l e s m args below meth c dC dI A C0 H locs hP hD hS lc hl')
/-- newarray -/
theorem di_arr {t : ArrayType} {ty : FieldType} {nn : Int32} {N' ck : Nat} {a0 : vp_A} {x : Nat × va_E} {tl : va_W} (hd : decode y.2.1 pc = .ok (.newarray t, 2)) (hty : newarray.typeOf t = ty) (hac : Cond.arrayClass ty ∈ ds_T) (hcy : ∀ (D : va_G) (cl : List vw_C) (s : State) (cA : ClassId), va_K D cl (ds_ty cy) s → va_RA s cA ty → cA = cy ck) (ha : ∀ cA : ClassId, vp_cell cA a0 = arrV cA N' (fun _ => defaultValue ty)) (hn : ¬ nn < 0) (hN : nn.toNatClampNeg = N') (hbytes : N' * componentBytes ty ≤ 536870912) (hcells : k + 1 ≤ mc) (hslots : n + N' ≤ ms)
    (kk : ∀ q : Nat, di_X y mc ms cy Q (pc + 2) lv (.ref q :: st) (k + 1) (n + N') (x :: (tl ++ [(q, .inl (cy ck, a0))]))) : di_X y mc ms cy Q pc lv (.int nn :: st) k n (x :: tl) := by
  intro p l e s m args below meth c dC dI A C H locs hP hD hS lc hl'
  have C0 := C
  obtain ⟨hx, hb, hml, hret, hlocks, hin, hts, hown, hK, hZ, hA⟩ := C
  refine va_newa hx hb (by rw [hty]; exact hts _ hac) hty hK hP hD hS hA ha hn hN hbytes hcells hslots hd (fun q cA H1 hK1 hP1 hD1 hS1 => ?_)
  have e := hcy (dC, dI) vwCl s cA hK ((hK1.2 5 (cA, ty) rfl).2)
  subst e
  exact kk q p l e s m args below meth c dC dI A C0 H1 locs hP1 hD1 hS1 lc hl'
theorem di_cyI (D : va_G) (cl : List vw_C) (s : State) (cA : ClassId) (hK : va_K D cl (ds_ty cy) s) (h : va_RA s cA .int) : cA = cy 10 := by
  have h0 : va_RA s (cy 10) .int := (hK.2 0 _ rfl).2
  exact Option.some.inj (Eq.trans (Eq.symm h) h0)
theorem di_cyL (D : va_G) (cl : List vw_C) (s : State) (cA : ClassId) (hK : va_K D cl (ds_ty cy) s) (h : va_RA s cA .long) : cA = cy 11 := by
  have h0 : va_RA s (cy 11) .long := (hK.2 1 _ rfl).2
  exact Option.some.inj (Eq.trans (Eq.symm h) h0)
theorem di_cyZ (D : va_G) (cl : List vw_C) (s : State) (cA : ClassId) (hK : va_K D cl (ds_ty cy) s) (h : va_RA s cA .boolean) : cA = cy 12 := by
  have h0 : va_RA s (cy 12) .boolean := (hK.2 2 _ rfl).2
  exact Option.some.inj (Eq.trans (Eq.symm h) h0)
set_option maxRecDepth 100000 in
theorem di_acI : Cond.arrayClass .int ∈ ds_T := ds_wb_T (p := 123) (by decide +kernel)
set_option maxRecDepth 100000 in
theorem di_acL : Cond.arrayClass .long ∈ ds_T := ds_wb_T (p := 189) (by decide +kernel)
set_option maxRecDepth 100000 in
theorem di_acZ : Cond.arrayClass .boolean ∈ ds_T := ds_wb_T (p := 829) (by decide +kernel)
theorem di_arrI {nn : Int32} {x : Nat × va_E} {tl : va_W} (N' : Nat) (hd : decode y.2.1 pc = .ok (.newarray .int, 2)) (hn : ¬ nn < 0) (hN : nn.toNatClampNeg = N') (hb : N' * 4 ≤ 536870912) (hcells : k + 1 ≤ mc) (hslots : n + N' ≤ ms) (kk : ∀ q : Nat, di_X y mc ms cy Q (pc + 2) lv (.ref q :: st) (k + 1) (n + N') (x :: (tl ++ [(q, .inl (cy 10, N', .inl (fun _ => 0)))]))) : di_X y mc ms cy Q pc lv (.int nn :: st) k n (x :: tl) :=
  di_arr hd rfl di_acI di_cyI (fun cA => vp_cell_i cA _ _) hn hN hb hcells hslots kk
theorem di_arrL {nn : Int32} {x : Nat × va_E} {tl : va_W} (N' : Nat) (hd : decode y.2.1 pc = .ok (.newarray .long, 2)) (hn : ¬ nn < 0) (hN : nn.toNatClampNeg = N') (hb : N' * 8 ≤ 536870912) (hcells : k + 1 ≤ mc) (hslots : n + N' ≤ ms) (kk : ∀ q : Nat, di_X y mc ms cy Q (pc + 2) lv (.ref q :: st) (k + 1) (n + N') (x :: (tl ++ [(q, .inl (cy 11, N', .inr (.inl (fun _ => 0))))]))) : di_X y mc ms cy Q pc lv (.int nn :: st) k n (x :: tl) :=
  di_arr hd rfl di_acL di_cyL (fun cA => vp_cell_l cA _ _) hn hN hb hcells hslots kk
theorem di_arrZ {nn : Int32} {x : Nat × va_E} {tl : va_W} (N' : Nat) (hd : decode y.2.1 pc = .ok (.newarray .boolean, 2)) (hn : ¬ nn < 0) (hN : nn.toNatClampNeg = N') (hb : N' * 1 ≤ 536870912) (hcells : k + 1 ≤ mc) (hslots : n + N' ≤ ms) (kk : ∀ q : Nat, di_X y mc ms cy Q (pc + 2) lv (.ref q :: st) (k + 1) (n + N') (x :: (tl ++ [(q, .inl (cy 12, N', .inl (fun _ => 0)))]))) : di_X y mc ms cy Q pc lv (.int nn :: st) k n (x :: tl) :=
  di_arr hd rfl di_acZ di_cyZ (fun cA => vp_cell_i cA _ _) hn hN hb hcells hslots kk
/-- new -/
theorem di_new {idx ci : Nat} {q : vw_C} {fs : List Value} {x : Nat × va_E} {tl : va_W} (hd : decode y.2.1 pc = .ok (.new idx, 3)) (hc : vwCl[ci]? = some q) (hcl : Cond.classLink y.1.cls idx q.1 ∈ ds_T) (hit : Cond.instantiable q.1 q.2.2 ∈ ds_T) (hini : Cond.initialized q.1 ∈ ds_T) (ty : Nat → FieldType) (hty : ∀ j, j < q.2.2 → parseFieldDescriptor (q.2.1 j).2.2.1 = some (ty j)) (hfs : ∀ j, j < q.2.2 → defaultValue (ty j) = vp_V fs j) (hcells : k + 1 ≤ mc) (hslots : n + q.2.2 ≤ ms)
    (kk : ∀ a : Nat, di_X y mc ms cy Q (pc + 3) lv (.ref a :: st) (k + 1) (n + q.2.2) (x :: (tl ++ [(a, .inr (ci, fs))]))) : di_X y mc ms cy Q pc lv st k n (x :: tl) := by
  intro p l e s m args below meth c dC dI A C H locs hP hD hS lc hl'
  have C0 := C
  obtain ⟨hx, hb, hml, hret, hlocks, hin, hts, hown, hK, hZ, hA⟩ := C
  exact va_new (ci := ci) (fs := fs) (C := q.1) (T := q.2.1) (N := q.2.2) hx hb hts (ds_usT ci q hc) ty hty hown (hts _ hcl) (hts _ hit) (hts _ hini) hK hP hD hS hA hc hfs hcells hslots hd (fun a H1 hP1 hD1 hS1 => kk a p l e s m args below meth c dC dI A C0 H1 locs hP1 hD1 hS1 lc hl')
/-- a constructor's call -/
theorem di_blind {as : List Value} {cy : Nat → ClassId} {dC : Nat → ClassId} {dI : Nat → Nat → Nat} {w0 : va_W} {sz : Nat} : FrameBlind (di_Pc as cy dC dI w0 sz) := by
  intro a U g mk q
  obtain ⟨q0, q1, qP, qK, qN, qD⟩ := q
  exact ⟨q0, q1, qP, va_K.moved (u := U) (U := U.calling g mk a) (Vm.Alike.refl U.vm) qK, qN.same rfl, qD⟩
theorem di_init {z : ds_M} {mc2 ms2 idx b : Nat} {as rest : List Value} {x : Nat × va_E} {tl w0 : va_W} {Q2 : (Nat → ClassId) → va_W → Prop} (hd : decode y.2.1 pc = .ok (.invokespecial idx, 3)) (hE : di_E z mc2 ms2 (.ref b :: as) w0 Q2) (hw : ds_cw y z as.length) (hz : z.1.name = "<init>") (hzr : z.2.2.2.1 = none) (hl1 : Cond.methodLink y.1.cls idx z.1 ∈ ds_T ∨ (y.1.cls, idx, z.1) ∈ di_N) (hl2 : Cond.instanceMethod z.1 ∈ ds_T) (hsum : (rest.map fun v => v.category).sum ≤ 8) (hcells : k + mc2 ≤ mc) (hslots : n + ms2 ≤ ms)
    (kk : ∀ w1 : va_W, Q2 cy w1 → di_X y mc ms cy Q (pc + 3) lv rest (k + mc2) (n + ms2) (x :: (tl ++ w1))) : di_X y mc ms cy Q pc lv (as.reverse ++ .ref b :: rest) k n (x :: (tl ++ w0)) := by
  intro p l e s m args below meth c dC dI A C H locs hP hD hS lc hl'
  have C0 := C
  obtain ⟨hx, hb, hml, hret, hlocks, hin, hts, hown, hK, hZ, hA⟩ := C
  obtain ⟨w1, w2, w3, w4, w5⟩ := hw
  have hP' : va_P (dC, dI) vwCl ((x :: tl) ++ w0) H := hP
  have hD' : va_D A ((x :: tl) ++ w0) := hD
  have right : ∀ (i : Nat) (q : Nat × va_E), w0[i]? = some q → ((x :: tl) ++ w0)[(x :: tl).length + i]? = some q := fun i q h => by
    rw [List.getElem?_append_right (by omega), Nat.add_sub_cancel_left]
    exact h
  have hP0 : va_P (dC, dI) vwCl w0 H := fun i q h => hP' _ q (right i q h)
  have hD0 : va_D A w0 := ⟨fun i j x y hi hj e => by have := hD'.1 _ _ x y (right i x hi) (right j y hj) e; omega, fun i q h => hD'.2 _ q (right i q h)⟩
  have hFc : ∀ q, va_A w0 H.size q → A q := by
    intro q hq
    rcases hq with ⟨i, e, h⟩ | h
    · exact hD0.2 i _ h
    · exact hA q (Nat.le_trans hS.1 h)
  have hp : PreS s H (di_Pc (.ref b :: as) cy dC dI w0 H.size) (.ref b :: as) := ⟨di_blind, fun U hU hW => ⟨rfl, by rw [hU], by rw [hU]; exact hP0, va_K.moved hW.alike hK, hZ.warm hW, hD0.weaken (fun _ _ _ _ => trivial)⟩⟩
  have hr : va_Run p l e (di_rm y mc ms) s m args below meth c H locs k n mc2 ms2 (F0 m pc lc (as.reverse ++ .ref b :: rest)) rest (va_Qv (Q2 cy) (di_B cy dC dI (va_A w0 H.size)) (va_A w0 H.size) (Value.ref b :: as).toArray) (va_A w0 H.size) := by
    rcases hl1 with hl | hl
    · have cw : CallB (di_rm y mc ms) s args y.1.cls idx z.1 z.2.1 z.2.2.1 z.2.2.2.1 (ds_ws z) (di_rm z mc2 ms2) mc2 ms2 as.length := callB_of as.length hts (ds_T_good w1) rfl rfl rfl (hts _ w2) (hts _ hl) w3 ⟨w4, w5⟩
      rw [hzr] at cw
      exact va_runI (Ts := ds_T) (nL := y.2.2.1) (cc := y.2.1) ⟨hx, hb, hml, hown, hts⟩ (hE l cy dC dI H.size) ⟨cw, hz, hts _ hl2⟩ hp rfl rfl hl'.1 rfl (lv_room hsum) hd ⟨hcells, hslots⟩
    · have cw : va_CN (di_rm y mc ms) s args y.1.cls idx z.1 "WayWeights" z.2.1 z.2.2.1 z.2.2.2.1 (ds_ws z) (di_rm z mc2 ms2) mc2 ms2 as.length := va_cnB as.length hts (ds_T_good w1) rfl rfl rfl (hZ.1 _ hl) (hts _ w2) w3 ⟨w4, w5⟩
      rw [hzr] at cw
      exact va_runIN (Ts := ds_T) (nL := y.2.2.1) (cc := y.2.1) ⟨hx, hb, hml, hown, hts⟩ (hE l cy dC dI H.size) ⟨cw, hz, hts _ hl2⟩ hp rfl rfl hl'.1 rfl (lv_room hsum) hd ⟨hcells, hslots⟩
  refine va_callv hr hS (fun q _ h => hFc q h) hFc (fun u t H1 locs1 ht hvm hw hB hz1 hk1 hS1 => ?_)
  obtain ⟨hP1, hK1, hD1⟩ := hB
  rw [ht] at hP1
  obtain ⟨hP2, hD2⟩ := di_join hP' hD' hk1 hFc hP1 hD1
  exact kk u hw p l e s m args below meth c dC dI A C0 H1 locs1 hP2 hD2 hS1 lc hl'
theorem di_ret (hd : decode y.2.1 pc = .ok (.return_, 1)) (hk : k ≤ mc) (hn : n ≤ ms) (hQ : Q w) : di_X y mc ms cy Q pc lv [] k n w := by
  intro p l e s m args below meth c dC dI A C H locs hP hD hS lc hl'
  obtain ⟨hx, hb, hml, hret, hlocks, hin, hts, hown, hK, hZ, hA⟩ := C
  refine W.widen hk hn ?_
  exact W.vret hx hb hret (fun t ht hW => ⟨⟨w, rfl, hQ, by rw [ht]; exact hP, va_K.moved hW.alike hK, hD⟩, hS.F ht⟩) hS.2.2 hd hlocks
end DIR
