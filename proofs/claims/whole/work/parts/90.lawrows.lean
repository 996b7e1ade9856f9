/-! the law's walk: rows -/
def lj_C (b L : Nat) (xs : Nat → Int32) (cy : Nat → ClassId) (p : Program) (s : State) (m : MethodId) (meth : Method) (c : Code) (dC : Nat → ClassId) (dI : Nat → Nat → Nat) : Prop :=
  p.tables.exec = Jvm.exec ∧ c.code = code ∧ c.maxLocals = 4 ∧ meth.sig.returnType = ret ∧ meth.locks = false ∧ (∀ w ∈ ds_T, w.before #[Value.ref b] s = true) ∧ s.vm.findClass R_law = some m.cls ∧ va_K (dC, dI) vwCl (ds_ty cy) s ∧ di_Z cy s ∧ ds_nest s ∧ va_X b L xs s s.heap ∧ b < s.heap.size
def lj_X (b L : Nat) (xs : Nat → Int32) (cy : Nat → ClassId) (pc : Nat) (lv : List (Nat × Value)) (st : List Value) (k n : Nat) (w : va_W) : Prop :=
  ∀ (p : Program) (l : Launch) (e : Env) (s : State) (m : MethodId) (below : List Frame) (meth : Method) (c : Code) (dC : Nat → ClassId) (dI : Nat → Nat → Nat),
    lj_C b L xs cy p s m meth c dC dI → ∀ (H : Heap) (locs : List Loc), va_P (dC, dI) vwCl w H → va_D (fun q : Nat => s.heap.size ≤ q) w → va_S (fun q : Nat => s.heap.size ≤ q) s.heap H locs → ∀ lc : Array Slot, lv_has lc 4 lv →
    W p l e room_1 s m #[Value.ref b] below meth c H locs k n (lw_Z below #[Value.ref b] s) (F0 m pc lc st)
section LJR
variable {b L : Nat} {xs : Nat → Int32} {cy : Nat → ClassId} {pc : Nat} {lv : List (Nat × Value)} {st : List Value} {k n : Nat} {w : va_W}
theorem lj_aload {j : Fin 4} {i a : Nat} (pos : Nat) (hd : decode code pc = .ok (.aload_n j, 1)) (hi : (j : Nat) = i) (hl : lv[pos]? = some (i, .ref a)) (kk : lj_X b L xs cy (pc + 1) lv (.ref a :: st) k n w) : lj_X b L xs cy pc lv st k n w := by
  intro p l e s m below meth c dC dI C H locs hP hD hS lc hl'
  exact lv_aload_n C.1 C.2.1 hd hi (lv_at hl' pos hl) (kk p l e s m below meth c dC dI C H locs hP hD hS lc hl')
theorem lj_iload {j : Fin 4} {i : Nat} {v : Int32} (pos : Nat) (hd : decode code pc = .ok (.iload_n j, 1)) (hi : (j : Nat) = i) (hl : lv[pos]? = some (i, .int v)) (kk : lj_X b L xs cy (pc + 1) lv (.int v :: st) k n w) : lj_X b L xs cy pc lv st k n w := by
  intro p l e s m below meth c dC dI C H locs hP hD hS lc hl'
  exact lv_iload_n C.1 C.2.1 hd hi (lv_at hl' pos hl) (kk p l e s m below meth c dC dI C H locs hP hD hS lc hl')
theorem lj_iconst {z : Int} (v : Int32) (hd : decode code pc = .ok (.iconst z, 1)) (hv : Int32.ofInt z = v) (kk : lj_X b L xs cy (pc + 1) lv (.int v :: st) k n w) : lj_X b L xs cy pc lv st k n w := by
  intro p l e s m below meth c dC dI C H locs hP hD hS lc hl'
  exact lv_iconst C.1 C.2.1 hd hv (kk p l e s m below meth c dC dI C H locs hP hD hS lc hl')
theorem lj_bipush {z : Int} (v : Int32) (hd : decode code pc = .ok (.bipush z, 2)) (hv : (Int8.ofInt z).toInt32 = v) (kk : lj_X b L xs cy (pc + 2) lv (.int v :: st) k n w) : lj_X b L xs cy pc lv st k n w := by
  intro p l e s m below meth c dC dI C H locs hP hD hS lc hl'
  exact lv_bipush C.1 C.2.1 hd hv (kk p l e s m below meth c dC dI C H locs hP hD hS lc hl')
theorem lj_dup {a : Nat} (hd : decode code pc = .ok (.dup, 1)) (kk : lj_X b L xs cy (pc + 1) lv (.ref a :: .ref a :: st) k n w) : lj_X b L xs cy pc lv (.ref a :: st) k n w := by
  intro p l e s m below meth c dC dI C H locs hP hD hS lc hl'
  exact lv_dup C.1 C.2.1 hd rfl (kk p l e s m below meth c dC dI C H locs hP hD hS lc hl')
theorem lj_iadd {u v : Int32} (hd : decode code pc = .ok (.iadd, 1)) (kk : lj_X b L xs cy (pc + 1) lv (.int (u + v) :: st) k n w) : lj_X b L xs cy pc lv (.int v :: .int u :: st) k n w := by
  intro p l e s m below meth c dC dI C H locs hP hD hS lc hl'
  exact lv_iadd C.1 C.2.1 hd (kk p l e s m below meth c dC dI C H locs hP hD hS lc hl')
theorem lj_isub {u v : Int32} (hd : decode code pc = .ok (.isub, 1)) (kk : lj_X b L xs cy (pc + 1) lv (.int (u - v) :: st) k n w) : lj_X b L xs cy pc lv (.int v :: .int u :: st) k n w := by
  intro p l e s m below meth c dC dI C H locs hP hD hS lc hl'
  exact lv_isub C.1 C.2.1 hd (kk p l e s m below meth c dC dI C H locs hP hD hS lc hl')
theorem lj_iand {u v : Int32} (hd : decode code pc = .ok (.iand, 1)) (kk : lj_X b L xs cy (pc + 1) lv (.int (u &&& v) :: st) k n w) : lj_X b L xs cy pc lv (.int v :: .int u :: st) k n w := by
  intro p l e s m below meth c dC dI C H locs hP hD hS lc hl'
  exact lv_iand C.1 C.2.1 hd (kk p l e s m below meth c dC dI C H locs hP hD hS lc hl')
theorem lj_lcmp {u v : Int64} (hd : decode code pc = .ok (.lcmp, 1)) (kk : lj_X b L xs cy (pc + 1) lv (.int (lg_cmp u v) :: st) k n w) : lj_X b L xs cy pc lv (.long v :: .long u :: st) k n w := by
  intro p l e s m below meth c dC dI C H locs hP hD hS lc hl'
  exact W.lcmp C.1 C.2.1 hd (kk p l e s m below meth c dC dI C H locs hP hD hS lc hl')
theorem lj_goto {off : Int} {tgt : Nat} (hd : decode code pc = .ok (.goto off, 3)) (ht : (pc : Int) + off = (tgt : Int)) (kk : lj_X b L xs cy tgt lv st k n w) : lj_X b L xs cy pc lv st k n w := by
  intro p l e s m below meth c dC dI C H locs hP hD hS lc hl'
  exact lv_goto C.1 C.2.1 hd ht (kk p l e s m below meth c dC dI C H locs hP hD hS lc hl')
theorem lj_ifeq {v : Int32} {off : Int} {tgt : Nat} (hd : decode code pc = .ok (.ifCond .eq off, 3)) (ht : (pc : Int) + off = (tgt : Int)) (kt : v = 0 → lj_X b L xs cy tgt lv st k n w) (kf : ¬ v = 0 → lj_X b L xs cy (pc + 3) lv st k n w) : lj_X b L xs cy pc lv (.int v :: st) k n w := by
  intro p l e s m below meth c dC dI C H locs hP hD hS lc hl'
  exact lv_if_eq C.1 C.2.1 hd ht (fun h => kt h p l e s m below meth c dC dI C H locs hP hD hS lc hl') (fun h => kf h p l e s m below meth c dC dI C H locs hP hD hS lc hl')
theorem lj_ieq {u v : Int32} {off : Int} {tgt : Nat} (hd : decode code pc = .ok (.if_icmp .eq off, 3)) (ht : (pc : Int) + off = (tgt : Int)) (kt : u = v → lj_X b L xs cy tgt lv st k n w) (kf : ¬ u = v → lj_X b L xs cy (pc + 3) lv st k n w) : lj_X b L xs cy pc lv (.int v :: .int u :: st) k n w := by
  intro p l e s m below meth c dC dI C H locs hP hD hS lc hl'
  exact lv_icmp_eq C.1 C.2.1 hd ht (fun h => kt h p l e s m below meth c dC dI C H locs hP hD hS lc hl') (fun h => kf h p l e s m below meth c dC dI C H locs hP hD hS lc hl')
theorem lj_igt {u v : Int32} {off : Int} {tgt : Nat} (hd : decode code pc = .ok (.if_icmp .gt off, 3)) (ht : (pc : Int) + off = (tgt : Int)) (kt : v < u → lj_X b L xs cy tgt lv st k n w) (kf : ¬ v < u → lj_X b L xs cy (pc + 3) lv st k n w) : lj_X b L xs cy pc lv (.int v :: .int u :: st) k n w := by
  intro p l e s m below meth c dC dI C H locs hP hD hS lc hl'
  exact lv_icmp_gt C.1 C.2.1 hd ht (fun h => kt h p l e s m below meth c dC dI C H locs hP hD hS lc hl') (fun h => kf h p l e s m below meth c dC dI C H locs hP hD hS lc hl')
theorem lj_istore {j : Fin 4} {i : Nat} {v : Int32} {lv' : List (Nat × Value)} (hd : decode code pc = .ok (.istore_n j, 1)) (hi : (j : Nat) = i) (hn : i < 4) (hl : (i, Value.int v) :: lv.filter (fun q => !(q.1 == i) && !(q.1 + 1 == i && q.2.category == 2)) = lv') (kk : lj_X b L xs cy (pc + 1) lv' st k n w) : lj_X b L xs cy pc lv (.int v :: st) k n w := by
  intro p l e s m below meth c dC dI C H locs hP hD hS lc hl'
  exact lv_istore_n C.1 C.2.1 hd hi hl' hn hl (fun ls' h' => kk p l e s m below meth c dC dI C H locs hP hD hS ls' h')
theorem lj_astore {j : Fin 4} {i a : Nat} {lv' : List (Nat × Value)} (hd : decode code pc = .ok (.astore_n j, 1)) (hi : (j : Nat) = i) (hn : i < 4) (hl : (i, Value.ref a) :: lv.filter (fun q => !(q.1 == i) && !(q.1 + 1 == i && q.2.category == 2)) = lv') (kk : lj_X b L xs cy (pc + 1) lv' st k n w) : lj_X b L xs cy pc lv (.ref a :: st) k n w := by
  intro p l e s m below meth c dC dI C H locs hP hD hS lc hl'
  exact lv_astore_n C.1 C.2.1 hd hi hl' hn hl (fun ls' h' => kk p l e s m below meth c dC dI C H locs hP hD hS ls' h')
theorem lj_iinc {i pos : Nat} {z : Int} {u v : Int32} {lv' : List (Nat × Value)} (hd : decode code pc = .ok (.iinc i z, 3)) (hk : lv[pos]? = some (i, .int u)) (hv : u + Int32.ofInt z = v) (hn : i < 4) (hl : (i, Value.int v) :: lv.filter (fun q => !(q.1 == i) && !(q.1 + 1 == i && q.2.category == 2)) = lv') (kk : lj_X b L xs cy (pc + 3) lv' st k n w) : lj_X b L xs cy pc lv st k n w := by
  intro p l e s m below meth c dC dI C H locs hP hD hS lc hl'
  exact lv_iinc C.1 C.2.1 hd hl' hk hv hn hl (fun ls' h' => kk p l e s m below meth c dC dI C H locs hP hD hS ls' h')
theorem lj_tout {dflt lo hi : Int} {offs : Array Int} {len : Nat} {v : Int32} {tgt : Nat} (hd : decode code pc = .ok (.tableswitch dflt lo hi offs, len)) (h : v.toInt < lo ∨ hi < v.toInt) (ht : (pc : Int) + dflt = (tgt : Int)) (kk : lj_X b L xs cy tgt lv st k n w) : lj_X b L xs cy pc lv (.int v :: st) k n w := by
  intro p l e s m below meth c dC dI C H locs hP hD hS lc hl'
  exact lv_tableOut C.1 C.2.1 hd h ht (kk p l e s m below meth c dC dI C H locs hP hD hS lc hl')
theorem lj_tin {dflt lo hi : Int} {offs : Array Int} {len : Nat} {v : Int32} {off : Int} {tgt : Nat} (z : Int) (hd : decode code pc = .ok (.tableswitch dflt lo hi offs, len)) (hz : v.toInt = z) (h1 : ¬ z < lo) (h2 : ¬ hi < z) (ho : offs[(z - lo).toNat]? = some off) (ht : (pc : Int) + off = (tgt : Int)) (kk : lj_X b L xs cy tgt lv st k n w) : lj_X b L xs cy pc lv (.int v :: st) k n w := by
  intro p l e s m below meth c dC dI C H locs hP hD hS lc hl'
  subst hz
  exact lv_tableIn C.1 C.2.1 hd h1 h2 ho ht (kk p l e s m below meth c dC dI C H locs hP hD hS lc hl')
theorem lj_sld {v : Int32} (hin : vp_in v L) (hd : decode code pc = .ok (.iaload, 1)) (kk : lj_X b L xs cy (pc + 1) lv (.int (xs v.toNatClampNeg) :: st) k n w) : lj_X b L xs cy pc lv (.int v :: .ref b :: st) k n w := by
  intro p l e s m below meth c dC dI C H locs hP hD hS lc hl'
  have C0 := C
  obtain ⟨hx, hb, hml, hret, hlocks, hts, hown, hK, hZ, hN, hX, hbl⟩ := C
  exact va_sld hx hb hX hbl (Nat.not_le.mpr hbl) hS hin hd (kk p l e s m below meth c dC dI C0 H locs hP hD hS lc hl')
theorem lj_slen (hd : decode code pc = .ok (.arraylength, 1)) (kk : lj_X b L xs cy (pc + 1) lv (.int (nI L) :: st) k n w) : lj_X b L xs cy pc lv (.ref b :: st) k n w := by
  intro p l e s m below meth c dC dI C H locs hP hD hS lc hl'
  have C0 := C
  obtain ⟨hx, hb, hml, hret, hlocks, hts, hown, hK, hZ, hN, hX, hbl⟩ := C
  exact va_slen hx hb hX hbl (Nat.not_le.mpr hbl) hS hd (kk p l e s m below meth c dC dI C0 H locs hP hD hS lc hl')
theorem lj_ret (hd : decode code pc = .ok (.ireturn, 1)) (hk : k ≤ 600000) (hn : n ≤ 7302250) : lj_X b L xs cy pc lv [.int 1] k n w := by
  intro p l e s m below meth c dC dI C H locs hP hD hS lc hl'
  obtain ⟨hx, hb, hml, hret, hlocks, hts, hown, hK, hZ, hN, hX, hbl⟩ := C
  refine va_forget (fun q hq => hS.2.2 q hq) ?_
  refine W.widen hk hn ?_
  exact lw_ret hx hb hret hlocks hd
/-- the world in other words -/
theorem lj_conv {w' : va_W} (hp : ∀ (D : va_G) (cl : List vw_C) (H : Heap), va_P D cl w H → va_P D cl w' H) (hd : ∀ A : Nat → Prop, va_D A w → va_D A w') (kk : lj_X b L xs cy pc lv st k n w') : lj_X b L xs cy pc lv st k n w := by
  intro p l e s m below meth c dC dI C H locs hP hD hS lc hl'
  exact kk p l e s m below meth c dC dI C H locs (hp _ _ _ hP) (hd _ hD) hS lc hl'
theorem lj_left {w1 w2 : va_W} {j : Nat} {q : Nat × va_E} (h : w1[j]? = some q) : (w1 ++ w2)[j]? = some q := by
  rw [List.getElem?_append_left (List.getElem?_eq_some_iff.mp h).1]
  exact h
theorem lj_right {w1 w2 : va_W} {j : Nat} {q : Nat × va_E} (h : w2[j]? = some q) : (w1 ++ w2)[w1.length + j]? = some q := by
  rw [List.getElem?_append_right (by omega), Nat.add_sub_cancel_left]
  exact h
theorem lj_swap {w1 w2 : va_W} (kk : lj_X b L xs cy pc lv st k n (w2 ++ w1)) : lj_X b L xs cy pc lv st k n (w1 ++ w2) := by
  refine lj_conv (fun D cl H h => ?_) (fun A h => ?_) kk
  · exact va_P.app (fun j q hj => h _ q (lj_right hj)) (fun j q hj => h _ q (lj_left hj))
  · refine va_D.app ⟨fun i j u v hi hj e => ?_, fun j q hj => h.2 _ q (lj_right hj)⟩ ⟨fun i j u v hi hj e => ?_, fun j q hj => h.2 _ q (lj_left hj)⟩ (fun i j u v hi hj e => ?_)
    · have := h.1 _ _ u v (lj_right hi) (lj_right hj) e
      omega
    · exact h.1 _ _ u v (lj_left hi) (lj_left hj) e
    · have h1 := h.1 _ _ u v (lj_right hi) (lj_left hj) e
      have h2 := (List.getElem?_eq_some_iff.mp hj).1
      omega
/-- new -/
theorem lj_new {idx ci : Nat} {q : vw_C} {fs : List Value} (hd : decode code pc = .ok (.new idx, 3)) (hc : vwCl[ci]? = some q) (hcl : Cond.classLink R_law idx q.1 ∈ ds_T) (hit : Cond.instantiable q.1 q.2.2 ∈ ds_T) (hini : Cond.initialized q.1 ∈ ds_T) (ty : Nat → FieldType) (hty : ∀ j, j < q.2.2 → parseFieldDescriptor (q.2.1 j).2.2.1 = some (ty j)) (hfs : ∀ j, j < q.2.2 → defaultValue (ty j) = vp_V fs j) (hcells : k + 1 ≤ 600000) (hslots : n + q.2.2 ≤ 7302250)
    (kk : ∀ a : Nat, lj_X b L xs cy (pc + 3) lv (.ref a :: st) (k + 1) (n + q.2.2) (w ++ [(a, .inr (ci, fs))])) : lj_X b L xs cy pc lv st k n w := by
  intro p l e s m below meth c dC dI C H locs hP hD hS lc hl'
  have C0 := C
  obtain ⟨hx, hb, hml, hret, hlocks, hts, hown, hK, hZ, hN, hX, hbl⟩ := C
  exact va_new (ci := ci) (fs := fs) (C := q.1) (T := q.2.1) (N := q.2.2) hx hb hts (ds_usT ci q hc) ty hty hown (hts _ hcl) (hts _ hit) (hts _ hini) hK hP hD hS (fun _ h => h) hc hfs hcells hslots hd (fun a H1 hP1 hD1 hS1 => kk a p l e s m below meth c dC dI C0 H1 locs hP1 hD1 hS1 lc hl')
def lj_cw (z : ds_M) (idx n : Nat) : Prop := (Cond.code z.1 z.2.1 z.2.2.1 z.2.2.2.1 ∈ ds_T ∧ Cond.initialized z.1.cls ∈ ds_T ∧ (z.1.cls ≠ "java/lang/invoke/MethodHandle" ∧ z.1.cls ≠ "java/lang/invoke/VarHandle" ∧ (parseMethodDescriptor z.1.desc).map (fun d => d.parameters.length) = some n)) ∧ (z.2.2.2.2.1 + 1 ≤ 11 ∧ 8 + (z.2.2.1 + 11) + z.2.2.2.2.2 ≤ 454) ∧ Cond.methodLink R_law idx z.1 ∈ ds_T ∧ Cond.instanceMethod z.1 ∈ ds_T
/-- what the callee has of the world, and the rest -/
theorem lj_part {wr w0 : va_W} {s : State} {dC : Nat → ClassId} {dI : Nat → Nat → Nat} {H : Heap} {locs : List Loc} (hP : va_P (dC, dI) vwCl (wr ++ w0) H) (hD : va_D (fun q : Nat => s.heap.size ≤ q) (wr ++ w0)) (hS : va_S (fun q : Nat => s.heap.size ≤ q) s.heap H locs) : va_P (dC, dI) vwCl w0 H ∧ va_D (fun q : Nat => s.heap.size ≤ q) w0 ∧ ∀ q, va_A w0 H.size q → s.heap.size ≤ q := by
  have hD0 : va_D (fun q : Nat => s.heap.size ≤ q) w0 := ⟨fun i j x y hi hj e => by have := hD.1 _ _ x y (lj_right hi) (lj_right hj) e; omega, fun i q h => hD.2 _ q (lj_right h)⟩
  refine ⟨fun i q h => hP _ q (lj_right h), hD0, fun q hq => ?_⟩
  rcases hq with ⟨i, e, h⟩ | h
  · exact hD0.2 i _ h
  · exact Nat.le_trans hS.1 h
/-- a constructor's call -/
theorem lj_init {z : ds_M} {mc2 ms2 idx a : Nat} {rest : List Value} {wr w0 : va_W} {Q2 : (Nat → ClassId) → va_W → Prop} (hd : decode code pc = .ok (.invokespecial idx, 3)) (hE : di_E z mc2 ms2 [.ref a] w0 Q2) (hw : lj_cw z idx 0) (hz : z.1.name = "<init>") (hzr : z.2.2.2.1 = none) (hsum : (rest.map fun v => v.category).sum ≤ 8) (hcells : k + mc2 ≤ 600000) (hslots : n + ms2 ≤ 7302250)
    (kk : ∀ w1 : va_W, Q2 cy w1 → lj_X b L xs cy (pc + 3) lv rest (k + mc2) (n + ms2) (wr ++ w1)) : lj_X b L xs cy pc lv (.ref a :: rest) k n (wr ++ w0) := by
  intro p l e s m below meth c dC dI C H locs hP hD hS lc hl'
  have C0 := C
  obtain ⟨hx, hb, hml, hret, hlocks, hts, hown, hK, hZ, hN, hX, hbl⟩ := C
  obtain ⟨⟨w1, w2, w3⟩, w4, hl1, hl2⟩ := hw
  obtain ⟨hP0, hD0, hFc⟩ := lj_part hP hD hS
  have hp : PreS s H (di_Pc [.ref a] cy dC dI w0 H.size) [.ref a] := ⟨di_blind, fun U hU hW => ⟨rfl, by rw [hU], by rw [hU]; exact hP0, va_K.moved hW.alike hK, hZ.warm hW, hD0.weaken (fun _ _ _ _ => trivial)⟩⟩
  have cw : CallB room_1 s #[Value.ref b] R_law idx z.1 z.2.1 z.2.2.1 z.2.2.2.1 (ds_ws z) (di_rm z mc2 ms2) mc2 ms2 0 := callB_of 0 hts (ds_T_good w1) rfl rfl rfl (hts _ w2) (hts _ hl1) w3 w4
  rw [hzr] at cw
  have hr : va_Run p l e room_1 s m #[Value.ref b] below meth c H locs k n mc2 ms2 (F0 m pc lc (.ref a :: rest)) rest (va_Qv (Q2 cy) (di_B cy dC dI (va_A w0 H.size)) (va_A w0 H.size) [Value.ref a].toArray) (va_A w0 H.size) :=
    va_runI (Ts := ds_T) (nL := 4) (cc := code) (As := []) ⟨hx, hb, hml, hown, hts⟩ (hE l cy dC dI H.size) ⟨cw, hz, hts _ hl2⟩ hp rfl rfl hl'.1 rfl (lv_room hsum) hd ⟨hcells, hslots⟩
  refine va_callv hr hS (fun q _ h => hFc q h) hFc (fun u t H1 locs1 ht hvm hw hB hz1 hk1 hS1 => ?_)
  obtain ⟨hP1, hK1, hD1⟩ := hB
  rw [ht] at hP1
  obtain ⟨hP2, hD2⟩ := di_join hP hD hk1 hFc hP1 hD1
  exact kk u hw p l e s m below meth c dC dI C0 H1 locs1 hP2 hD2 hS1 lc hl'
/-- a method's call -/
theorem lj_run {z : ds_M} {Y : ds_Y} {σ : ds_S} {ad : Nat → Nat} {idx ci : Nat} {as rest : List Value} {wr : va_W} {Q : Option Value → ds_S → Prop} (hd : decode code pc = .ok (.invokevirtual idx, 3)) (hE : ds_E z Y (.ref 0 :: as) σ Q) (hw : lj_cw z idx as.length) (hl3 : Cond.selects z.1.cls z.1 z.1 ∈ ds_T) (has : as.map (ds_v ad) = as) (h0 : 0 < Y.1) (hk : Y.2.1 0 = ci) (hq : ∃ q : vw_C, vwCl[ci]? = some q ∧ q.1 = z.1.cls) (hsum : (rest.map fun v => v.category).sum ≤ 8) (hcs : k ≤ 600000 ∧ n ≤ 7302250)
    {p : Program} {l : Launch} {e : Env} {s : State} {m : MethodId} {below : List Frame} {meth : Method} {c : Code} {dC : Nat → ClassId} {dI : Nat → Nat → Nat} (C : lj_C b L xs cy p s m meth c dC dI) {H : Heap} {locs : List Loc} (hP : va_P (dC, dI) vwCl (wr ++ ds_w cy ad Y σ) H) (hD : va_D (fun q : Nat => s.heap.size ≤ q) (wr ++ ds_w cy ad Y σ)) (hS : va_S (fun q : Nat => s.heap.size ≤ q) s.heap H locs) {lc : Array Slot} (hl' : lv_has lc 4 lv) :
    va_Run p l e room_1 s m #[Value.ref b] below meth c H locs k n 0 0 (F0 m pc lc (as.reverse ++ .ref (ad 0) :: rest)) rest (ds_Q z.2.2.2.1 Q cy dC dI ad (va_A (ds_w cy ad Y σ) H.size) Y (Value.ref (ad 0) :: as).toArray) (va_A (ds_w cy ad Y σ) H.size) := by
  obtain ⟨hx, hb, hml, hret, hlocks, hts, hown, hK, hZ, hN, hX, hbl⟩ := C
  obtain ⟨⟨w1, w2, w3⟩, w4, hl1, hl2⟩ := hw
  obtain ⟨hP0, hD0, hFc⟩ := lj_part hP hD hS
  obtain ⟨q, q1, q2⟩ := hq
  have he := ds_w_at (cy := cy) (ad := ad) (σ := σ) h0
  rw [ds_e_obj hk (ds_ci q1)] at he
  have hrec := va_recv hK hP0 q1 he
  rw [q2] at hrec
  have cw : CallW room_1 s #[Value.ref b] R_law z.1.cls idx z.1 z.2.1 z.2.2.1 z.2.2.2.1 (ds_ws z) (ds_rm z) 0 0 as.length := ⟨callB_of as.length hts (ds_T_good w1) rfl rfl rfl (hts _ w2) (hts _ hl1) w3 w4, hts _ hl2, hts _ hl3⟩
  have hM := hE l cy dC dI ad H.size
  have hpre : ∀ U : State, U.heap = H → s.WarmedH U.vm → ds_Pc (.ref 0 :: as) cy dC dI ad Y σ H.size (Value.ref (ad 0) :: as).toArray U := fun U hU hW => ⟨by rw [List.map_cons, has]; rfl, by rw [hU], by rw [hU]; exact hP0, va_K.moved hW.alike hK, hN.warm hW, hD0.weaken (fun _ _ _ _ => trivial)⟩
  exact va_runV (Ts := ds_T) (nL := 4) (cc := code) (As := as) (b := ad 0) ⟨hx, hb, hml, hown, hts⟩ hM cw ⟨ds_blind, hrec, hpre⟩ rfl rfl hl'.1 rfl (lv_room hsum) hd ⟨hcs.1, hcs.2⟩
theorem lj_callI {z : ds_M} {Y : ds_Y} {σ : ds_S} {ad : Nat → Nat} {idx ci : Nat} {as rest : List Value} {wr : va_W} {Q : Option Value → ds_S → Prop} (hd : decode code pc = .ok (.invokevirtual idx, 3)) (hE : ds_E z Y (.ref 0 :: as) σ Q) (hret : z.2.2.2.1 = some .int) (hw : lj_cw z idx as.length) (hl3 : Cond.selects z.1.cls z.1 z.1 ∈ ds_T) (has : as.map (ds_v ad) = as) (h0 : 0 < Y.1) (hk : Y.2.1 0 = ci) (hq : ∃ q : vw_C, vwCl[ci]? = some q ∧ q.1 = z.1.cls) (hsum : (rest.map fun v => v.category).sum ≤ 8) (hcs : k ≤ 600000 ∧ n ≤ 7302250)
    (kk : ∀ (r : Int32) (σ' : ds_S), Q (some (.int r)) σ' → lj_X b L xs cy (pc + 3) lv (.int r :: rest) k n (wr ++ ds_w cy ad Y σ')) : lj_X b L xs cy pc lv (as.reverse ++ .ref (ad 0) :: rest) k n (wr ++ ds_w cy ad Y σ) := by
  intro p l e s m below meth c dC dI C H locs hP hD hS lc hl'
  have hr := lj_run (p := p) (l := l) (e := e) (below := below) hd hE hw hl3 has h0 hk hq hsum hcs C hP hD hS hl'
  rw [hret] at hr
  obtain ⟨hP0, hD0, hFc⟩ := lj_part hP hD hS
  refine va_calli (a := (Value.ref (ad 0) :: as).toArray) (post := fun r σ' => Q (some (.int r)) σ') (B := ds_B cy dC dI ad (va_A (ds_w cy ad Y σ) H.size) Y) hr hS (fun q _ h => hFc q h) hFc (fun r u t H1 locs1 ht hvm hw hB hz1 hk1 hS1 => ?_)
  obtain ⟨hP1, hK1, hD1⟩ := hB
  rw [ht] at hP1
  obtain ⟨hP2, hD2⟩ := di_join hP hD hk1 hFc hP1 hD1
  exact kk r u hw p l e s m below meth c dC dI C H1 locs1 hP2 hD2 hS1 lc hl'
theorem lj_callL {z : ds_M} {Y : ds_Y} {σ : ds_S} {ad : Nat → Nat} {idx ci : Nat} {as rest : List Value} {wr : va_W} {Q : Option Value → ds_S → Prop} (hd : decode code pc = .ok (.invokevirtual idx, 3)) (hE : ds_E z Y (.ref 0 :: as) σ Q) (hret : z.2.2.2.1 = some .long) (hw : lj_cw z idx as.length) (hl3 : Cond.selects z.1.cls z.1 z.1 ∈ ds_T) (has : as.map (ds_v ad) = as) (h0 : 0 < Y.1) (hk : Y.2.1 0 = ci) (hq : ∃ q : vw_C, vwCl[ci]? = some q ∧ q.1 = z.1.cls) (hsum : (rest.map fun v => v.category).sum ≤ 8) (hcs : k ≤ 600000 ∧ n ≤ 7302250)
    (kk : ∀ (r : Int64) (σ' : ds_S), Q (some (.long r)) σ' → lj_X b L xs cy (pc + 3) lv (.long r :: rest) k n (wr ++ ds_w cy ad Y σ')) : lj_X b L xs cy pc lv (as.reverse ++ .ref (ad 0) :: rest) k n (wr ++ ds_w cy ad Y σ) := by
  intro p l e s m below meth c dC dI C H locs hP hD hS lc hl'
  have hr := lj_run (p := p) (l := l) (e := e) (below := below) hd hE hw hl3 has h0 hk hq hsum hcs C hP hD hS hl'
  rw [hret] at hr
  obtain ⟨hP0, hD0, hFc⟩ := lj_part hP hD hS
  refine va_calll (a := (Value.ref (ad 0) :: as).toArray) (post := fun r σ' => Q (some (.long r)) σ') (B := ds_B cy dC dI ad (va_A (ds_w cy ad Y σ) H.size) Y) hr hS (fun q _ h => hFc q h) hFc (fun r u t H1 locs1 ht hvm hw hB hz1 hk1 hS1 => ?_)
  obtain ⟨hP1, hK1, hD1⟩ := hB
  rw [ht] at hP1
  obtain ⟨hP2, hD2⟩ := di_join hP hD hk1 hFc hP1 hD1
  exact kk r u hw p l e s m below meth c dC dI C H1 locs1 hP2 hD2 hS1 lc hl'
/-- a number of the script: five instructions -/
def lj_ka (pc : Nat) (j : Int) : Prop := decode code pc = .ok (.aload_n 0, 1) ∧ decode code (pc + 1) = .ok (.iload_n 3, 1) ∧ decode code (pc + 2) = .ok (.iconst j, 1) ∧ decode code (pc + 3) = .ok (.iadd, 1) ∧ decode code (pc + 4) = .ok (.iaload, 1)
/-- the locals in the loop -/
abbrev lj_l (b aC aM i : Nat) : List (Nat × Value) := [(3, .int (nI i)), (2, .ref aM), (1, .ref aC), (0, .ref b)]
theorem lj_arg {aC aM i j : Nat} {z : Int} (hd : lj_ka pc z) (hz : Int32.ofInt z = nI j) (hL : L ≤ 3072) (hi : i + j < L) (kk : lj_X b L xs cy (pc + 5) (lj_l b aC aM i) (.int (xs (i + j)) :: st) k n w) : lj_X b L xs cy pc (lj_l b aC aM i) st k n w := by
  obtain ⟨h1, h2, h3, h4, h5⟩ := hd
  refine lj_aload 3 h1 rfl rfl ?_
  refine lj_iload 0 h2 rfl rfl ?_
  refine lj_iconst _ h3 hz ?_
  refine lj_iadd h4 ?_
  rw [nI_add]
  refine lj_sld (vp_in_nI hi (by omega)) h5 ?_
  rw [nI_clamp (by omega)]
  exact kk
/-- whether a number is not 0 -/
def lj_kz (pc : Nat) : Prop := decode code pc = .ok (.ifCond .eq 7, 3) ∧ decode code (pc + 3) = .ok (.iconst 1, 1) ∧ decode code (pc + 3 + 1) = .ok (.goto 4, 3) ∧ decode code (pc + 7) = .ok (.iconst 0, 1)
theorem lj_bool {v : Int32} (hd : lj_kz pc) (kk : lj_X b L xs cy (pc + 8) lv (.int (if v = 0 then 0 else 1) :: st) k n w) : lj_X b L xs cy pc lv (.int v :: st) k n w := by
  obtain ⟨h1, h2, h3, h4⟩ := hd
  refine lj_ifeq (tgt := pc + 7) h1 (by omega) (fun h => ?_) (fun h => ?_)
  · rw [if_pos h] at kk
    exact lj_iconst 0 h4 (by decide) kk
  · rw [if_neg h] at kk
    refine lj_iconst 1 h2 (by decide) ?_
    exact lj_goto (tgt := pc + 8) h3 (by omega) kk
end LJR
