section DIM2
variable {p : Program} {l : Launch} {e : Env} {R : Room} {s : State} {m : MethodId} {args : Array Value} {below : List Frame} {meth : Method} {c : Code} {H : Heap} {locs : List Loc} {cells slots : Nat} {Q : State → Prop}
theorem di_standf {S : State} {cI : ClassId} {h i : Nat} {o : Cell} (X : Stand p l e R s m args below meth c S locs cells slots) (hlt : h < S.heap.size) (ho : S.heap[h]? = some o) : Stand p l e R s m args below meth c (di_f S cI h o i) (locs ++ [⟨h, i⟩]) (cells + 1) (slots + 36) :=
  (X.pushed (di_i cI)).stored ((State.heap_pushCell_of_lt _ _ hlt).trans ho) i (.ref S.heap.size)
theorem di_fill_top (S : State) (f : JFrame) (cA cI : ClassId) : di_fill (S.setTop f) cA cI = (di_fill S cA cI).setTop f := rfl
theorem di_mna0 {cc : ByteArray} (hexec : p.tables.exec = Jvm.exec) (hb : c.code = cc) {own : String} {index : Nat} (hown : s.vm.findClass own = some m.cls) (hclink : (Cond.classLink own index "[[I").before args s = true) {cA cI cE : ClassId} {kA kI : Class} (hf : s.vm.findClass "[[I" = some cA) (hkA : s.vm.classes[cA]? = some kA) (hkindA : kA.kind = .array cI (.array .int)) (hkI : s.vm.classes[cI]? = some kI) (hkindI : kI.kind = .array cE .int)
    {pc : Nat} {ls : Array Slot} {rest : List Value} (hdg : decode cc pc = .ok (.multianewarray index 2, 4)) (hcells : cells + 4 ≤ R.cells) (hslots : slots + 111 ≤ R.slots)
    (kk : ∀ H1 : Heap, H1.size = H.size + 4 → H1[H.size]? = some ((((di_o cA).setSlot 0 (.ref (H.size + 1))).setSlot 1 (.ref (H.size + 2))).setSlot 2 (.ref (H.size + 3))) → H1[H.size + 1]? = some (di_i cI) → H1[H.size + 2]? = some (di_i cI) → H1[H.size + 3]? = some (di_i cI) → (∀ q, q < H.size → H1[q]? = H[q]?) → W p l e R s m args below meth c H1 locs (cells + 4) (slots + 111) Q (F0 m (pc + 4) ls (.ref H.size :: rest))) : W p l e R s m args below meth c H locs cells slots Q (F0 m pc ls (.int 36 :: .int 3 :: rest)) := by
  intro T hT X
  subst hb
  have hpl : e.platform.magicAccessors = ({} : Platform).magicAccessors := by rw [X.admits.platform]
  obtain ⟨c0, hfc0, hcl⟩ := Cond.classLink_spec hown hclink e.platform hpl
  cases hf.symm.trans hfc0
  obtain ⟨hg₁, hwarm₁, hready₁⟩ := State.classEntry (e := e) X.warmed hcl
  generalize T.vm.noted m.cls index (.cls cA) = vm₁ at hg₁ hwarm₁ hready₁
  have hal : s.vm.Alike vm₁ := hwarm₁.alike
  obtain ⟨kA₁, hkA₁, heA⟩ := hal.2.2 _ _ hkA
  obtain ⟨kI₁, hkI₁, heI⟩ := hal.2.2 _ _ hkI
  have hkindA₁ : kA₁.kind = .array cI (.array .int) := by rw [heA]; exact hkindA
  have hkindI₁ : kI₁.kind = .array cE .int := by rw [heI]; exact hkindI
  obtain ⟨hr1, hr2⟩ := X.roomAbove hcells hslots
  have X₁ := X.noted hwarm₁
  have hle : s.heap.size ≤ T.heap.size := X.same.2.1
  generalize hS : T.setVm vm₁ = S at X₁
  have hSh : S.heap = H := by rw [← hS]; exact hT
  have hSz : S.heap.size = T.heap.size := by rw [← hS]; rfl
  have z0 : (S.pushCell (di_o cA)).heap.size = S.heap.size + 1 := Array.size_push _
  have t0 : (S.pushCell (di_o cA)).heap[S.heap.size]? = some (di_o cA) := State.heap_pushCell_size _ _
  have X2 : Stand p l e R s m args below meth c (S.pushCell (di_o cA)) locs (cells + 1) (slots + 3) := X₁.pushed (di_o cA)
  obtain ⟨z1, t1, i1, o1, -, -⟩ := di_f_facts (S := S.pushCell (di_o cA)) (cI := cI) (h := S.heap.size) (i := 0) (o := di_o cA) (by omega)
  have X3 := di_standf (cI := cI) (i := 0) X2 (show S.heap.size < (S.pushCell (di_o cA)).heap.size by omega) t0
  generalize hS1 : di_f (S.pushCell (di_o cA)) cI S.heap.size (di_o cA) 0 = S1 at z1 t1 i1 o1 X3
  rw [z0] at z1 t1 i1 o1
  obtain ⟨z2, t2, i2, o2, -, -⟩ := di_f_facts (S := S1) (cI := cI) (h := S.heap.size) (i := 1) (o := (di_o cA).setSlot 0 (.ref (S.heap.size + 1))) (by omega)
  have X4 := di_standf (cI := cI) (i := 1) X3 (show S.heap.size < S1.heap.size by omega) t1
  generalize hS2 : di_f S1 cI S.heap.size ((di_o cA).setSlot 0 (.ref (S.heap.size + 1))) 1 = S2 at z2 t2 i2 o2 X4
  rw [z1] at z2 t2 i2 o2
  obtain ⟨z3, t3, i3, o3, -, -⟩ := di_f_facts (S := S2) (cI := cI) (h := S.heap.size) (i := 2) (o := ((di_o cA).setSlot 0 (.ref (S.heap.size + 1))).setSlot 1 (.ref (S.heap.size + 1 + 1))) (by omega)
  have X5 := di_standf (cI := cI) (i := 2) X4 (show S.heap.size < S2.heap.size by omega) t2
  have hfill : di_fill S cA cI = di_f S2 cI S.heap.size (((di_o cA).setSlot 0 (.ref (S.heap.size + 1))).setSlot 1 (.ref (S.heap.size + 2))) 2 := by
    unfold di_fill
    rw [hS1, hS2]
  rw [show S.heap.size + 1 + 1 = S.heap.size + 2 from rfl] at z3 t3 i3 o3 X5
  rw [← hfill] at z3 t3 i3 o3 X5
  rw [z2] at z3 t3 i3 o3
  have X6 : Stand p l e R s m args below meth c (di_fill S cA cI) locs (cells + 4) (slots + 111) := by
    have X5' : Stand p l e R s m args below meth c (di_fill S cA cI) (locs ++ [⟨S.heap.size, 0⟩, ⟨S.heap.size, 1⟩, ⟨S.heap.size, 2⟩]) (cells + 4) (slots + 111) := by simpa [Nat.add_assoc] using X5
    refine X5'.forget (fun y hy => ?_)
    have hy0 : y.base = S.heap.size := by
      simp only [List.mem_cons, List.not_mem_nil, or_false] at hy
      rcases hy with rfl | rfl | rfl <;> rfl
    rw [hy0, hSz]
    exact hle
  have hold : ∀ q, q < H.size → (di_fill S cA cI).heap[q]? = H[q]? := by
    intro q hq
    rw [← hSh] at hq
    rw [o3 q (by omega) (by omega), o2 q (by omega) (by omega), o1 q (by omega) (by omega), State.heap_pushCell_of_lt _ _ hq, hSh]
  have hz : H.size = S.heap.size := by rw [hSh]
  obtain ⟨t, a1, b1⟩ := kk (di_fill S cA cI).heap (by omega) (by rw [hz]; exact t3) (by
      rw [hz, o3 _ (by omega) (by omega), o2 _ (by omega) (by omega)]; exact i1) (by
      rw [hz, o3 _ (by omega) (by omega)]; exact i2) (by rw [hz]; exact i3) hold (di_fill S cA cI) rfl X6
  refine ⟨t, ?_, b1⟩
  have hl1 : ¬ 3 > e.platform.arrayLengthLimit := by rw [Launch.admits_arrayLengthLimit X.admits]; omega
  have hh1 : ¬ 3 * componentBytes (.array .int) > e.platform.maxHeapBytes := by
    rw [Launch.admits_maxHeapBytes X.admits]; decide
  have hl2 : ¬ 36 > e.platform.arrayLengthLimit := by rw [Launch.admits_arrayLengthLimit X.admits]; omega
  have hh2 : ¬ 36 * componentBytes .int > e.platform.maxHeapBytes := by rw [Launch.admits_maxHeapBytes X.admits]; decide
  jvm_step X.here [hexec, hdg]
  simp only [Op.multianewarray.sem, wp_bind', W.resolveClassAt_links (State.method?_setTop (F0 m pc ls (.int 36 :: .int 3 :: rest)) X.here.top) hg₁]
  rw [W.popN, if_neg (by decide)]
  refine ⟨F0 m pc ls (.int 36 :: .int 3 :: rest), State.topJava?_setTop' (s := T.setVm vm₁) (F0 m pc ls (.int 36 :: .int 3 :: rest)) X.here.top, [.int 3, .int 36], rest, rfl, rfl, ?_⟩
  simp only [List.mapM_cons, List.mapM_nil, wp_bind', wp_pure']
  refine di_make (kA := kA₁) (kI := kI₁) (cc := cE) hkA₁ hkindA₁ hkI₁ hkindI₁ hl1 hh1 hl2 hh2 (by show T.heap.size + 4 ≤ _; omega) (by show T.slotsUsed + 111 ≤ _; omega) (fun d' acts' => ?_)
  have eS : ((T.setTop (F0 m pc ls (.int 36 :: .int 3 :: rest))).setVm vm₁).setTop { F0 m pc ls (.int 36 :: .int 3 :: rest) with stack := rest } = S.setTop { F0 m pc ls (.int 36 :: .int 3 :: rest) with stack := rest } := by
    rw [← hS]
    show ((T.setVm vm₁).setTop _).setTop _ = _
    rw [State.setTop_setTop]
  rw [eS, di_fill_top]
  simp only [wp_bind', W.mark, W.pushRef, State.topJava?_setTop' _ X6.here.top, Option.some.injEq, exists_eq_left', State.setTop_setTop, State.heap_setTop]
  intro acts
  simp [jvm, X6.here.top]
  rw [← hz]
  exact a1
end DIM2
