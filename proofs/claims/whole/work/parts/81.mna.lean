/-! new int[3][36]: the step out of the machine's own words, row by row -/
def di_o (cA : ClassId) : Cell := { cls := cA, slots := Array.replicate 3 .null, vm := .none }
def di_i (cI : ClassId) : Cell := { cls := cI, slots := Array.replicate 36 (.int 0), vm := .none }
def di_f (S : State) (cI : ClassId) (h : Nat) (o : Cell) (i : Nat) : State := (S.pushCell (di_i cI)).setCell h (o.setSlot i (.ref S.heap.size))
theorem di_f_facts {S : State} {cI : ClassId} {h i : Nat} {o : Cell} (hlt : h < S.heap.size) : (di_f S cI h o i).heap.size = S.heap.size + 1 ∧ (di_f S cI h o i).heap[h]? = some (o.setSlot i (.ref S.heap.size)) ∧ (di_f S cI h o i).heap[S.heap.size]? = some (di_i cI) ∧ (∀ q, q ≠ h → q < S.heap.size → (di_f S cI h o i).heap[q]? = S.heap[q]?) ∧ (di_f S cI h o i).vm = S.vm ∧ (di_f S cI h o i).slotsUsed = S.slotsUsed + 36 := by
  have hz : h < (S.pushCell (di_i cI)).heap.size := by
    show h < (S.heap.push (di_i cI)).size
    rw [Array.size_push]
    omega
  refine ⟨?_, heapAt_setCell_self _ hz, ?_, fun q h1 h2 => ?_, rfl, ?_⟩
  · show ((S.heap.push (di_i cI)).setIfInBounds h _).size = _
    rw [Array.size_setIfInBounds, Array.size_push]
  · show ((S.pushCell (di_i cI)).setCell h _).heap[S.heap.size]? = _
    rw [heapAt_setCell_ne _ (show h ≠ S.heap.size by omega)]
    exact State.heap_pushCell_size _ _
  · show ((S.pushCell (di_i cI)).setCell h _).heap[q]? = _
    rw [heapAt_setCell_ne _ (fun e => h1 e.symm), State.heap_pushCell_of_lt (h := h2)]
  · show (S.pushCell (di_i cI)).slotsUsed = _
    rw [State.slotsUsed_pushCell]
    rfl
theorem di_sl {o : Cell} {i : Nat} {v : Value} : (o.setSlot i v).cls = o.cls ∧ (o.setSlot i v).vm = o.vm ∧ (o.setSlot i v).slots.size = o.slots.size := ⟨rfl, rfl, by simp [Cell.setSlot]⟩
section DIM
variable {E : CtlPost} {e : Env} {d : Bool} {acts : List Action} {S : State} {cA cI cc : ClassId} {kA kI : Class}
theorem di_make1 (hkI : S.vm.classes[cI]? = some kI) (hkindI : kI.kind = .array cc .int) (hl : ¬ 36 > e.platform.arrayLengthLimit) (hh : ¬ 36 * componentBytes .int > e.platform.maxHeapBytes) (hc : S.heap.size < e.platform.maxCells) (hs : S.slotsUsed + 36 ≤ e.platform.maxSlots) {Q : Addr → Pre} (hq : ∀ d' acts', Q S.heap.size d' acts' (S.pushCell (di_i cI))) : wp (Op.multianewarray.make cI [36]) Q E e d acts S := by
  have h36 : ¬ (36 : Int32) < 0 := by decide
  have e36 : (36 : Int32).toNatClampNeg = 36 := by decide
  rw [Op.multianewarray.make]
  simp only [wp_bind', W.ite, h36, if_false, wp_pure', W.theClass, hkI, hkindI, Option.some.injEq, exists_eq_left', e36]
  exact W.newArray_of hkI hkindI hl hh hc hs rfl (fun acts' => hq _ acts')
def di_fill (S : State) (cA cI : ClassId) : State :=
  di_f (di_f (di_f (S.pushCell (di_o cA)) cI S.heap.size (di_o cA) 0) cI S.heap.size ((di_o cA).setSlot 0 (.ref (S.heap.size + 1))) 1) cI S.heap.size (((di_o cA).setSlot 0 (.ref (S.heap.size + 1))).setSlot 1 (.ref (S.heap.size + 2))) 2
theorem di_make (hkA : S.vm.classes[cA]? = some kA) (hkindA : kA.kind = .array cI (.array .int)) (hkI : S.vm.classes[cI]? = some kI) (hkindI : kI.kind = .array cc .int) (hl3 : ¬ 3 > e.platform.arrayLengthLimit) (hh3 : ¬ 3 * componentBytes (.array .int) > e.platform.maxHeapBytes) (hl : ¬ 36 > e.platform.arrayLengthLimit) (hh : ¬ 36 * componentBytes .int > e.platform.maxHeapBytes) (hc : S.heap.size + 4 ≤ e.platform.maxCells) (hs : S.slotsUsed + 111 ≤ e.platform.maxSlots) {Q : Addr → Pre} (hq : ∀ d' acts', Q S.heap.size d' acts' (di_fill S cA cI)) : wp (Op.multianewarray.make cA [3, 36]) Q E e d acts S := by
  have h3 : ¬ (3 : Int32) < 0 := by decide
  have e3 : (3 : Int32).toNatClampNeg = 3 := by decide
  have hfind : ([(36 : Int32)].find? (· < 0)) = none := by decide
  rw [Op.multianewarray.make]
  simp only [wp_bind', W.ite, h3, if_false, wp_pure', W.theClass, hkA, hkindA, Option.some.injEq, exists_eq_left', e3]
  refine W.newArray_of hkA hkindA hl3 hh3 (by omega) (by omega) rfl (fun acts1 => ?_)
  have z0 : (S.pushCell (di_o cA)).heap.size = S.heap.size + 1 := Array.size_push _
  have u0 : (S.pushCell (di_o cA)).slotsUsed = S.slotsUsed + 3 := rfl
  have t0 : (S.pushCell (di_o cA)).heap[S.heap.size]? = some (di_o cA) := State.heap_pushCell_size _ _
  obtain ⟨z1, t1, -, -, v1, u1⟩ := di_f_facts (S := S.pushCell (di_o cA)) (cI := cI) (h := S.heap.size) (i := 0) (o := di_o cA) (by omega)
  have E0 : di_f (S.pushCell (di_o cA)) cI S.heap.size (di_o cA) 0 = di_f (S.pushCell (di_o cA)) cI S.heap.size (di_o cA) 0 := rfl
  generalize hS1 : di_f (S.pushCell (di_o cA)) cI S.heap.size (di_o cA) 0 = S1 at z1 t1 v1 u1
  rw [z0] at z1 t1
  obtain ⟨z2, t2, -, -, v2, u2⟩ := di_f_facts (S := S1) (cI := cI) (h := S.heap.size) (i := 1) (o := (di_o cA).setSlot 0 (.ref (S.heap.size + 1))) (by omega)
  generalize hS2 : di_f S1 cI S.heap.size ((di_o cA).setSlot 0 (.ref (S.heap.size + 1))) 1 = S2 at z2 t2 v2 u2
  rw [z1] at z2 t2
  have hfill : di_fill S cA cI = di_f S2 cI S.heap.size (((di_o cA).setSlot 0 (.ref (S.heap.size + 1))).setSlot 1 (.ref (S.heap.size + 2))) 2 := by
    unfold di_fill
    rw [hS1, hS2]
  have fitR : ∀ (T : State) (o : Cell) (i : Nat) (a : Addr), T.vm = S.vm → o.cls = cA → o.vm = .none → T.fitsSlot o.cls o.vm i (.ref a) = true := by
    intro T o i a h1 h2 h4
    rw [h2, h4]
    simp [State.fitsSlot, State.slotType?, h1, hkA, hkindA, fits]
  have hsz : (di_o cA).slots.size = 3 := rfl
  simp only [hfind]
  rw [ite_self, wp_bind', Std.Legacy.Range.forIn_eq_forIn_range']
  show wp (forIn (List.range' 0 3 1) PUnit.unit _) _ E e d acts1 _
  simp only [List.range', List.forIn_cons, List.forIn_nil, wp_bind']
  refine di_make1 (S := S.pushCell (di_o cA)) hkI hkindI hl hh (by omega) (by omega) (fun d1 a1 => ?_)
  simp only [wp_bind', W.writeLoc, wp_pure']
  refine ⟨di_o cA, (State.heap_pushCell_of_lt _ _ (show S.heap.size < (S.pushCell (di_o cA)).heap.size by omega)).trans t0, by simp [di_o], by rw [hsz]; omega, fitR _ _ _ _ rfl rfl rfl, ?_⟩
  show wp _ _ E e _ _ (di_f (S.pushCell (di_o cA)) cI S.heap.size (di_o cA) 0)
  rw [hS1]
  try simp only [wp_bind']
  refine di_make1 (S := S1) (by rw [v1]; exact hkI) hkindI hl hh (by omega) (by omega) (fun d2 a2 => ?_)
  simp only [wp_bind', W.writeLoc, wp_pure']
  refine ⟨_, (State.heap_pushCell_of_lt _ _ (show S.heap.size < S1.heap.size by omega)).trans t1, by rw [di_sl.2.1]; simp [di_o], by rw [di_sl.2.2, hsz]; omega, fitR _ _ _ _ v1 rfl rfl, ?_⟩
  show wp _ _ E e _ _ (di_f S1 cI S.heap.size ((di_o cA).setSlot 0 (.ref (S.heap.size + 1))) 1)
  rw [hS2]
  try simp only [wp_bind']
  refine di_make1 (S := S2) (by rw [v2, v1]; exact hkI) hkindI hl hh (by omega) (by omega) (fun d3 a3 => ?_)
  simp only [wp_bind', W.writeLoc, wp_pure']
  refine ⟨_, (State.heap_pushCell_of_lt _ _ (show S.heap.size < S2.heap.size by omega)).trans t2, by rw [di_sl.2.1, di_sl.2.1]; simp [di_o], by rw [di_sl.2.2, di_sl.2.2, hsz]; omega, fitR _ _ _ _ (v2.trans v1) rfl rfl, ?_⟩
  rw [hfill] at hq
  exact hq _ _
end DIM
