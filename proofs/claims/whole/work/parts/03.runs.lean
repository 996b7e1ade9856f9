def ds_entry (n : Nat) (as : List Value) : ds_L := ds_en as ++ List.replicate (n - (ds_en as).length) none
theorem ds_at_app {a b : ds_L} {i : Nat} {v : Value} (h : ds_at (a ++ b) i = some v) (hb : ∀ j w, ds_at b j ≠ some w) : ds_at a i = some v := by
  induction a generalizing i with
  | nil => exact absurd h (hb i v)
  | cons x r ih =>
    cases i with
    | zero => exact h
    | succ n => exact ih h
theorem ds_at_none (n j : Nat) (w : Value) : ds_at (List.replicate n none) j ≠ some w := by
  induction n generalizing j with
  | zero => simp [ds_at]
  | succ n ih =>
    cases j with
    | zero => simp [ds_at, List.replicate]
    | succ j => exact ih j
theorem ds_en_at {ad : Nat → Nat} {as : List Value} {i k : Nat} {v : Value} (h : ds_at (ds_en as) i = some v) : (k + i, ds_v ad v) ∈ lv_args k (as.map (ds_v ad)) := by
  induction as generalizing i k with
  | nil => simp [ds_en, ds_at] at h
  | cons a r ih =>
    have hc := ds_v_cat ad a
    by_cases ha : a.category = 2
    · simp only [ds_en, if_pos ha] at h
      simp only [List.map_cons, lv_args, hc, if_pos ha]
      match i with
      | 0 => simp only [ds_at, Option.some.injEq] at h; subst h; exact List.mem_cons_self
      | 1 => simp [ds_at] at h
      | i + 2 =>
        have := ih (i := i) (k := k + 2) h
        rw [show k + (i + 2) = k + 2 + i by omega]
        exact List.mem_cons_of_mem _ this
    · simp only [ds_en, if_neg ha] at h
      simp only [List.map_cons, lv_args, hc, if_neg ha]
      match i with
      | 0 => simp only [ds_at, Option.some.injEq] at h; subst h; exact List.mem_cons_self
      | i + 1 =>
        have := ih (i := i) (k := k + 1) h
        rw [show k + (i + 1) = k + 1 + i by omega]
        exact List.mem_cons_of_mem _ this
theorem ds_en_len (ad : Nat → Nat) (as : List Value) : (ds_en as).length = (lg_sl (as.map (ds_v ad))).length := by
  induction as with
  | nil => rfl
  | cons a r ih =>
    have hc := ds_v_cat ad a
    by_cases ha : a.category = 2
    · simp only [ds_en, if_pos ha, List.map_cons, lg_sl, List.flatMap_cons, hc, List.length_append, List.length_cons] at ih ⊢
      simp [ih]; omega
    · simp only [ds_en, if_neg ha, List.map_cons, lg_sl, List.flatMap_cons, hc, List.length_append, List.length_cons] at ih ⊢
      simp [ih]; omega
theorem ds_loc_entry (ad : Nat → Nat) (as : List Value) {n : Nat} (h : (ds_en as).length ≤ n) : ds_loc ad ((lg_sl (as.map (ds_v ad)) ++ List.replicate (n - (lg_sl (as.map (ds_v ad))).length) Slot.unset).toArray) n (ds_entry n as) := by
  have h2 : (lg_sl (as.map (ds_v ad))).length ≤ n := by rw [← ds_en_len ad as]; exact h
  obtain ⟨e1, e2, e3⟩ := lv_entry (as.map (ds_v ad)) h2
  refine ⟨by simp [ds_entry]; omega, e1, e2, fun i v hi => ?_⟩
  have h3 := ds_en_at (ad := ad) (k := 0) (ds_at_app hi (ds_at_none _))
  rw [Nat.zero_add] at h3
  exact e3 _ h3
/-! the words -/
def ds_T : List Cond := lw_tbl.filter goodWord
def ds_N : List (String × Nat × MethodName) := [("WayWeights$Routes", 39, ⟨"WayWeights", "bit", "(II)I"⟩), ("WayWeights$Flow", 46, ⟨"WayWeights", "pair", "(II)I"⟩), ("WayWeights$Peak", 41, ⟨"WayWeights", "slot", "(II)I"⟩), ("WayWeights$Survey", 61, ⟨"WayWeights", "bit", "(II)I"⟩), ("WayWeights$Seeker", 107, ⟨"WayWeights", "bit", "(II)I"⟩)]
def ds_nest (U : State) : Prop := ∀ q ∈ ds_N, va_Nw (.methodLinkNest q.1 q.2.1 q.2.2 "WayWeights") U
theorem ds_nest.warm {s U : State} (hW : s.WarmedH U.vm) (h : ds_nest s) : ds_nest U := fun q hq => va_Nw.warmM hW (h q hq)
theorem ds_nest.same {s U : State} (hW : s.vm = U.vm) (h : ds_nest s) : ds_nest U := fun q hq => va_Nw.same rfl hW (h q hq)
theorem ds_T_of {i : Nat} {w : Cond} (h : lw_tbl[i]? = some w) (hg : goodWord w = true) : w ∈ ds_T := List.mem_filter.mpr ⟨List.mem_of_getElem? h, hg⟩
theorem ds_T_good {y : MethodName} {b : ByteArray} {n : Nat} {r : Option FieldType} (h : Cond.code y b n r ∈ ds_T) : GoodIn ds_T (.code y b n r :: ds_T) := by
  intro w hw
  have hw2 : w ∈ ds_T := by
    rcases List.mem_cons.mp hw with rfl | h2
    · exact h
    · exact h2
  exact ⟨hw2, good_of_word (List.mem_filter.mp hw2).2⟩
def ds_ws (y : ds_M) : List Cond := .code y.1 y.2.1 y.2.2.1 y.2.2.2.1 :: ds_T
def ds_rm (y : ds_M) : Room := { frames := y.2.2.2.2.1, cells := 0, slots := 0, locals := y.2.2.2.2.2 }
/-- what holds all through a method's run -/
def ds_C (y : ds_M) (p : Program) (s : State) (m : MethodId) (args : Array Value) (meth : Method) (c : Code) (cy : Nat → ClassId) (dC : Nat → ClassId) (dI : Nat → Nat → Nat) (A : Nat → Prop) : Prop :=
  p.tables.exec = Jvm.exec ∧ c.code = y.2.1 ∧ c.maxLocals = y.2.2.1 ∧ meth.sig.returnType = y.2.2.2.1 ∧ meth.locks = false ∧ (∀ w ∈ ds_T, w.before args s = true) ∧ s.vm.findClass y.1.cls = some m.cls ∧ va_K (dC, dI) vwCl (ds_ty cy) s ∧ ds_nest s ∧ ∀ q, s.heap.size ≤ q → A q
def ds_B (cy : Nat → ClassId) (dC : Nat → ClassId) (dI : Nat → Nat → Nat) (ad : Nat → Nat) (A : Nat → Prop) (Y : ds_Y) (σ : ds_S) (t : State) : Prop :=
  va_P (dC, dI) vwCl (ds_w cy ad Y σ) t.heap ∧ va_K (dC, dI) vwCl (ds_ty cy) t ∧ va_D A (ds_w cy ad Y σ)
def ds_Q (ret : Option FieldType) (Q : Option Value → ds_S → Prop) (cy : Nat → ClassId) (dC : Nat → ClassId) (dI : Nat → Nat → Nat) (ad : Nat → Nat) (A : Nat → Prop) (Y : ds_Y) : Array Value → State → Outcome → State → Prop := match ret with
  | none => va_Qv (fun σ => Q none σ) (ds_B cy dC dI ad A Y) A
  | some .long => va_Ql (fun r σ => Q (some (.long r)) σ) (ds_B cy dC dI ad A Y) A
  | some (.object _) => va_Qr (fun u : ds_S × Nat => Q (some (.ref u.2)) u.1) (fun u a t => a = ad u.2 ∧ ds_B cy dC dI ad A Y u.1 t) A
  | some _ => va_Qi (fun r σ => Q (some (.int r)) σ) (ds_B cy dC dI ad A Y) A
/-- from here on the method comes to its end, with Q -/
def ds_X (y : ds_M) (Y : ds_Y) (pc : Nat) (ls : ds_L) (st : List Value) (σ : ds_S) (Q : Option Value → ds_S → Prop) : Prop :=
  ∀ (p : Program) (l : Launch) (e : Env) (s : State) (m : MethodId) (args : Array Value) (below : List Frame) (meth : Method) (c : Code) (cy : Nat → ClassId) (dC : Nat → ClassId) (dI : Nat → Nat → Nat) (ad : Nat → Nat) (A : Nat → Prop),
    ds_C y p s m args meth c cy dC dI A → ∀ (H : Heap) (locs : List Loc), va_P (dC, dI) vwCl (ds_w cy ad Y σ) H → va_D A (ds_w cy ad Y σ) → va_S A s.heap H locs → ∀ lc : Array Slot, ds_loc ad lc y.2.2.1 ls →
    W p l e (ds_rm y) s m args below meth c H locs 0 0 (MQ below (ds_Q y.2.2.2.1 Q cy dC dI ad A Y) args s 0 0 A) (F0 m pc lc (st.map (ds_v ad)))
def ds_Pc (as : List Value) (cy : Nat → ClassId) (dC : Nat → ClassId) (dI : Nat → Nat → Nat) (ad : Nat → Nat) (Y : ds_Y) (σ : ds_S) (sz : Nat) : Array Value → State → Prop :=
  va_Pc (as.map (ds_v ad)) (fun U => U.heap.size = sz ∧ va_P (dC, dI) vwCl (ds_w cy ad Y σ) U.heap ∧ va_K (dC, dI) vwCl (ds_ty cy) U ∧ ds_nest U ∧ va_D (fun _ => True) (ds_w cy ad Y σ))
/-- a method's contract: called so, it comes back with Q -/
def ds_E (y : ds_M) (Y : ds_Y) (as : List Value) (σ : ds_S) (Q : Option Value → ds_S → Prop) : Prop :=
  ∀ (l : Launch) (cy : Nat → ClassId) (dC : Nat → ClassId) (dI : Nat → Nat → Nat) (ad : Nat → Nat) (sz : Nat),
    Met l y.1 (ds_ws y) (ds_rm y) (ds_Pc as cy dC dI ad Y σ sz) (ds_Q y.2.2.2.1 Q cy dC dI ad (va_A (ds_w cy ad Y σ) sz) Y) 0 0 (va_A (ds_w cy ad Y σ) sz)
theorem ds_Q_mono {ret : Option FieldType} {Q Q' : Option Value → ds_S → Prop} {cy : Nat → ClassId} {dC : Nat → ClassId} {dI : Nat → Nat → Nat} {ad : Nat → Nat} {A : Nat → Prop} {Y : ds_Y} (h : ∀ r σ, Q r σ → Q' r σ) {a : Array Value} {s : State} {o : Outcome} {t : State} (hq : ds_Q ret Q cy dC dI ad A Y a s o t) : ds_Q ret Q' cy dC dI ad A Y a s o t := by
  unfold ds_Q at hq ⊢
  split at hq
  · obtain ⟨⟨u, h1, h2, h3⟩, h4⟩ := hq; exact ⟨⟨u, h1, h _ _ h2, h3⟩, h4⟩
  · obtain ⟨⟨r, u, h1, h2, h3⟩, h4⟩ := hq; exact ⟨⟨r, u, h1, h _ _ h2, h3⟩, h4⟩
  · obtain ⟨⟨r, u, h1, h2, h3⟩, h4⟩ := hq; exact ⟨⟨r, u, h1, h _ _ h2, h3⟩, h4⟩
  · obtain ⟨⟨r, u, h1, h2, h3⟩, h4⟩ := hq; exact ⟨⟨r, u, h1, h _ _ h2, h3⟩, h4⟩
theorem ds_E.mono {y : ds_M} {Y : ds_Y} {as : List Value} {σ : ds_S} {Q Q' : Option Value → ds_S → Prop} (hE : ds_E y Y as σ Q) (h : ∀ r σ, Q r σ → Q' r σ) : ds_E y Y as σ Q' := by
  intro l cy dC dI ad sz p e h1 h2 h3 s m args below h4 h5 h6 h7
  obtain ⟨n, o, g1, g2, g3, g4, g5⟩ := hE l cy dC dI ad sz p e h1 h2 h3 s m args below h4 h5 h6 h7
  exact ⟨n, o, g1, g2, g3, ds_Q_mono h g4, g5⟩
theorem ds_ofWF {l : Launch} {y : MethodName} {ws ws' : List Cond} {rm : Room} {Pc : Array Value → State → Prop} {Qc : Array Value → State → Outcome → State → Prop} {mc ms : Nat} {free : Addr → Prop} {cc : ByteArray} {maxL : Nat} {ret : Option FieldType}
    (hy : plainFor y = true) (hw : ws = Cond.code y cc maxL ret :: ws')
    (body : ∀ p e s m args below meth c s₁, BodyLoose p l y (headSpec ws rm) cc maxL ret e s m args below meth c s₁ → c.maxLocals = maxL → Pc args s →
      W p l e (headSpec ws rm).room s m args below meth c s.heap [] 0 0 (MQ below Qc args s mc ms free) (entryFrame m args maxL)) : Met l y ws rm Pc Qc mc ms free := by
  refine MetFree.of_bodySF (code := cc) (maxLocals := maxL) (ret := ret) hy ?_ ?_
  · intro args s m h hn
    obtain ⟨meth, c, h1, h2, h3, h4, h5, h6, -, -⟩ := Cond.code_spec hn (atoms_spec (ws := ws) h _ (by rw [hw]; exact List.mem_cons_self))
    exact ⟨meth, c, h1, h2, h3, h4, h5, h6⟩
  · intro p e s m args below meth c s₁ B hml hP _
    have hh0 : s₁.heap = s.heap := by rw [B.state]; rfl
    obtain ⟨t, a1, o, b1, b2, b3⟩ := body p e s m args below meth c s₁ B hml hP s₁ hh0 (Stand.of_body B)
    exact ⟨t, o, a1, b1, b2, ⟨b3.1, b3.2⟩⟩
/-- a contract out of the run of its body -/
theorem ds_enterF {y : ds_M} {Y : ds_Y} {as : List Value} {σ : ds_S} {Q : Option Value → ds_S → Prop} (hy : plainFor y.1 = true) (hn : (ds_en as).length ≤ y.2.2.1) (h : ds_X y Y 0 (ds_entry y.2.2.1 as) [] σ Q) : ds_E y Y as σ Q := by
  intro l cy dC dI ad sz
  refine ds_ofWF (cc := y.2.1) (maxL := y.2.2.1) (ret := y.2.2.2.1) (ws' := ds_T) hy rfl ?_
  intro p e s m args below meth c s₁ B hml hv
  obtain ⟨rfl, hsz, hP, hK, hN, hD0⟩ := hv
  have hts := atoms_spec (ws := ds_ws y) B.pre
  have hown : s.vm.findClass y.1.cls = some m.cls := findClass_of_methodNamed B.named
  subst hsz
  have hD := hD0.self (sz := s.heap.size)
  have hA : ∀ q : Nat, s.heap.size ≤ q → va_A (ds_w cy ad Y σ) s.heap.size q := fun q h => Or.inr h
  rw [lg_entry_eq]
  exact h p l e s m _ below meth c cy dC dI ad _ ⟨B.exec, B.bytes, hml, B.returns, B.notSynchronized, fun w hw => hts w (List.mem_cons_of_mem _ hw), hown, hK, hN, hA⟩ s.heap [] hP hD va_S.rf _ (ds_loc_entry ad as hn)
theorem ds_enter {y : ds_M} {Y : ds_Y} {as : List Value} {σ : ds_S} {Q : Option Value → ds_S → Prop} (hy : plainName y.1.cls = true) (hn : (ds_en as).length ≤ y.2.2.1) (h : ds_X y Y 0 (ds_entry y.2.2.1 as) [] σ Q) : ds_E y Y as σ Q :=
  ds_enterF (by unfold plainFor; rw [hy]; rfl) hn h
