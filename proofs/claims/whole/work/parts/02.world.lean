def ds_fc : Nat → List Nat
  | 0 => [3, 3]
  | 1 => [0, 0, 3, 3, 3, 3, 0, 0]
  | 2 => [3, 3, 3, 3, 3]
  | 3 => [1, 0, 0, 0, 0, 0]
  | 4 => [3]
  | 5 => [3, 3, 2, 0, 3, 3, 0, 0, 3, 0, 0, 3, 3]
  | 6 => [3, 3, 2, 3, 3, 3]
  | 7 => [3, 3, 0, 3, 3, 3]
  | 8 => [3, 3, 3, 3, 3, 3, 3, 3, 3]
  | 9 => [0, 3, 3, 3, 3, 3, 3, 0, 3, 2, 2, 3, 3, 0, 3, 3, 1, 3, 3, 1, 1, 0, 1, 1, 0, 0, 3, 3, 1, 1, 3, 3, 3]
  | _ => []
/-! the abstract machine: cells by numbers, ints and longs by cell and slot -/
abbrev ds_S : Type := (Nat → Nat → Int32) × (Nat → Nat → Int64)
abbrev ds_L : Type := List (Option Value)
/-- how many cells; each one's kind (a class below 10; 10 int[], 11 long[], 12 boolean[], 13 Ways[], 14 int[][]); an array's length; where references go -/
abbrev ds_Y : Type := Nat × (Nat → Nat) × (Nat → Nat) × (Nat → Nat → Nat)
/-- an instruction: pc, itself, its length, three numbers, a constant -/
abbrev ds_I : Type := Nat × Instr × Nat × Nat × Nat × Nat × Value
/-- a method: name, bytes, locals, what it returns, its room's frames and locals -/
abbrev ds_M : Type := MethodName × ByteArray × Nat × Option FieldType × Nat × Nat
def ds_v (ad : Nat → Nat) : Value → Value
  | .ref a => .ref (ad a)
  | v => v
def ds_fv (ad : Nat → Nat) (T : Nat → Nat → Nat) (σ : ds_S) (c k : Nat) : Nat → Value
  | 0 => .int (σ.1 c k)
  | 1 => .long (σ.2 c k)
  | 2 => .int (σ.1 c k)
  | _ => .ref (ad (T c k))
def ds_fs (ad : Nat → Nat) (T : Nat → Nat → Nat) (σ : ds_S) (c : Nat) (fc : List Nat) : List Value := (List.range fc.length).map (fun k => ds_fv ad T σ c k (fc.getD k 0))
def ds_e (cy : Nat → ClassId) (ad : Nat → Nat) (Y : ds_Y) (σ : ds_S) (c : Nat) : va_E :=
  if Y.2.1 c < 10 then .inr (Y.2.1 c, ds_fs ad Y.2.2.2 σ c (ds_fc (Y.2.1 c)))
  else if Y.2.1 c = 11 then .inl (cy 11, Y.2.2.1 c, .inr (.inl (σ.2 c)))
  else if Y.2.1 c = 13 ∨ Y.2.1 c = 14 then .inl (cy (Y.2.1 c), Y.2.2.1 c, .inr (.inr (.inr (.inr (fun j => some (ad (Y.2.2.2 c j)))))))
  else .inl (cy (Y.2.1 c), Y.2.2.1 c, .inl (σ.1 c))
def ds_w (cy : Nat → ClassId) (ad : Nat → Nat) (Y : ds_Y) (σ : ds_S) : va_W := (List.range Y.1).map (fun c => (ad c, ds_e cy ad Y σ c))
def ds_ty (cy : Nat → ClassId) : List (ClassId × FieldType) := [(cy 10, .int), (cy 11, .long), (cy 12, .boolean), (cy 13, .object "WayWeights$Ways"), (cy 14, .array .int)]
theorem ds_w_at {cy : Nat → ClassId} {ad : Nat → Nat} {Y : ds_Y} {σ : ds_S} {c : Nat} (h : c < Y.1) : (ds_w cy ad Y σ)[c]? = some (ad c, ds_e cy ad Y σ c) := by
  unfold ds_w
  rw [List.getElem?_map, List.getElem?_range h]
  rfl
theorem ds_w_set {cy : Nat → ClassId} {ad : Nat → Nat} {Y : ds_Y} {σ σ' : ds_S} {c : Nat} {x : va_E} (h : ds_e cy ad Y σ' c = x) (ho : ∀ b, b ≠ c → ds_e cy ad Y σ' b = ds_e cy ad Y σ b) : (ds_w cy ad Y σ).set c (ad c, x) = ds_w cy ad Y σ' := by
  apply List.ext_getElem?
  intro i
  unfold ds_w
  rw [List.getElem?_set]
  by_cases hi : c = i
  · subst hi
    by_cases hl : c < Y.1
    · simp [hl, h]
    · simp [hl]
  · rw [if_neg hi]
    by_cases hl : i < Y.1
    · simp [hl, ho i (fun e => hi e.symm)]
    · simp [hl]
/-- ints of one cell are other ones -/
def ds_si (σ : ds_S) (c : Nat) (r : Nat → Int32) : ds_S := (va_up σ.1 c r, σ.2)
def ds_sl (σ : ds_S) (c : Nat) (r : Nat → Int64) : ds_S := (σ.1, va_up σ.2 c r)
theorem ds_e_si {cy : Nat → ClassId} {ad : Nat → Nat} {Y : ds_Y} {σ : ds_S} {c b : Nat} {r : Nat → Int32} (h : b ≠ c) : ds_e cy ad Y (ds_si σ c r) b = ds_e cy ad Y σ b := by
  have e : va_up σ.1 c r b = σ.1 b := by simp [va_up, h]
  have hf : ∀ k code, ds_fv ad Y.2.2.2 (ds_si σ c r) b k code = ds_fv ad Y.2.2.2 σ b k code := by
    intro k code
    unfold ds_fv ds_si
    rcases code with _ | _ | _ | code <;> simp [e]
  unfold ds_e ds_fs
  simp only [hf]
  simp only [ds_si, e]
theorem ds_e_sl {cy : Nat → ClassId} {ad : Nat → Nat} {Y : ds_Y} {σ : ds_S} {c b : Nat} {r : Nat → Int64} (h : b ≠ c) : ds_e cy ad Y (ds_sl σ c r) b = ds_e cy ad Y σ b := by
  have e : va_up σ.2 c r b = σ.2 b := by simp [va_up, h]
  have hf : ∀ k code, ds_fv ad Y.2.2.2 (ds_sl σ c r) b k code = ds_fv ad Y.2.2.2 σ b k code := by
    intro k code
    unfold ds_fv ds_sl
    rcases code with _ | _ | _ | code <;> simp [e]
  unfold ds_e ds_fs
  simp only [hf]
  simp only [ds_sl, e]
theorem ds_e_obj {cy : Nat → ClassId} {ad : Nat → Nat} {Y : ds_Y} {σ : ds_S} {c ci : Nat} (h : Y.2.1 c = ci) (hi : ci < 10) : ds_e cy ad Y σ c = .inr (ci, ds_fs ad Y.2.2.2 σ c (ds_fc ci)) := by
  unfold ds_e
  rw [h, if_pos hi]
theorem ds_e_int {cy : Nat → ClassId} {ad : Nat → Nat} {Y : ds_Y} {σ : ds_S} {c : Nat} (h : Y.2.1 c = 10) : ds_e cy ad Y σ c = .inl (cy 10, Y.2.2.1 c, .inl (σ.1 c)) := by
  unfold ds_e
  rw [h]
  rfl
theorem ds_e_bool {cy : Nat → ClassId} {ad : Nat → Nat} {Y : ds_Y} {σ : ds_S} {c : Nat} (h : Y.2.1 c = 12) : ds_e cy ad Y σ c = .inl (cy 12, Y.2.2.1 c, .inl (σ.1 c)) := by
  unfold ds_e
  rw [h]
  rfl
theorem ds_e_long {cy : Nat → ClassId} {ad : Nat → Nat} {Y : ds_Y} {σ : ds_S} {c : Nat} (h : Y.2.1 c = 11) : ds_e cy ad Y σ c = .inl (cy 11, Y.2.2.1 c, .inr (.inl (σ.2 c))) := by
  unfold ds_e
  rw [h]
  rfl
theorem ds_e_ways {cy : Nat → ClassId} {ad : Nat → Nat} {Y : ds_Y} {σ : ds_S} {c : Nat} (h : Y.2.1 c = 13) : ds_e cy ad Y σ c = .inl (cy 13, Y.2.2.1 c, .inr (.inr (.inr (.inr (fun j => some (ad (Y.2.2.2 c j))))))) := by
  unfold ds_e
  rw [h]
  rfl
theorem ds_e_rows {cy : Nat → ClassId} {ad : Nat → Nat} {Y : ds_Y} {σ : ds_S} {c : Nat} (h : Y.2.1 c = 14) : ds_e cy ad Y σ c = .inl (cy 14, Y.2.2.1 c, .inr (.inr (.inr (.inr (fun j => some (ad (Y.2.2.2 c j))))))) := by
  unfold ds_e
  rw [h]
  rfl
theorem ds_fs_at {ad : Nat → Nat} {T : Nat → Nat → Nat} {σ : ds_S} {c k code : Nat} {fc : List Nat} (h : fc[k]? = some code) : (ds_fs ad T σ c fc)[k]? = some (ds_fv ad T σ c k code) := by
  have hk : k < fc.length := (List.getElem?_eq_some_iff.mp h).1
  unfold ds_fs
  rw [List.getElem?_map, List.getElem?_range hk]
  simp [List.getD, h]
theorem ds_fs_len {ad : Nat → Nat} {T : Nat → Nat → Nat} {σ : ds_S} {c : Nat} {fc : List Nat} : (ds_fs ad T σ c fc).length = fc.length := by simp [ds_fs]
theorem ds_fs_si {ad : Nat → Nat} {T : Nat → Nat → Nat} {σ : ds_S} {c k code : Nat} {fc : List Nat} {x : Int32} (h : fc[k]? = some code) (hc : code = 0 ∨ code = 2) : ds_fs ad T (ds_si σ c (upd (σ.1 c) k x)) c fc = (ds_fs ad T σ c fc).set k (.int x) := by
  have hk : k < fc.length := (List.getElem?_eq_some_iff.mp h).1
  apply List.ext_getElem?
  intro i
  rw [List.getElem?_set]
  unfold ds_fs
  by_cases hi : k = i
  · subst hi
    have e : fc.getD k 0 = code := by rw [List.getD_eq_getElem?_getD, h]; rfl
    rw [if_pos rfl, List.getElem?_map, List.getElem?_range hk]
    simp only [Option.map_some, e, List.length_map, List.length_range, if_pos hk, Option.some.injEq]
    rcases hc with rfl | rfl <;> simp [ds_fv, ds_si, va_up, upd]
  · have hne : i ≠ k := fun e => hi e.symm
    rw [if_neg hi]
    by_cases hl : i < fc.length
    · rw [List.getElem?_map, List.getElem?_map, List.getElem?_range hl]
      simp only [Option.map_some, Option.some.injEq]
      unfold ds_fv ds_si
      rcases fc.getD i 0 with _ | _ | _ | d <;> simp [va_up, upd, hne]
    · simp [hl]
theorem ds_fs_sl {ad : Nat → Nat} {T : Nat → Nat → Nat} {σ : ds_S} {c k : Nat} {fc : List Nat} {x : Int64} (h : fc[k]? = some 1) : ds_fs ad T (ds_sl σ c (vp_updL (σ.2 c) k x)) c fc = (ds_fs ad T σ c fc).set k (.long x) := by
  have hk : k < fc.length := (List.getElem?_eq_some_iff.mp h).1
  apply List.ext_getElem?
  intro i
  rw [List.getElem?_set]
  unfold ds_fs
  by_cases hi : k = i
  · subst hi
    have e : fc.getD k 0 = 1 := by rw [List.getD_eq_getElem?_getD, h]; rfl
    rw [if_pos rfl, List.getElem?_map, List.getElem?_range hk]
    simp only [Option.map_some, e, List.length_map, List.length_range, if_pos hk, Option.some.injEq]
    simp [ds_fv, ds_sl, va_up, vp_updL]
  · have hne : i ≠ k := fun e => hi e.symm
    rw [if_neg hi]
    by_cases hl : i < fc.length
    · rw [List.getElem?_map, List.getElem?_map, List.getElem?_range hl]
      simp only [Option.map_some, Option.some.injEq]
      unfold ds_fv ds_sl
      rcases fc.getD i 0 with _ | _ | _ | d <;> simp [va_up, vp_updL, hne]
    · simp [hl]
/-! locals -/
def ds_at : ds_L → Nat → Option Value
  | [], _ => none
  | x :: _, 0 => x
  | _ :: r, n + 1 => ds_at r n
/-- what is left of the slot ahead of one that is written -/
def ds_nl : Option Value → Option Value
  | some (.long _) => none
  | some (.double _) => none
  | x => x
def ds_put : ds_L → Nat → Value → ds_L
  | [], _, _ => []
  | _ :: r, 0, v => some v :: r
  | x :: r, 1, v => ds_nl x :: (match r with
    | [] => []
    | _ :: t => some v :: t)
  | x :: r, n + 2, v => x :: ds_put r (n + 1) v
def ds_un : ds_L → Nat → ds_L
  | [], _ => []
  | _ :: r, 0 => none :: r
  | x :: r, n + 1 => x :: ds_un r n
def ds_put2 (ls : ds_L) (i : Nat) (v : Value) : ds_L := ds_un (ds_put ls i v) (i + 1)
def ds_loc (ad : Nat → Nat) (lc : Array Slot) (nL : Nat) (ls : ds_L) : Prop := ls.length = nL ∧ lc.size = nL ∧ lv_wf lc ∧ ∀ i v, ds_at ls i = some v → lc[i]? = some (.val (ds_v ad v))
def ds_pr (ad : Nat → Nat) (ls : ds_L) : List (Nat × Value) := (List.range ls.length).filterMap (fun j => (ds_at ls j).map (fun v => (j, ds_v ad v)))
theorem ds_at_lt {ls : ds_L} {i : Nat} {v : Value} (h : ds_at ls i = some v) : i < ls.length := by
  induction ls generalizing i with
  | nil => simp [ds_at] at h
  | cons x r ih =>
    cases i with
    | zero => simp
    | succ n => simp only [ds_at] at h; simpa using ih h
theorem ds_pr_mem {ad : Nat → Nat} {ls : ds_L} {i : Nat} {v : Value} (h : ds_at ls i = some v) : (i, ds_v ad v) ∈ ds_pr ad ls := by
  refine List.mem_filterMap.mpr ⟨i, List.mem_range.mpr (ds_at_lt h), ?_⟩
  rw [h]
  rfl
theorem ds_pr_of {ad : Nat → Nat} {ls : ds_L} {q : Nat × Value} (h : q ∈ ds_pr ad ls) : ∃ v, ds_at ls q.1 = some v ∧ q.2 = ds_v ad v := by
  obtain ⟨j, -, hj⟩ := List.mem_filterMap.mp h
  cases hv : ds_at ls j with
  | none => rw [hv] at hj; cases hj
  | some v => rw [hv] at hj; cases hj; exact ⟨v, hv, rfl⟩
theorem ds_loc.has {ad : Nat → Nat} {lc : Array Slot} {nL : Nat} {ls : ds_L} (h : ds_loc ad lc nL ls) : lv_has lc nL (ds_pr ad ls) := by
  refine ⟨h.2.1, h.2.2.1, fun q hq => ?_⟩
  obtain ⟨v, h1, h2⟩ := ds_pr_of hq
  rw [h2]
  exact h.2.2.2 _ _ h1
theorem ds_put_len (ls : ds_L) (i : Nat) (v : Value) : (ds_put ls i v).length = ls.length := by
  induction ls generalizing i with
  | nil => cases i <;> rfl
  | cons x r ih =>
    match i with
    | 0 => rfl
    | 1 => cases r <;> rfl
    | n + 2 => simp [ds_put, ih]
theorem ds_un_len (ls : ds_L) (i : Nat) : (ds_un ls i).length = ls.length := by
  induction ls generalizing i with
  | nil => cases i <;> rfl
  | cons x r ih =>
    cases i with
    | zero => rfl
    | succ n => simp [ds_un, ih]
theorem ds_un_at {ls : ds_L} {i j : Nat} {v : Value} (h : ds_at (ds_un ls i) j = some v) : j ≠ i ∧ ds_at ls j = some v := by
  induction ls generalizing i j with
  | nil => cases i <;> simp [ds_un, ds_at] at h
  | cons x r ih =>
    cases i with
    | zero =>
      cases j with
      | zero => simp [ds_un, ds_at] at h
      | succ n => exact ⟨by omega, h⟩
    | succ m =>
      cases j with
      | zero => exact ⟨by omega, h⟩
      | succ n =>
        obtain ⟨h1, h2⟩ := ih (i := m) (j := n) h
        exact ⟨by omega, h2⟩
theorem ds_nl_some {x : Option Value} {v : Value} (h : ds_nl x = some v) : x = some v ∧ v.category = 1 := by
  cases x with
  | none => cases h
  | some w => cases w <;> first | (cases h; exact ⟨rfl, rfl⟩) | (exfalso; cases h)
theorem ds_put_at {ls : ds_L} {i j : Nat} {v w : Value} (h : ds_at (ds_put ls i v) j = some w) : (j = i ∧ w = v) ∨ (j ≠ i ∧ ds_at ls j = some w ∧ ¬ (j + 1 = i ∧ w.category = 2)) := by
  induction ls generalizing i j with
  | nil => cases i <;> cases j <;> simp [ds_put, ds_at] at h
  | cons x r ih =>
    match i with
    | 0 =>
      cases j with
      | zero => left; simp only [ds_put, ds_at, Option.some.injEq] at h; exact ⟨rfl, h.symm⟩
      | succ n => right; exact ⟨by omega, h, by omega⟩
    | 1 =>
      cases j with
      | zero =>
        right
        simp only [ds_put, ds_at] at h
        obtain ⟨h1, h2⟩ := ds_nl_some h
        exact ⟨by omega, h1, by omega⟩
      | succ n =>
        cases r with
        | nil => cases n <;> simp [ds_put, ds_at] at h
        | cons y t =>
          cases n with
          | zero => left; simp only [ds_put, ds_at, Option.some.injEq] at h; exact ⟨rfl, h.symm⟩
          | succ n => right; exact ⟨by omega, h, by omega⟩
    | m + 2 =>
      cases j with
      | zero => right; exact ⟨by omega, h, by omega⟩
      | succ n =>
        rcases ih (i := m + 1) (j := n) h with ⟨h1, h2⟩ | ⟨h1, h2, h3⟩
        · left; exact ⟨by omega, h2⟩
        · right; exact ⟨by omega, h2, fun q => h3 ⟨by omega, q.2⟩⟩
theorem ds_v_cat (ad : Nat → Nat) (v : Value) : (ds_v ad v).category = v.category := by cases v <;> rfl
theorem ds_loc.put {ad : Nat → Nat} {lc lc' : Array Slot} {nL : Nat} {ls : ds_L} {i : Nat} {v : Value} (h : ds_loc ad lc nL ls) (h' : lv_has lc' nL ((i, ds_v ad v) :: (ds_pr ad ls).filter (fun q => !(q.1 == i) && !(q.1 + 1 == i && q.2.category == 2)))) : ds_loc ad lc' nL (ds_put ls i v) := by
  refine ⟨by rw [ds_put_len]; exact h.1, h'.1, h'.2.1, fun j w hj => ?_⟩
  rcases ds_put_at hj with ⟨rfl, rfl⟩ | ⟨h1, h2, h3⟩
  · exact h'.2.2 _ List.mem_cons_self
  · refine h'.2.2 (j, ds_v ad w) (List.mem_cons_of_mem _ (List.mem_filter.mpr ⟨ds_pr_mem h2, ?_⟩))
    simp only [ds_v_cat]
    simp only [Bool.and_eq_true, Bool.not_eq_true', beq_eq_false_iff_ne, Bool.and_eq_false_iff]
    refine ⟨h1, ?_⟩
    by_cases hj1 : j + 1 = i
    · right; exact fun q => h3 ⟨hj1, q⟩
    · left; exact hj1
theorem ds_loc.put2 {ad : Nat → Nat} {lc lc' : Array Slot} {nL : Nat} {ls : ds_L} {i : Nat} {v : Value} (h : ds_loc ad lc nL ls) (h' : lv_has lc' nL ((i, ds_v ad v) :: (ds_pr ad ls).filter (fun q => !(q.1 == i) && (!(q.1 == i + 1) && !(q.1 + 1 == i && q.2.category == 2))))) : ds_loc ad lc' nL (ds_put2 ls i v) := by
  refine ⟨by rw [ds_put2, ds_un_len, ds_put_len]; exact h.1, h'.1, h'.2.1, fun j w hj => ?_⟩
  obtain ⟨h0, hj⟩ := ds_un_at hj
  rcases ds_put_at hj with ⟨rfl, rfl⟩ | ⟨h1, h2, h3⟩
  · exact h'.2.2 _ List.mem_cons_self
  · refine h'.2.2 (j, ds_v ad w) (List.mem_cons_of_mem _ (List.mem_filter.mpr ⟨ds_pr_mem h2, ?_⟩))
    simp only [ds_v_cat]
    simp only [Bool.and_eq_true, Bool.not_eq_true', beq_eq_false_iff_ne, Bool.and_eq_false_iff]
    refine ⟨h1, h0, ?_⟩
    by_cases hj1 : j + 1 = i
    · right; exact fun q => h3 ⟨hj1, q⟩
    · left; exact hj1
/-- the locals with which a method begins -/
def ds_en : List Value → ds_L
  | [] => []
  | v :: vs => if v.category = 2 then some v :: none :: ds_en vs else some v :: ds_en vs
def ds_pad (ls : ds_L) : Nat → ds_L
  | 0 => ls
  | n + 1 => ds_pad (ls ++ [none]) n
