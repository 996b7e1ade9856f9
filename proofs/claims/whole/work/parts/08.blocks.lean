/-- n instructions, one behind the other -/
def ds_run (Y : ds_Y) : Nat → List ds_I → ds_L → List Value → ds_S → ds_O
  | 0, _, ls, st, σ => some (ls, st, σ, [])
  | _ + 1, [], _, _, _ => none
  | n + 1, i :: is, ls, st, σ => match ds_step Y i ls st σ with
    | none => none
    | some (ls1, st1, σ1, ob) => match ds_run Y n is ls1 st1 σ1 with
      | none => none
      | some (ls2, st2, σ2, ob2) => some (ls2, st2, σ2, ob ++ ob2)
def ds_pc : List ds_I → Nat
  | [] => 0
  | i :: _ => i.1
def ds_sq (i : ds_I) : List ds_I → Bool
  | [] => true
  | j :: _ => decide (j.1 = i.1 + i.2.2.1)
def ds_seq : List ds_I → Bool
  | [] => true
  | i :: r => ds_sq i r && ds_seq r
def ds_good (y : ds_M) (is : List ds_I) : Prop := (∀ i ∈ is, ds_ok y i) ∧ ds_seq is = true
theorem ds_good.tail {y : ds_M} {i : ds_I} {is : List ds_I} (h : ds_good y (i :: is)) : ds_good y is := by
  refine ⟨fun j hj => h.1 j (List.mem_cons_of_mem _ hj), ?_⟩
  have h2 := h.2
  rw [ds_seq, Bool.and_eq_true] at h2
  exact h2.2
theorem ds_good.drop {y : ds_M} {is : List ds_I} (h : ds_good y is) (n : Nat) : ds_good y (is.drop n) := by
  induction n generalizing is with
  | zero => exact h
  | succ n ih =>
    cases is with
    | nil => exact h
    | cons i r => exact ih h.tail
theorem ds_go {y : ds_M} {Y : ds_Y} {Q : Option Value → ds_S → Prop} : ∀ (n : Nat) (is : List ds_I) (ls ls2 : ds_L) (st st2 : List Value) (σ σ2 : ds_S) (ob : List Prop), ds_good y is → ds_run Y n is ls st σ = some (ls2, st2, σ2, ob) → (is.drop n).isEmpty = false → ds_all ob → ds_X y Y (ds_pc (is.drop n)) ls2 st2 σ2 Q → ds_X y Y (ds_pc is) ls st σ Q := by
  intro n
  induction n with
  | zero =>
    intro is ls ls2 st st2 σ σ2 ob hg hr he hob k
    simp only [ds_run, Option.some.injEq, Prod.mk.injEq] at hr
    obtain ⟨rfl, rfl, rfl, rfl⟩ := hr
    exact k
  | succ n ih =>
    intro is ls ls2 st st2 σ σ2 ob hg hr he hob k
    cases is with
    | nil => simp [ds_run] at hr
    | cons i r =>
      rw [ds_run] at hr
      cases h1 : ds_step Y i ls st σ with
      | none => rw [h1] at hr; cases hr
      | some q =>
        obtain ⟨ls1, st1, σ1, ob1⟩ := q
        rw [h1] at hr
        dsimp only at hr
        cases h2 : ds_run Y n r ls1 st1 σ1 with
        | none => rw [h2] at hr; cases hr
        | some q =>
          obtain ⟨ls3, st3, σ3, ob3⟩ := q
          rw [h2] at hr
          simp only [Option.some.injEq, Prod.mk.injEq] at hr
          obtain ⟨rfl, rfl, rfl, rfl⟩ := hr
          obtain ⟨hb1, hb2⟩ := ds_all_app hob
          have hX := ih r ls1 ls3 st1 st3 σ1 σ3 ob3 hg.tail h2 he hb2 k
          refine ds_step_ok (hg.1 i List.mem_cons_self) h1 hb1 ?_
          have hseq := hg.2
          cases r with
          | nil =>
            cases n with
            | zero => simp at he
            | succ n => simp [ds_run] at h2
          | cons j t =>
            rw [ds_seq, Bool.and_eq_true] at hseq
            have e : j.1 = i.1 + i.2.2.1 := of_decide_eq_true hseq.1
            rw [← e]
            exact hX
/-- a block of a method's instructions, from its a-th on -/
theorem ds_blk {y : ds_M} {Y : ds_Y} {Q : Option Value → ds_S → Prop} {prog : List ds_I} (hg : ds_good y prog) (a n pc pc2 : Nat) {ls ls2 : ds_L} {st st2 : List Value} {σ σ2 : ds_S} (ob : List Prop) (h1 : ds_pc (prog.drop a) = pc) (h2 : ds_pc ((prog.drop a).drop n) = pc2) (he : ((prog.drop a).drop n).isEmpty = false) (hr : ds_run Y n (prog.drop a) ls st σ = some (ls2, st2, σ2, ob)) (hob : ds_all ob) (k : ds_X y Y pc2 ls2 st2 σ2 Q) : ds_X y Y pc ls st σ Q := by
  subst h1; subst h2
  exact ds_go n (prog.drop a) ls ls2 st st2 σ σ2 ob (hg.drop a) hr he hob k
/-- how the a-th instruction decodes -/
theorem ds_dec {y : ds_M} {prog : List ds_I} (hg : ds_good y prog) (a : Nat) {i : ds_I} (h : prog[a]? = some i) : decode y.2.1 i.1 = .ok (i.2.1, i.2.2.1) := (hg.1 i (List.mem_of_getElem? h)).1
/-! the check of a method's instructions, by a program -/
theorem ds_usT : ∀ (ci : Nat) (q : vw_C), vwCl[ci]? = some q → ∀ w ∈ u_ws q.1 q.2.1 q.2.2, w ∈ ds_T := by
  have good : ∀ (C : String) (T : u_T) (N : Nat), ∀ w ∈ u_ws C T N, goodWord w = true := by
    intro C T N w hw
    obtain ⟨k, -, rfl⟩ := List.mem_map.mp hw
    unfold u_lay
    split <;> rfl
  have key : ∀ (C : String) (T : u_T) (N : Nat), (∀ w ∈ u_ws C T N, w ∈ lw_tbl) → ∀ w ∈ u_ws C T N, w ∈ ds_T := fun C T N h w hw => List.mem_filter.mpr ⟨h w hw, good C T N w hw⟩
  intro ci q h
  match ci, h with
  | 0, h => cases h; exact key _ _ _ inX0
  | 1, h => cases h; exact key _ _ _ inX1
  | 2, h => cases h; exact key _ _ _ inX2
  | 3, h => cases h; exact key _ _ _ inX3
  | 4, h => cases h; exact key _ _ _ inX4
  | 5, h => cases h; exact key _ _ _ inX5
  | 6, h => cases h; exact key _ _ _ inX6
  | 7, h => cases h; exact key _ _ _ inX7
  | 8, h => cases h; exact key _ _ _ inX8
  | 9, h => cases h; exact key _ _ _ inX9
  | ci + 10, h => simp [vwCl] at h
theorem ds_nmT : ∀ (ci : Nat) (q : vw_C), vwCl[ci]? = some q → (∃ ty0 : Nat → FieldType, ∀ k, k < q.2.2 → parseFieldDescriptor (q.2.1 k).2.2.1 = some (ty0 k)) ∧ ∀ a, a < q.2.2 → ∀ b, b < q.2.2 → a ≠ b → (q.2.1 a).2.1 ≠ (q.2.1 b).2.1 := by
  intro ci q h
  match ci, h with
  | 0, h => cases h; exact ⟨⟨_, tyX0_ok⟩, nmX0⟩
  | 1, h => cases h; exact ⟨⟨_, tyX1_ok⟩, nmX1⟩
  | 2, h => cases h; exact ⟨⟨_, tyX2_ok⟩, nmX2⟩
  | 3, h => cases h; exact ⟨⟨_, tyX3_ok⟩, nmX3⟩
  | 4, h => cases h; exact ⟨⟨_, tyX4_ok⟩, nmX4⟩
  | 5, h => cases h; exact ⟨⟨_, tyX5_ok⟩, nmX5⟩
  | 6, h => cases h; exact ⟨⟨_, tyX6_ok⟩, nmX6⟩
  | 7, h => cases h; exact ⟨⟨_, tyX7_ok⟩, nmX7⟩
  | 8, h => cases h; exact ⟨⟨_, tyX8_ok⟩, nmX8⟩
  | 9, h => cases h; exact ⟨⟨_, tyX9_ok⟩, nmX9⟩
  | ci + 10, h => simp [vwCl] at h
def ds_wb (p : Nat) (w : Cond) : Bool := decide (lw_tbl[p]? = some w) && goodWord w
theorem ds_wb_T {p : Nat} {w : Cond} (h : ds_wb p w = true) : w ∈ ds_T := by
  simp only [ds_wb, Bool.and_eq_true, decide_eq_true_eq] at h
  exact ds_T_of h.1 h.2
def ds_fb (own : String) (idx ci k p : Nat) : Bool := match vwCl[ci]? with
  | some q => decide (k < q.2.2) && decide (q.2.2 = (ds_fc ci).length) && ds_wb p (.fieldLink own idx (q.2.1 k).1 (q.2.1 k).2.1 (q.2.1 k).2.2.1)
  | none => false
theorem ds_fb_ok {y : ds_M} {idx ci k p : Nat} (h : ds_fb y.1.cls idx ci k p = true) : ds_fld y idx ci k := by
  unfold ds_fb at h
  split at h
  · next q hq =>
    simp only [Bool.and_eq_true, decide_eq_true_eq] at h
    exact ⟨q, hq, h.1.1, h.1.2, ds_wb_T h.2, ds_usT ci q hq⟩
  · cases h
def ds_pb (ci k : Nat) (ty : FieldType) : Bool := match vwCl[ci]? with
  | some q => !(q.2.1 k).2.2.2 && decide (parseFieldDescriptor (q.2.1 k).2.2.1 = some ty)
  | none => false
theorem ds_pb_ok {ci k : Nat} {ty : FieldType} (h : ds_pb ci k ty = true) : ds_fldP ci k ty := by
  unfold ds_pb at h
  split at h
  · next q hq =>
    simp only [Bool.and_eq_true, decide_eq_true_eq, Bool.not_eq_true'] at h
    exact ⟨q, hq, h.1, h.2, (ds_nmT ci q hq).1, (ds_nmT ci q hq).2⟩
  · cases h
def ds_okb (own : String) (bytes : ByteArray) (i : ds_I) : Bool := decide (decode bytes i.1 = .ok (i.2.1, i.2.2.1)) && (match i.2.1 with
  | .iconst n => decide (i.2.2.1 = 1) && decide (i.2.2.2.2.2.2 = .int (Int32.ofInt n))
  | .bipush n => decide (i.2.2.1 = 2) && decide (i.2.2.2.2.2.2 = .int (Int8.ofInt n).toInt32)
  | .sipush n => decide (i.2.2.1 = 3) && decide (i.2.2.2.2.2.2 = .int (Int16.ofInt n).toInt32)
  | .lconst n => decide (i.2.2.1 = 1) && decide (i.2.2.2.2.2.2 = .long (Int64.ofNat n))
  | .ldc n => decide (i.2.2.1 = 2) && (match i.2.2.2.2.2.2 with
    | .int v => ds_wb i.2.2.2.2.2.1 (.constant own n v)
    | _ => false)
  | .ldc2_w n => decide (i.2.2.1 = 3) && (match i.2.2.2.2.2.2 with
    | .long v => ds_wb i.2.2.2.2.2.1 (.constantLong own n v)
    | _ => false)
  | .iload _ => decide (i.2.2.1 = 2)
  | .lload _ => decide (i.2.2.1 = 2)
  | .aload _ => decide (i.2.2.1 = 2)
  | .istore _ => decide (i.2.2.1 = 2)
  | .lstore _ => decide (i.2.2.1 = 2)
  | .astore _ => decide (i.2.2.1 = 2)
  | .iinc _ n => decide (i.2.2.1 = 3) && decide (i.2.2.2.2.2.2 = .int (Int32.ofInt n))
  | .getfield idx => decide (i.2.2.1 = 3) && ds_fb own idx i.2.2.2.1 i.2.2.2.2.1 i.2.2.2.2.2.1
  | .putfield idx => decide (i.2.2.1 = 3) && ds_fb own idx i.2.2.2.1 i.2.2.2.2.1 i.2.2.2.2.2.1 && (match (ds_fc i.2.2.2.1)[i.2.2.2.2.1]? with
    | some 0 => ds_pb i.2.2.2.1 i.2.2.2.2.1 .int
    | some 1 => ds_pb i.2.2.2.1 i.2.2.2.2.1 .long
    | some 2 => ds_pb i.2.2.2.1 i.2.2.2.2.1 .boolean
    | _ => false)
  | .aaload => decide (i.2.2.1 = 1) && (decide (i.2.2.2.1 = 13) || decide (i.2.2.2.1 = 14))
  | .arraylength => decide (i.2.2.1 = 1) && (decide (i.2.2.2.1 = 10) || decide (i.2.2.2.1 = 11))
  | .goto _ => true
  | .ifCond _ _ => true
  | .if_icmp _ _ => true
  | .invokevirtual _ => true
  | .invokestatic _ => true
  | .tableswitch _ _ _ _ => true
  | _ => decide (i.2.2.1 = 1))
set_option maxHeartbeats 4000000 in
theorem ds_okb_ok {y : ds_M} {i : ds_I} (h : ds_okb y.1.cls y.2.1 i = true) : ds_ok y i := by
  unfold ds_okb at h
  rw [Bool.and_eq_true] at h
  obtain ⟨h1, h⟩ := h
  refine ⟨of_decide_eq_true h1, ?_⟩
  clear h1
  obtain ⟨pc, ins, len, r1, r2, r3, v⟩ := i
  unfold ds_okx
  dsimp only at h ⊢
  cases ins
  case iconst n => simpa using h
  case bipush n => simpa using h
  case sipush n => simpa using h
  case lconst n => simpa using h
  case ldc n =>
    dsimp only at h ⊢
    rw [Bool.and_eq_true] at h
    refine ⟨of_decide_eq_true h.1, ?_⟩
    cases v
    case int v => exact ⟨v, rfl, ds_wb_T h.2⟩
    all_goals cases h.2
  case ldc2_w n =>
    dsimp only at h ⊢
    rw [Bool.and_eq_true] at h
    refine ⟨of_decide_eq_true h.1, ?_⟩
    cases v
    case long v => exact ⟨v, rfl, ds_wb_T h.2⟩
    all_goals cases h.2
  case iinc n z => simpa using h
  case getfield idx =>
    dsimp only at h ⊢
    rw [Bool.and_eq_true] at h
    exact ⟨of_decide_eq_true h.1, ds_fb_ok h.2⟩
  case putfield idx =>
    dsimp only at h ⊢
    rw [Bool.and_eq_true, Bool.and_eq_true] at h
    refine ⟨of_decide_eq_true h.1.1, ds_fb_ok h.1.2, fun e => ?_, fun e => ?_, fun e => ?_⟩
    · have h2 := h.2; rw [e] at h2; exact ds_pb_ok h2
    · have h2 := h.2; rw [e] at h2; exact ds_pb_ok h2
    · have h2 := h.2; rw [e] at h2; exact ds_pb_ok h2
  case aaload => simpa using h
  case arraylength => simpa using h
  all_goals first | trivial | exact of_decide_eq_true h
theorem ds_good_of {y : ds_M} {is : List ds_I} (h : is.all (ds_okb y.1.cls y.2.1) = true) (hs : ds_seq is = true) : ds_good y is := ⟨fun i hi => ds_okb_ok (List.all_eq_true.mp h i hi), hs⟩
theorem ds_all_and {a b : List ds_I} {f : ds_I → Bool} (ha : a.all f = true) (hb : b.all f = true) : (a ++ b).all f = true := by rw [List.all_append, ha, hb]; rfl
