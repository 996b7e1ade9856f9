/-- a cell is of a kind -/
def ds_k (Y : ds_Y) (c k : Nat) : Prop := c < Y.1 ∧ Y.2.1 c = k
def ds_all : List Prop → Prop
  | [] => True
  | p :: r => p ∧ ds_all r
theorem ds_all_app {a b : List Prop} (h : ds_all (a ++ b)) : ds_all a ∧ ds_all b := by
  induction a with
  | nil => exact ⟨trivial, h⟩
  | cons p r ih => exact ⟨⟨h.1, (ih h.2).1⟩, (ih h.2).2⟩
abbrev ds_O : Type := Option (ds_L × List Value × ds_S × List Prop)
/-- loads of locals -/
def ds_ld (ls : ds_L) (st : List Value) (σ : ds_S) (t : Value → Bool) (n : Nat) : ds_O := match ds_at ls n with
  | some v => if t v = true then some (ls, v :: st, σ, []) else none
  | none => none
def ds_ti : Value → Bool
  | .int _ => true
  | _ => false
def ds_tl : Value → Bool
  | .long _ => true
  | _ => false
def ds_tr : Value → Bool
  | .ref _ => true
  | _ => false
def ds_t1 (v : Value) : Bool := ds_ti v || ds_tr v
def ds_sto (ls : ds_L) (st : List Value) (σ : ds_S) (t : Value → Bool) (n : Nat) : ds_O := match st with
  | v :: r => if t v = true ∧ n < ls.length then some (ds_put ls n v, r, σ, []) else none
  | [] => none
def ds_sto2 (ls : ds_L) (st : List Value) (σ : ds_S) (n : Nat) : ds_O := match st with
  | .long x :: r => if n + 1 < ls.length then some (ds_put2 ls n (.long x), r, σ, []) else none
  | _ => none
def ds_b32 (f : Int32 → Int32 → Int32) (g : Int32 → List Prop) (ls : ds_L) (st : List Value) (σ : ds_S) : ds_O := match st with
  | .int z :: .int x :: r => some (ls, .int (f x z) :: r, σ, g z)
  | _ => none
def ds_b64 (f : Int64 → Int64 → Int64) (g : Int64 → List Prop) (ls : ds_L) (st : List Value) (σ : ds_S) : ds_O := match st with
  | .long z :: .long x :: r => some (ls, .long (f x z) :: r, σ, g z)
  | _ => none
def ds_rd (Y : ds_Y) (f : Nat → Nat → Value) (k : Nat) (ls : ds_L) (st : List Value) (σ : ds_S) : ds_O := match st with
  | .int i :: .ref c :: r => some (ls, f c i.toNatClampNeg :: r, σ, [ds_k Y c k, vp_in i (Y.2.2.1 c)])
  | _ => none
def ds_gf (Y : ds_Y) (ci k : Nat) (ls : ds_L) (st : List Value) (σ : ds_S) : ds_O := match st with
  | .ref c :: r => (match (ds_fc ci)[k]? with
    | some 0 => some (ls, .int (σ.1 c k) :: r, σ, [ds_k Y c ci])
    | some 1 => some (ls, .long (σ.2 c k) :: r, σ, [ds_k Y c ci])
    | some 2 => some (ls, .int (σ.1 c k) :: r, σ, [ds_k Y c ci])
    | some 3 => some (ls, .ref (Y.2.2.2 c k) :: r, σ, [ds_k Y c ci])
    | _ => none)
  | _ => none
def ds_pf (Y : ds_Y) (ci k : Nat) (ls : ds_L) (st : List Value) (σ : ds_S) : ds_O := match st with
  | .int x :: .ref c :: r => (match (ds_fc ci)[k]? with
    | some 0 => some (ls, r, ds_si σ c (upd (σ.1 c) k x), [ds_k Y c ci])
    | some 2 => some (ls, r, ds_si σ c (upd (σ.1 c) k x), [ds_k Y c ci, x = 0 ∨ x = 1])
    | _ => none)
  | .long x :: .ref c :: r => (match (ds_fc ci)[k]? with
    | some 1 => some (ls, r, ds_sl σ c (vp_updL (σ.2 c) k x), [ds_k Y c ci])
    | _ => none)
  | _ => none
/-- one instruction that goes on to the next -/
def ds_step (Y : ds_Y) (i : ds_I) (ls : ds_L) (st : List Value) (σ : ds_S) : ds_O := match i.2.1 with
  | .iconst _ => some (ls, i.2.2.2.2.2.2 :: st, σ, [])
  | .bipush _ => some (ls, i.2.2.2.2.2.2 :: st, σ, [])
  | .sipush _ => some (ls, i.2.2.2.2.2.2 :: st, σ, [])
  | .lconst _ => some (ls, i.2.2.2.2.2.2 :: st, σ, [])
  | .ldc _ => some (ls, i.2.2.2.2.2.2 :: st, σ, [])
  | .ldc2_w _ => some (ls, i.2.2.2.2.2.2 :: st, σ, [])
  | .iload n => ds_ld ls st σ ds_ti n
  | .iload_n n => ds_ld ls st σ ds_ti n
  | .lload n => ds_ld ls st σ ds_tl n
  | .lload_n n => ds_ld ls st σ ds_tl n
  | .aload n => ds_ld ls st σ ds_tr n
  | .aload_n n => ds_ld ls st σ ds_tr n
  | .istore n => ds_sto ls st σ ds_ti n
  | .istore_n n => ds_sto ls st σ ds_ti n
  | .astore n => ds_sto ls st σ ds_tr n
  | .astore_n n => ds_sto ls st σ ds_tr n
  | .lstore n => ds_sto2 ls st σ n
  | .lstore_n n => ds_sto2 ls st σ n
  | .iinc n _ => (match ds_at ls n, i.2.2.2.2.2.2 with
    | some (.int x), .int v => some (ds_put ls n (.int (x + v)), st, σ, [])
    | _, _ => none)
  | .iadd => ds_b32 (fun x z => x + z) (fun _ => []) ls st σ
  | .isub => ds_b32 (fun x z => x - z) (fun _ => []) ls st σ
  | .imul => ds_b32 (fun x z => x * z) (fun _ => []) ls st σ
  | .iand => ds_b32 (fun x z => x &&& z) (fun _ => []) ls st σ
  | .ior => ds_b32 (fun x z => x ||| z) (fun _ => []) ls st σ
  | .ixor => ds_b32 (fun x z => x ^^^ z) (fun _ => []) ls st σ
  | .ishl => ds_b32 (fun x z => x <<< (z &&& 31)) (fun _ => []) ls st σ
  | .ishr => ds_b32 (fun x z => x >>> (z &&& 31)) (fun _ => []) ls st σ
  | .idiv => ds_b32 (fun x z => x / z) (fun z => [¬ z = 0]) ls st σ
  | .irem => ds_b32 (fun x z => x - x / z * z) (fun z => [¬ z = 0]) ls st σ
  | .ladd => ds_b64 (fun x z => x + z) (fun _ => []) ls st σ
  | .lsub => ds_b64 (fun x z => x - z) (fun _ => []) ls st σ
  | .lmul => ds_b64 (fun x z => x * z) (fun _ => []) ls st σ
  | .ldiv => ds_b64 (fun x z => x / z) (fun z => [¬ z = 0]) ls st σ
  | .lrem => ds_b64 (fun x z => x - x / z * z) (fun z => [¬ z = 0]) ls st σ
  | .lcmp => (match st with
    | .long z :: .long x :: r => some (ls, .int (lg_cmp x z) :: r, σ, [])
    | _ => none)
  | .ineg => (match st with
    | .int x :: r => some (ls, .int (-x) :: r, σ, [])
    | _ => none)
  | .lneg => (match st with
    | .long x :: r => some (ls, .long (-x) :: r, σ, [])
    | _ => none)
  | .i2l => (match st with
    | .int x :: r => some (ls, .long x.toInt64 :: r, σ, [])
    | _ => none)
  | .l2i => (match st with
    | .long x :: r => some (ls, .int x.toInt32 :: r, σ, [])
    | _ => none)
  | .dup => (match st with
    | v :: r => if ds_t1 v = true then some (ls, v :: v :: r, σ, []) else none
    | _ => none)
  | .dup2 => (match st with
    | v :: w :: r => if ds_t1 v = true ∧ ds_t1 w = true then some (ls, v :: w :: v :: w :: r, σ, []) else none
    | _ => none)
  | .getfield _ => ds_gf Y i.2.2.2.1 i.2.2.2.2.1 ls st σ
  | .putfield _ => ds_pf Y i.2.2.2.1 i.2.2.2.2.1 ls st σ
  | .iaload => ds_rd Y (fun c j => .int (σ.1 c j)) 10 ls st σ
  | .baload => ds_rd Y (fun c j => .int (σ.1 c j)) 12 ls st σ
  | .laload => ds_rd Y (fun c j => .long (σ.2 c j)) 11 ls st σ
  | .aaload => ds_rd Y (fun c j => .ref (Y.2.2.2 c j)) i.2.2.2.1 ls st σ
  | .arraylength => (match st with
    | .ref c :: r => some (ls, .int (Int32.ofNat (Y.2.2.1 c)) :: r, σ, [ds_k Y c i.2.2.2.1])
    | _ => none)
  | .iastore => (match st with
    | .int x :: .int j :: .ref c :: r => some (ls, r, ds_si σ c (upd (σ.1 c) j.toNatClampNeg x), [ds_k Y c 10, vp_in j (Y.2.2.1 c)])
    | _ => none)
  | .bastore => (match st with
    | .int x :: .int j :: .ref c :: r => some (ls, r, ds_si σ c (upd (σ.1 c) j.toNatClampNeg (vp_nar .boolean x)), [ds_k Y c 12, vp_in j (Y.2.2.1 c)])
    | _ => none)
  | .lastore => (match st with
    | .long x :: .int j :: .ref c :: r => some (ls, r, ds_sl σ c (vp_updL (σ.2 c) j.toNatClampNeg x), [ds_k Y c 11, vp_in j (Y.2.2.1 c)])
    | _ => none)
  | _ => none
/-- what the tables and the bytes must say of it -/
def ds_okx (y : ds_M) (i : ds_I) : Prop := match i.2.1 with
  | .iconst n => i.2.2.1 = 1 ∧ i.2.2.2.2.2.2 = .int (Int32.ofInt n)
  | .bipush n => i.2.2.1 = 2 ∧ i.2.2.2.2.2.2 = .int (Int8.ofInt n).toInt32
  | .sipush n => i.2.2.1 = 3 ∧ i.2.2.2.2.2.2 = .int (Int16.ofInt n).toInt32
  | .lconst n => i.2.2.1 = 1 ∧ i.2.2.2.2.2.2 = .long (Int64.ofNat n)
  | .ldc n => i.2.2.1 = 2 ∧ ∃ v, i.2.2.2.2.2.2 = .int v ∧ Cond.constant y.1.cls n v ∈ ds_T
  | .ldc2_w n => i.2.2.1 = 3 ∧ ∃ v, i.2.2.2.2.2.2 = .long v ∧ Cond.constantLong y.1.cls n v ∈ ds_T
  | .iload _ => i.2.2.1 = 2
  | .lload _ => i.2.2.1 = 2
  | .aload _ => i.2.2.1 = 2
  | .istore _ => i.2.2.1 = 2
  | .lstore _ => i.2.2.1 = 2
  | .astore _ => i.2.2.1 = 2
  | .iinc _ n => i.2.2.1 = 3 ∧ i.2.2.2.2.2.2 = .int (Int32.ofInt n)
  | .getfield idx => i.2.2.1 = 3 ∧ ds_fld y idx i.2.2.2.1 i.2.2.2.2.1
  | .putfield idx => i.2.2.1 = 3 ∧ ds_fld y idx i.2.2.2.1 i.2.2.2.2.1 ∧ ((ds_fc i.2.2.2.1)[i.2.2.2.2.1]? = some 0 → ds_fldP i.2.2.2.1 i.2.2.2.2.1 .int) ∧ ((ds_fc i.2.2.2.1)[i.2.2.2.2.1]? = some 1 → ds_fldP i.2.2.2.1 i.2.2.2.2.1 .long) ∧ ((ds_fc i.2.2.2.1)[i.2.2.2.2.1]? = some 2 → ds_fldP i.2.2.2.1 i.2.2.2.2.1 .boolean)
  | .aaload => i.2.2.1 = 1 ∧ (i.2.2.2.1 = 13 ∨ i.2.2.2.1 = 14)
  | .arraylength => i.2.2.1 = 1 ∧ (i.2.2.2.1 = 10 ∨ i.2.2.2.1 = 11)
  | .goto _ => True
  | .ifCond _ _ => True
  | .if_icmp _ _ => True
  | .invokevirtual _ => True
  | .invokestatic _ => True
  | .tableswitch _ _ _ _ => True
  | _ => i.2.2.1 = 1
def ds_ok (y : ds_M) (i : ds_I) : Prop := decode y.2.1 i.1 = .ok (i.2.1, i.2.2.1) ∧ ds_okx y i
theorem ds_t1_cat {v : Value} (h : ds_t1 v = true) : v.category = 1 := by cases v <;> first | rfl | cases h
theorem ds_ld_some {ls ls' : ds_L} {st st' : List Value} {σ σ' : ds_S} {t : Value → Bool} {n : Nat} {ob : List Prop} (h : ds_ld ls st σ t n = some (ls', st', σ', ob)) : ∃ v, ds_at ls n = some v ∧ t v = true ∧ ls' = ls ∧ st' = v :: st ∧ σ' = σ := by
  unfold ds_ld at h
  cases hv : ds_at ls n with
  | none => rw [hv] at h; cases h
  | some v =>
    rw [hv] at h
    by_cases ht : t v = true
    · simp only [if_pos ht, Option.some.injEq, Prod.mk.injEq] at h
      exact ⟨v, rfl, ht, h.1.symm, h.2.1.symm, h.2.2.1.symm⟩
    · simp only [if_neg ht] at h; cases h
theorem ds_sto_some {ls ls' : ds_L} {st st' : List Value} {σ σ' : ds_S} {t : Value → Bool} {n : Nat} {ob : List Prop} (h : ds_sto ls st σ t n = some (ls', st', σ', ob)) : ∃ v, st = v :: st' ∧ t v = true ∧ n < ls.length ∧ ls' = ds_put ls n v ∧ σ' = σ := by
  unfold ds_sto at h
  cases st with
  | nil => cases h
  | cons v r =>
    by_cases ht : t v = true ∧ n < ls.length
    · simp only [if_pos ht, Option.some.injEq, Prod.mk.injEq] at h
      exact ⟨v, by rw [h.2.1], ht.1, ht.2, h.1.symm, h.2.2.1.symm⟩
    · simp only [if_neg ht] at h; cases h
theorem ds_sto2_some {ls ls' : ds_L} {st st' : List Value} {σ σ' : ds_S} {n : Nat} {ob : List Prop} (h : ds_sto2 ls st σ n = some (ls', st', σ', ob)) : ∃ x, st = .long x :: st' ∧ n + 1 < ls.length ∧ ls' = ds_put2 ls n (.long x) ∧ σ' = σ := by
  unfold ds_sto2 at h
  split at h
  · next x r =>
    by_cases ht : n + 1 < ls.length
    · simp only [if_pos ht, Option.some.injEq, Prod.mk.injEq] at h
      exact ⟨x, by rw [h.2.1], ht, h.1.symm, h.2.2.1.symm⟩
    · simp only [if_neg ht] at h; cases h
  · cases h
theorem ds_b32_some {f : Int32 → Int32 → Int32} {g : Int32 → List Prop} {ls ls' : ds_L} {st st' : List Value} {σ σ' : ds_S} {ob : List Prop} (h : ds_b32 f g ls st σ = some (ls', st', σ', ob)) : ∃ z x r, st = .int z :: .int x :: r ∧ st' = .int (f x z) :: r ∧ ls' = ls ∧ σ' = σ ∧ ob = g z := by
  unfold ds_b32 at h
  split at h
  · next z x r =>
    simp only [Option.some.injEq, Prod.mk.injEq] at h
    exact ⟨z, x, r, rfl, h.2.1.symm, h.1.symm, h.2.2.1.symm, h.2.2.2.symm⟩
  · cases h
theorem ds_b64_some {f : Int64 → Int64 → Int64} {g : Int64 → List Prop} {ls ls' : ds_L} {st st' : List Value} {σ σ' : ds_S} {ob : List Prop} (h : ds_b64 f g ls st σ = some (ls', st', σ', ob)) : ∃ z x r, st = .long z :: .long x :: r ∧ st' = .long (f x z) :: r ∧ ls' = ls ∧ σ' = σ ∧ ob = g z := by
  unfold ds_b64 at h
  split at h
  · next z x r =>
    simp only [Option.some.injEq, Prod.mk.injEq] at h
    exact ⟨z, x, r, rfl, h.2.1.symm, h.1.symm, h.2.2.1.symm, h.2.2.2.symm⟩
  · cases h
theorem ds_rd_some {Y : ds_Y} {f : Nat → Nat → Value} {k : Nat} {ls ls' : ds_L} {st st' : List Value} {σ σ' : ds_S} {ob : List Prop} (h : ds_rd Y f k ls st σ = some (ls', st', σ', ob)) : ∃ i c r, st = .int i :: .ref c :: r ∧ st' = f c i.toNatClampNeg :: r ∧ ls' = ls ∧ σ' = σ ∧ ob = [ds_k Y c k, vp_in i (Y.2.2.1 c)] := by
  unfold ds_rd at h
  split at h
  · next i c r =>
    simp only [Option.some.injEq, Prod.mk.injEq] at h
    exact ⟨i, c, r, rfl, h.2.1.symm, h.1.symm, h.2.2.1.symm, h.2.2.2.symm⟩
  · cases h
theorem ds_ti_e {v : Value} (h : ds_ti v = true) : ∃ x, v = .int x := by cases v <;> first | exact ⟨_, rfl⟩ | cases h
theorem ds_tl_e {v : Value} (h : ds_tl v = true) : ∃ x, v = .long x := by cases v <;> first | exact ⟨_, rfl⟩ | cases h
theorem ds_tr_e {v : Value} (h : ds_tr v = true) : ∃ x, v = .ref x := by cases v <;> first | exact ⟨_, rfl⟩ | cases h
set_option maxHeartbeats 4000000 in
theorem ds_step_ok {y : ds_M} {Y : ds_Y} {i : ds_I} {ls ls' : ds_L} {st st' : List Value} {σ σ' : ds_S} {ob : List Prop} {Q : Option Value → ds_S → Prop} (hok : ds_ok y i) (h : ds_step Y i ls st σ = some (ls', st', σ', ob)) (hob : ds_all ob) (k : ds_X y Y (i.1 + i.2.2.1) ls' st' σ' Q) : ds_X y Y i.1 ls st σ Q := by
  obtain ⟨hd, hx⟩ := hok
  obtain ⟨pc, ins, len, r1, r2, r3, v⟩ := i
  dsimp only at hd hx k ⊢
  unfold ds_step at h
  unfold ds_okx at hx
  dsimp only at h hx
  cases ins
  case iconst n =>
    obtain ⟨rfl, rfl⟩ := hx
    cases h
    exact ds_iconst hd rfl k
  case bipush n =>
    obtain ⟨rfl, rfl⟩ := hx
    cases h
    exact ds_bipush hd rfl k
  case sipush n =>
    obtain ⟨rfl, rfl⟩ := hx
    cases h
    exact ds_sipush hd rfl k
  case lconst n =>
    obtain ⟨rfl, rfl⟩ := hx
    cases h
    exact ds_lconst hd rfl k
  case ldc n =>
    obtain ⟨rfl, w, rfl, hw⟩ := hx
    cases h
    exact ds_ldc hd hw k
  case ldc2_w n =>
    obtain ⟨rfl, w, rfl, hw⟩ := hx
    cases h
    exact ds_ldc2 hd hw k
  case iload n =>
    subst hx
    obtain ⟨w, h1, h2, rfl, rfl, rfl⟩ := ds_ld_some h
    obtain ⟨x, rfl⟩ := ds_ti_e h2
    exact ds_iload hd h1 k
  case iload_n n =>
    subst hx
    obtain ⟨w, h1, h2, rfl, rfl, rfl⟩ := ds_ld_some h
    obtain ⟨x, rfl⟩ := ds_ti_e h2
    exact ds_iload_n hd h1 k
  case lload n =>
    subst hx
    obtain ⟨w, h1, h2, rfl, rfl, rfl⟩ := ds_ld_some h
    obtain ⟨x, rfl⟩ := ds_tl_e h2
    exact ds_lload hd h1 k
  case lload_n n =>
    subst hx
    obtain ⟨w, h1, h2, rfl, rfl, rfl⟩ := ds_ld_some h
    obtain ⟨x, rfl⟩ := ds_tl_e h2
    exact ds_lload_n hd h1 k
  case aload n =>
    subst hx
    obtain ⟨w, h1, h2, rfl, rfl, rfl⟩ := ds_ld_some h
    obtain ⟨x, rfl⟩ := ds_tr_e h2
    exact ds_aload hd h1 k
  case aload_n n =>
    subst hx
    obtain ⟨w, h1, h2, rfl, rfl, rfl⟩ := ds_ld_some h
    obtain ⟨x, rfl⟩ := ds_tr_e h2
    exact ds_aload_n hd h1 k
  case istore n =>
    subst hx
    obtain ⟨w, rfl, h2, h3, rfl, rfl⟩ := ds_sto_some h
    obtain ⟨x, rfl⟩ := ds_ti_e h2
    exact ds_istore hd h3 k
  case istore_n n =>
    subst hx
    obtain ⟨w, rfl, h2, h3, rfl, rfl⟩ := ds_sto_some h
    obtain ⟨x, rfl⟩ := ds_ti_e h2
    exact ds_istore_n hd h3 k
  case astore n =>
    subst hx
    obtain ⟨w, rfl, h2, h3, rfl, rfl⟩ := ds_sto_some h
    obtain ⟨x, rfl⟩ := ds_tr_e h2
    exact ds_astore hd h3 k
  case astore_n n =>
    subst hx
    obtain ⟨w, rfl, h2, h3, rfl, rfl⟩ := ds_sto_some h
    obtain ⟨x, rfl⟩ := ds_tr_e h2
    exact ds_astore_n hd h3 k
  case lstore n =>
    subst hx
    obtain ⟨x, rfl, h3, rfl, rfl⟩ := ds_sto2_some h
    exact ds_lstore hd h3 k
  case lstore_n n =>
    subst hx
    obtain ⟨x, rfl, h3, rfl, rfl⟩ := ds_sto2_some h
    exact ds_lstore_n hd h3 k
  case iinc n z =>
    try dsimp only at h
    obtain ⟨rfl, rfl⟩ := hx
    split at h
    · next x w h1 h2 =>
      cases h2
      cases h
      exact ds_iinc hd rfl h1 k
    · cases h
  case iadd =>
    subst hx
    obtain ⟨z, x, r, rfl, rfl, rfl, rfl, rfl⟩ := ds_b32_some h
    exact ds_iadd hd k
  case isub =>
    subst hx
    obtain ⟨z, x, r, rfl, rfl, rfl, rfl, rfl⟩ := ds_b32_some h
    exact ds_isub hd k
  case imul =>
    subst hx
    obtain ⟨z, x, r, rfl, rfl, rfl, rfl, rfl⟩ := ds_b32_some h
    exact ds_imul hd k
  case iand =>
    subst hx
    obtain ⟨z, x, r, rfl, rfl, rfl, rfl, rfl⟩ := ds_b32_some h
    exact ds_iand hd k
  case ior =>
    subst hx
    obtain ⟨z, x, r, rfl, rfl, rfl, rfl, rfl⟩ := ds_b32_some h
    exact ds_ior hd k
  case ixor =>
    subst hx
    obtain ⟨z, x, r, rfl, rfl, rfl, rfl, rfl⟩ := ds_b32_some h
    exact ds_ixor hd k
  case ishl =>
    subst hx
    obtain ⟨z, x, r, rfl, rfl, rfl, rfl, rfl⟩ := ds_b32_some h
    exact ds_ishl hd k
  case ishr =>
    subst hx
    obtain ⟨z, x, r, rfl, rfl, rfl, rfl, rfl⟩ := ds_b32_some h
    exact ds_ishr hd k
  case idiv =>
    subst hx
    obtain ⟨z, x, r, rfl, rfl, rfl, rfl, rfl⟩ := ds_b32_some h
    exact ds_idiv hd hob.1 k
  case irem =>
    subst hx
    obtain ⟨z, x, r, rfl, rfl, rfl, rfl, rfl⟩ := ds_b32_some h
    exact ds_irem hd hob.1 k
  case ladd =>
    subst hx
    obtain ⟨z, x, r, rfl, rfl, rfl, rfl, rfl⟩ := ds_b64_some h
    exact ds_ladd hd k
  case lsub =>
    subst hx
    obtain ⟨z, x, r, rfl, rfl, rfl, rfl, rfl⟩ := ds_b64_some h
    exact ds_lsub hd k
  case lmul =>
    subst hx
    obtain ⟨z, x, r, rfl, rfl, rfl, rfl, rfl⟩ := ds_b64_some h
    exact ds_lmul hd k
  case ldiv =>
    subst hx
    obtain ⟨z, x, r, rfl, rfl, rfl, rfl, rfl⟩ := ds_b64_some h
    exact ds_ldiv hd hob.1 k
  case lrem =>
    subst hx
    obtain ⟨z, x, r, rfl, rfl, rfl, rfl, rfl⟩ := ds_b64_some h
    exact ds_lrem hd hob.1 k
  case lcmp =>
    try dsimp only at h
    subst hx
    split at h
    · cases h
      exact ds_lcmp hd k
    · cases h
  case ineg =>
    try dsimp only at h
    subst hx
    split at h
    · cases h
      exact ds_ineg hd k
    · cases h
  case lneg =>
    try dsimp only at h
    subst hx
    split at h
    · cases h
      exact ds_lneg hd k
    · cases h
  case i2l =>
    try dsimp only at h
    subst hx
    split at h
    · cases h
      exact ds_i2l hd k
    · cases h
  case l2i =>
    try dsimp only at h
    subst hx
    split at h
    · cases h
      exact ds_l2i hd k
    · cases h
  case dup =>
    try dsimp only at h
    subst hx
    split at h
    · next w r =>
      by_cases hw : ds_t1 w = true
      · rw [if_pos hw] at h; cases h; exact ds_dup hd (ds_t1_cat hw) k
      · rw [if_neg hw] at h; cases h
    · cases h
  case dup2 =>
    try dsimp only at h
    subst hx
    split at h
    · next w u r =>
      by_cases hw : ds_t1 w = true ∧ ds_t1 u = true
      · rw [if_pos hw] at h; cases h; exact ds_dup2 hd (ds_t1_cat hw.1) (ds_t1_cat hw.2) k
      · rw [if_neg hw] at h; cases h
    · cases h
  case getfield n =>
    try dsimp only at h
    obtain ⟨rfl, hw⟩ := hx
    unfold ds_gf at h
    split at h
    · next c r =>
      split at h
      · next hf => cases h; exact ds_getI hd hw hob.1.1 hob.1.2 hf (Or.inl rfl) k
      · next hf => cases h; exact ds_getL hd hw hob.1.1 hob.1.2 hf k
      · next hf => cases h; exact ds_getI hd hw hob.1.1 hob.1.2 hf (Or.inr rfl) k
      · next hf => cases h; exact ds_getR hd hw hob.1.1 hob.1.2 hf k
      · cases h
    · cases h
  case putfield n =>
    try dsimp only at h
    obtain ⟨rfl, hw, p0, p1, p2⟩ := hx
    unfold ds_pf at h
    split at h
    · next x c r =>
      split at h
      · next hf => cases h; exact ds_putI hd hw (p0 hf) hob.1.1 hob.1.2 hf k
      · next hf => cases h; exact ds_putZ hd hw (p2 hf) hob.1.1 hob.1.2 hf hob.2.1 k
      · cases h
    · next x c r =>
      split at h
      · next hf => cases h; exact ds_putL hd hw (p1 hf) hob.1.1 hob.1.2 hf k
      · cases h
    · cases h
  case iaload =>
    subst hx
    obtain ⟨j, c, r, rfl, rfl, rfl, rfl, rfl⟩ := ds_rd_some h
    exact ds_iald hd hob.1.1 hob.1.2 hob.2.1 k
  case baload =>
    subst hx
    obtain ⟨j, c, r, rfl, rfl, rfl, rfl, rfl⟩ := ds_rd_some h
    exact ds_zald hd hob.1.1 hob.1.2 hob.2.1 k
  case laload =>
    subst hx
    obtain ⟨j, c, r, rfl, rfl, rfl, rfl, rfl⟩ := ds_rd_some h
    exact ds_lald hd hob.1.1 hob.1.2 hob.2.1 k
  case aaload =>
    obtain ⟨rfl, hr⟩ := hx
    obtain ⟨j, c, r, rfl, rfl, rfl, rfl, rfl⟩ := ds_rd_some h
    exact ds_aald hd hob.1.1 (by rw [hob.1.2]; exact hr) hob.2.1 k
  case arraylength =>
    try dsimp only at h
    obtain ⟨rfl, hr⟩ := hx
    split at h
    · cases h
      exact ds_alen hd hob.1.1 (by rw [hob.1.2]; exact hr) rfl k
    · cases h
  case iastore =>
    try dsimp only at h
    subst hx
    split at h
    · cases h
      exact ds_iast hd hob.1.1 hob.1.2 hob.2.1 k
    · cases h
  case bastore =>
    try dsimp only at h
    subst hx
    split at h
    · cases h
      exact ds_zast hd hob.1.1 hob.1.2 hob.2.1 k
    · cases h
  case lastore =>
    try dsimp only at h
    subst hx
    split at h
    · cases h
      exact ds_last hd hob.1.1 hob.1.2 hob.2.1 k
    · cases h
  all_goals cases h
