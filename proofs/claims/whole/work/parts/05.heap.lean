section DSH
variable {y : ds_M} {Y : ds_Y} {pc : Nat} {ls : ds_L} {st : List Value} {σ : ds_S} {Q : Option Value → ds_S → Prop}
/-- a field's word is among the tables', its class's fields too -/
def ds_fld (y : ds_M) (idx ci k : Nat) : Prop := ∃ q : vw_C, vwCl[ci]? = some q ∧ k < q.2.2 ∧ q.2.2 = (ds_fc ci).length ∧ Cond.fieldLink y.1.cls idx (q.2.1 k).1 (q.2.1 k).2.1 (q.2.1 k).2.2.1 ∈ ds_T ∧ (∀ w ∈ u_ws q.1 q.2.1 q.2.2, w ∈ ds_T)
theorem ds_ci {ci : Nat} {q : vw_C} (h : vwCl[ci]? = some q) : ci < 10 := (List.getElem?_eq_some_iff.mp h).1
/-- getfield: what it reads is v -/
theorem ds_get {idx ci k code c : Nat} {v : Value} (hd : decode y.2.1 pc = .ok (.getfield idx, 3)) (hw : ds_fld y idx ci k) (hc : c < Y.1) (hk : Y.2.1 c = ci) (hf : (ds_fc ci)[k]? = some code) (hv : ∀ ad, ds_fv ad Y.2.2.2 σ c k code = ds_v ad v) (kk : ds_X y Y (pc + 3) ls (v :: st) σ Q) : ds_X y Y pc ls (.ref c :: st) σ Q := by
  intro p l e s m args below meth c' cy dC dI ad A C H locs hP hD hS lc hl
  have C0 := C
  obtain ⟨hx, hb, hml, hret, hlocks, hts, hown, hK, hN, hA⟩ := C
  obtain ⟨q, q1, q2, q3, q4, q5⟩ := hw
  have he := ds_w_at (cy := cy) (ad := ad) (σ := σ) hc
  rw [ds_e_obj hk (ds_ci q1)] at he
  refine va_get (D := (dC, dI)) (ci := ci) (v := ds_v ad v) (C := q.1) (T := q.2.1) (N := q.2.2) hx hb hts q5 hown hK hP c he q1 k q2 (hts _ q4) (fun _ h9 => h9) ?_ hd (kk p l e s m args below meth c' cy dC dI ad A C0 H locs hP hD hS lc hl)
  rw [← hv ad]
  exact ds_fs_at hf
theorem ds_getI {idx ci k code c : Nat} (hd : decode y.2.1 pc = .ok (.getfield idx, 3)) (hw : ds_fld y idx ci k) (hc : c < Y.1) (hk : Y.2.1 c = ci) (hf : (ds_fc ci)[k]? = some code) (hv : code = 0 ∨ code = 2) (kk : ds_X y Y (pc + 3) ls (.int (σ.1 c k) :: st) σ Q) : ds_X y Y pc ls (.ref c :: st) σ Q :=
  ds_get hd hw hc hk hf (fun ad => by rcases hv with rfl | rfl <;> rfl) kk
theorem ds_getL {idx ci k c : Nat} (hd : decode y.2.1 pc = .ok (.getfield idx, 3)) (hw : ds_fld y idx ci k) (hc : c < Y.1) (hk : Y.2.1 c = ci) (hf : (ds_fc ci)[k]? = some 1) (kk : ds_X y Y (pc + 3) ls (.long (σ.2 c k) :: st) σ Q) : ds_X y Y pc ls (.ref c :: st) σ Q :=
  ds_get hd hw hc hk hf (fun ad => rfl) kk
theorem ds_getR {idx ci k c : Nat} (hd : decode y.2.1 pc = .ok (.getfield idx, 3)) (hw : ds_fld y idx ci k) (hc : c < Y.1) (hk : Y.2.1 c = ci) (hf : (ds_fc ci)[k]? = some 3) (kk : ds_X y Y (pc + 3) ls (.ref (Y.2.2.2 c k) :: st) σ Q) : ds_X y Y pc ls (.ref c :: st) σ Q :=
  ds_get hd hw hc hk hf (fun ad => rfl) kk
/-- a field may be written: not final, of such a type -/
def ds_fldP (ci k : Nat) (ty : FieldType) : Prop := ∃ q : vw_C, vwCl[ci]? = some q ∧ (q.2.1 k).2.2.2 = false ∧ parseFieldDescriptor (q.2.1 k).2.2.1 = some ty ∧ (∃ ty0 : Nat → FieldType, ∀ k, k < q.2.2 → parseFieldDescriptor (q.2.1 k).2.2.1 = some (ty0 k)) ∧ ∀ a, a < q.2.2 → ∀ b, b < q.2.2 → a ≠ b → (q.2.1 a).2.1 ≠ (q.2.1 b).2.1
theorem ds_put0 {idx ci k c : Nat} {ty : FieldType} {v : Value} {σ' : ds_S} (hd : decode y.2.1 pc = .ok (.putfield idx, 3)) (hw : ds_fld y idx ci k) (hp : ds_fldP ci k ty) (hc : c < Y.1) (hk : Y.2.1 c = ci) (hn : ∀ ad, narrow ty (ds_v ad v) = ds_v ad v) (hfit : ∀ ad, fits ty (ds_v ad v) = true) (hfs : ∀ ad, ds_fs ad Y.2.2.2 σ' c (ds_fc ci) = (ds_fs ad Y.2.2.2 σ c (ds_fc ci)).set k (ds_v ad v)) (ho : ∀ cy ad b, b ≠ c → ds_e cy ad Y σ' b = ds_e cy ad Y σ b) (kk : ds_X y Y (pc + 3) ls st σ' Q) : ds_X y Y pc ls (v :: .ref c :: st) σ Q := by
  intro p l e s m args below meth c' cy dC dI ad A C H locs hP hD hS lc hl
  have C0 := C
  obtain ⟨hx, hb, hml, hret, hlocks, hts, hown, hK, hN, hA⟩ := C
  obtain ⟨q, q1, q2, q3, q4, q5⟩ := hw
  obtain ⟨q', g1, g2, g3, ⟨ty0, g4⟩, g5⟩ := hp
  obtain rfl : q = q' := Option.some.inj (q1.symm.trans g1)
  have he := ds_w_at (cy := cy) (ad := ad) (σ := σ) hc
  rw [ds_e_obj hk (ds_ci q1)] at he
  have hset : (ds_w cy ad Y σ).set c (ad c, .inr (ci, (ds_fs ad Y.2.2.2 σ c (ds_fc ci)).set k (ds_v ad v))) = ds_w cy ad Y σ' := ds_w_set (by rw [ds_e_obj hk (ds_ci q1), hfs]) (ho cy ad)
  refine va_put (D := (dC, dI)) (ci := ci) (v := ds_v ad v) (ty := ty) (C := q.1) (T := q.2.1) (N := q.2.2) hx hb hts q5 ty0 g4 g5 hown hK hP hD hS c he q1 k q2 (hts _ q4) (fun _ h9 => h9) g2 g3 (hn ad) (hfit ad) (by rw [ds_fs_len, ← q3]; exact q2) hd (fun H1 locs1 hP1 hD1 hS1 => ?_)
  rw [hset] at hP1 hD1
  exact kk p l e s m args below meth c' cy dC dI ad A C0 H1 locs1 hP1 hD1 hS1 lc hl
theorem ds_putI {idx ci k c : Nat} {x : Int32} (hd : decode y.2.1 pc = .ok (.putfield idx, 3)) (hw : ds_fld y idx ci k) (hp : ds_fldP ci k .int) (hc : c < Y.1) (hk : Y.2.1 c = ci) (hf : (ds_fc ci)[k]? = some 0) (kk : ds_X y Y (pc + 3) ls st (ds_si σ c (upd (σ.1 c) k x)) Q) : ds_X y Y pc ls (.int x :: .ref c :: st) σ Q :=
  ds_put0 hd hw hp hc hk (fun _ => rfl) (fun _ => rfl) (fun _ => ds_fs_si hf (Or.inl rfl)) (fun _ _ _ h => ds_e_si h) kk
theorem ds_putZ {idx ci k c : Nat} {x : Int32} (hd : decode y.2.1 pc = .ok (.putfield idx, 3)) (hw : ds_fld y idx ci k) (hp : ds_fldP ci k .boolean) (hc : c < Y.1) (hk : Y.2.1 c = ci) (hf : (ds_fc ci)[k]? = some 2) (h01 : x = 0 ∨ x = 1) (kk : ds_X y Y (pc + 3) ls st (ds_si σ c (upd (σ.1 c) k x)) Q) : ds_X y Y pc ls (.int x :: .ref c :: st) σ Q :=
  ds_put0 hd hw hp hc hk (fun _ => by rcases h01 with rfl | rfl <;> rfl) (fun _ => by rcases h01 with rfl | rfl <;> rfl) (fun _ => ds_fs_si hf (Or.inr rfl)) (fun _ _ _ h => ds_e_si h) kk
theorem ds_putL {idx ci k c : Nat} {x : Int64} (hd : decode y.2.1 pc = .ok (.putfield idx, 3)) (hw : ds_fld y idx ci k) (hp : ds_fldP ci k .long) (hc : c < Y.1) (hk : Y.2.1 c = ci) (hf : (ds_fc ci)[k]? = some 1) (kk : ds_X y Y (pc + 3) ls st (ds_sl σ c (vp_updL (σ.2 c) k x)) Q) : ds_X y Y pc ls (.long x :: .ref c :: st) σ Q :=
  ds_put0 hd hw hp hc hk (fun _ => rfl) (fun _ => rfl) (fun _ => ds_fs_sl hf) (fun _ _ _ h => ds_e_sl h) kk
/-! arrays -/
theorem ds_iald {c : Nat} {i : Int32} (hd : decode y.2.1 pc = .ok (.iaload, 1)) (hc : c < Y.1) (hk : Y.2.1 c = 10) (hin : vp_in i (Y.2.2.1 c)) (kk : ds_X y Y (pc + 1) ls (.int (σ.1 c i.toNatClampNeg) :: st) σ Q) : ds_X y Y pc ls (.int i :: .ref c :: st) σ Q := by
  intro p l e s m args below meth c' cy dC dI ad A C H locs hP hD hS lc hl
  have he := ds_w_at (cy := cy) (ad := ad) (σ := σ) hc
  rw [ds_e_int hk] at he
  exact va_iald C.1 C.2.1 C.2.2.2.2.2.2.2.1 hP c 0 he rfl hin hd (kk p l e s m args below meth c' cy dC dI ad A C H locs hP hD hS lc hl)
theorem ds_zald {c : Nat} {i : Int32} (hd : decode y.2.1 pc = .ok (.baload, 1)) (hc : c < Y.1) (hk : Y.2.1 c = 12) (hin : vp_in i (Y.2.2.1 c)) (kk : ds_X y Y (pc + 1) ls (.int (σ.1 c i.toNatClampNeg) :: st) σ Q) : ds_X y Y pc ls (.int i :: .ref c :: st) σ Q := by
  intro p l e s m args below meth c' cy dC dI ad A C H locs hP hD hS lc hl
  have he := ds_w_at (cy := cy) (ad := ad) (σ := σ) hc
  rw [ds_e_bool hk] at he
  exact va_zald C.1 C.2.1 C.2.2.2.2.2.2.2.1 hP c 2 he rfl hin hd (kk p l e s m args below meth c' cy dC dI ad A C H locs hP hD hS lc hl)
theorem ds_lald {c : Nat} {i : Int32} (hd : decode y.2.1 pc = .ok (.laload, 1)) (hc : c < Y.1) (hk : Y.2.1 c = 11) (hin : vp_in i (Y.2.2.1 c)) (kk : ds_X y Y (pc + 1) ls (.long (σ.2 c i.toNatClampNeg) :: st) σ Q) : ds_X y Y pc ls (.int i :: .ref c :: st) σ Q := by
  intro p l e s m args below meth c' cy dC dI ad A C H locs hP hD hS lc hl
  have he := ds_w_at (cy := cy) (ad := ad) (σ := σ) hc
  rw [ds_e_long hk] at he
  exact va_lald C.1 C.2.1 C.2.2.2.2.2.2.2.1 hP c 1 he rfl hin hd (kk p l e s m args below meth c' cy dC dI ad A C H locs hP hD hS lc hl)
theorem ds_aald {c : Nat} {i : Int32} (hd : decode y.2.1 pc = .ok (.aaload, 1)) (hc : c < Y.1) (hk : Y.2.1 c = 13 ∨ Y.2.1 c = 14) (hin : vp_in i (Y.2.2.1 c)) (kk : ds_X y Y (pc + 1) ls (.ref (Y.2.2.2 c i.toNatClampNeg) :: st) σ Q) : ds_X y Y pc ls (.int i :: .ref c :: st) σ Q := by
  intro p l e s m args below meth c' cy dC dI ad A C H locs hP hD hS lc hl
  have he := ds_w_at (cy := cy) (ad := ad) (σ := σ) hc
  have k2 := kk p l e s m args below meth c' cy dC dI ad A C H locs hP hD hS lc hl
  have hlt : i.toNatClampNeg < Y.2.2.1 c := Nat.not_le.mp fun q => hin (Or.inr q)
  rcases hk with hk | hk
  · rw [ds_e_ways hk] at he
    exact va_aldq C.1 C.2.1 C.2.2.2.2.2.2.2.1 hP c 3 he rfl hin hd k2
  · rw [ds_e_rows hk] at he
    exact W.aald (v := .ref (ad (Y.2.2.2 c i.toNatClampNeg))) (ty := .array .int) C.1 C.2.1 (hP c _ he) ((C.2.2.2.2.2.2.2.1.2 4 _ rfl).1 (Y.2.2.1 c) (fun j => va_rf (some (ad (Y.2.2.2 c j))))) rfl (fun q => by cases q) (by show ¬ (i < 0 ∨ (arrV _ _ _).slots.size ≤ _); rw [arrV_size]; exact hin) (by show (arrV _ _ _).slots[_]? = _; rw [arrV_read _ _ hlt]; rfl) rfl rfl hd k2
theorem ds_alen {c : Nat} {v : Int32} (hd : decode y.2.1 pc = .ok (.arraylength, 1)) (hc : c < Y.1) (hk : Y.2.1 c = 10 ∨ Y.2.1 c = 11) (hv : Int32.ofNat (Y.2.2.1 c) = v) (kk : ds_X y Y (pc + 1) ls (.int v :: st) σ Q) : ds_X y Y pc ls (.ref c :: st) σ Q := by
  intro p l e s m args below meth c' cy dC dI ad A C H locs hP hD hS lc hl
  have he := ds_w_at (cy := cy) (ad := ad) (σ := σ) hc
  have k2 := kk p l e s m args below meth c' cy dC dI ad A C H locs hP hD hS lc hl
  rcases hk with hk | hk
  · rw [ds_e_int hk] at he
    exact va_alen C.1 C.2.1 C.2.2.2.2.2.2.2.1 hP c 0 he rfl hv hd k2
  · rw [ds_e_long hk] at he
    exact va_alen C.1 C.2.1 C.2.2.2.2.2.2.2.1 hP c 1 he rfl hv hd k2
theorem ds_iast {c : Nat} {i x : Int32} (hd : decode y.2.1 pc = .ok (.iastore, 1)) (hc : c < Y.1) (hk : Y.2.1 c = 10) (hin : vp_in i (Y.2.2.1 c)) (kk : ds_X y Y (pc + 1) ls st (ds_si σ c (upd (σ.1 c) i.toNatClampNeg x)) Q) : ds_X y Y pc ls (.int x :: .int i :: .ref c :: st) σ Q := by
  intro p l e s m args below meth c' cy dC dI ad A C H locs hP hD hS lc hl
  have he := ds_w_at (cy := cy) (ad := ad) (σ := σ) hc
  rw [ds_e_int hk] at he
  have hset : (ds_w cy ad Y σ).set c (ad c, .inl (cy 10, Y.2.2.1 c, .inl (upd (σ.1 c) i.toNatClampNeg x))) = ds_w cy ad Y (ds_si σ c (upd (σ.1 c) i.toNatClampNeg x)) := ds_w_set (by rw [ds_e_int hk]; simp [ds_si, va_up]) (fun b h => ds_e_si h)
  refine va_iast C.1 C.2.1 C.2.2.2.2.2.2.2.1 hP hD hS c 0 he rfl hin hd (fun H1 locs1 hP1 hD1 hS1 => ?_)
  rw [hset] at hP1 hD1
  exact kk p l e s m args below meth c' cy dC dI ad A C H1 locs1 hP1 hD1 hS1 lc hl
theorem ds_zast {c : Nat} {i x : Int32} (hd : decode y.2.1 pc = .ok (.bastore, 1)) (hc : c < Y.1) (hk : Y.2.1 c = 12) (hin : vp_in i (Y.2.2.1 c)) (kk : ds_X y Y (pc + 1) ls st (ds_si σ c (upd (σ.1 c) i.toNatClampNeg (vp_nar .boolean x))) Q) : ds_X y Y pc ls (.int x :: .int i :: .ref c :: st) σ Q := by
  intro p l e s m args below meth c' cy dC dI ad A C H locs hP hD hS lc hl
  have he := ds_w_at (cy := cy) (ad := ad) (σ := σ) hc
  rw [ds_e_bool hk] at he
  have hset : (ds_w cy ad Y σ).set c (ad c, .inl (cy 12, Y.2.2.1 c, .inl (upd (σ.1 c) i.toNatClampNeg (vp_nar .boolean x)))) = ds_w cy ad Y (ds_si σ c (upd (σ.1 c) i.toNatClampNeg (vp_nar .boolean x))) := ds_w_set (by rw [ds_e_bool hk]; simp [ds_si, va_up]) (fun b h => ds_e_si h)
  refine va_zast C.1 C.2.1 C.2.2.2.2.2.2.2.1 hP hD hS c 2 he rfl hin hd (fun H1 locs1 hP1 hD1 hS1 => ?_)
  rw [hset] at hP1 hD1
  exact kk p l e s m args below meth c' cy dC dI ad A C H1 locs1 hP1 hD1 hS1 lc hl
theorem ds_last {c : Nat} {i : Int32} {x : Int64} (hd : decode y.2.1 pc = .ok (.lastore, 1)) (hc : c < Y.1) (hk : Y.2.1 c = 11) (hin : vp_in i (Y.2.2.1 c)) (kk : ds_X y Y (pc + 1) ls st (ds_sl σ c (vp_updL (σ.2 c) i.toNatClampNeg x)) Q) : ds_X y Y pc ls (.long x :: .int i :: .ref c :: st) σ Q := by
  intro p l e s m args below meth c' cy dC dI ad A C H locs hP hD hS lc hl
  have he := ds_w_at (cy := cy) (ad := ad) (σ := σ) hc
  rw [ds_e_long hk] at he
  have hset : (ds_w cy ad Y σ).set c (ad c, .inl (cy 11, Y.2.2.1 c, .inr (.inl (vp_updL (σ.2 c) i.toNatClampNeg x)))) = ds_w cy ad Y (ds_sl σ c (vp_updL (σ.2 c) i.toNatClampNeg x)) := ds_w_set (by rw [ds_e_long hk]; simp [ds_sl, va_up]) (fun b h => ds_e_sl h)
  refine va_last C.1 C.2.1 C.2.2.2.2.2.2.2.1 hP hD hS c 1 he rfl hin hd (fun H1 locs1 hP1 hD1 hS1 => ?_)
  rw [hset] at hP1 hD1
  exact kk p l e s m args below meth c' cy dC dI ad A C H1 locs1 hP1 hD1 hS1 lc hl
/-- System.arraycopy of int arrays -/
theorem ds_copy {idx a b : Nat} {sp dp n : Int32} (hd : decode y.2.1 pc = .ok (.invokestatic idx, 3)) (hl1 : Cond.methodLink y.1.cls idx arraycopyName ∈ ds_T) (hl2 : Cond.native arraycopyName ∈ ds_T) (hl3 : Cond.static arraycopyName ∈ ds_T) (hl4 : Cond.initialized "java/lang/System" ∈ ds_T) (ha : a < Y.1) (hka : Y.2.1 a = 10) (hb : b < Y.1) (hkb : Y.2.1 b = 10)
    (h1 : ¬ sp < 0) (h2 : ¬ dp < 0) (h3 : ¬ n < 0) (h4 : sp.toNatClampNeg + n.toNatClampNeg ≤ Y.2.2.1 a) (h5 : dp.toNatClampNeg + n.toNatClampNeg ≤ Y.2.2.1 b) (hfr : 1 ≤ y.2.2.2.2.1) (hlo : (st.map fun v => v.category).sum + 18 ≤ y.2.2.2.2.2)
    (kk : ds_X y Y (pc + 3) ls st (ds_si σ b (va_cpy (σ.1 a) (σ.1 b) sp.toNatClampNeg dp.toNatClampNeg n.toNatClampNeg)) Q) : ds_X y Y pc ls (.int n :: .int dp :: .ref b :: .int sp :: .ref a :: st) σ Q := by
  intro p l e s m args below meth c' cy dC dI ad A C H locs hP hD hS lc hl
  have C0 := C
  obtain ⟨hx, hb', hml, hret, hlocks, hts, hown, hK, hN, hA⟩ := C
  have hea := ds_w_at (cy := cy) (ad := ad) (σ := σ) ha
  rw [ds_e_int hka] at hea
  have heb := ds_w_at (cy := cy) (ad := ad) (σ := σ) hb
  rw [ds_e_int hkb] at heb
  have hset : (ds_w cy ad Y σ).set b (ad b, .inl (cy 10, Y.2.2.1 b, .inl (va_cpy (σ.1 a) (σ.1 b) sp.toNatClampNeg dp.toNatClampNeg n.toNatClampNeg))) = ds_w cy ad Y (ds_si σ b (va_cpy (σ.1 a) (σ.1 b) sp.toNatClampNeg dp.toNatClampNeg n.toNatClampNeg)) := ds_w_set (by rw [ds_e_int hkb]; simp [ds_si, va_up]) (fun b h => ds_e_si h)
  have hsum : ((st.map (ds_v ad)).map fun v => v.category).sum = (st.map fun v => v.category).sum := by
    rw [List.map_map]
    congr 1
    exact List.map_congr_left fun v _ => ds_v_cat ad v
  refine va_copyi hx hb' (by rw [hml, hl.2.1]) hown (hts _ hl1) (hts _ hl2) (hts _ hl3) (hts _ hl4) hK hP hD hS a b 0 0 hea heb rfl rfl rfl h1 h2 h3 h4 h5 (fun _ _ => rfl) hfr (by rw [hsum]; exact hlo) hd (fun H1 locs1 hP1 hD1 hS1 => ?_)
  rw [hset] at hP1 hD1
  exact kk p l e s m args below meth c' cy dC dI ad A C0 H1 locs1 hP1 hD1 hS1 lc hl
end DSH
