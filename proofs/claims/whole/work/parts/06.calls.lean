section DSC
variable {y z : ds_M} {Y : ds_Y} {pc : Nat} {ls : ds_L} {rest : List Value} {σ : ds_S} {Q : Option Value → ds_S → Prop}
theorem ds_blind {as : List Value} {cy : Nat → ClassId} {dC : Nat → ClassId} {dI : Nat → Nat → Nat} {ad : Nat → Nat} {sz : Nat} : FrameBlind (ds_Pc as cy dC dI ad Y σ sz) := by
  intro a U g mk q
  obtain ⟨q0, q1, qP, qK, qN, qD⟩ := q
  exact ⟨q0, q1, qP, va_K.moved (u := U) (U := U.calling g mk a) (Vm.Alike.refl U.vm) qK, qN.same rfl, qD⟩
theorem ds_catsum (ad : Nat → Nat) (st : List Value) : ((st.map (ds_v ad)).map fun v => v.category).sum = (st.map fun v => v.category).sum := by
  rw [List.map_map]
  congr 1
  exact List.map_congr_left fun v _ => ds_v_cat ad v
/-- behind a call: what came back goes on -/
theorem ds_after {p : Program} {l : Launch} {e : Env} {s : State} {m : MethodId} {args : Array Value} {below : List Frame} {meth : Method} {c : Code} {cy : Nat → ClassId} {dC : Nat → ClassId} {dI : Nat → Nat → Nat} {ad : Nat → Nat} {A : Nat → Prop} {H : Heap} {locs : List Loc} {lc : Array Slot} {st0 : List Value} {a : Array Value} (C : ds_C y p s m args meth c cy dC dI A) (hD : va_D A (ds_w cy ad Y σ)) (hS : va_S A s.heap H locs) (hl : ds_loc ad lc y.2.2.1 ls)
    (hr : va_Run p l e (ds_rm y) s m args below meth c H locs 0 0 0 0 (F0 m pc lc st0) (rest.map (ds_v ad)) (ds_Q z.2.2.2.1 (fun r σ' => ds_X y Y (pc + 3) ls (r.toList ++ rest) σ' Q) cy dC dI ad (va_A (ds_w cy ad Y σ) H.size) Y a) (va_A (ds_w cy ad Y σ) H.size)) :
    W p l e (ds_rm y) s m args below meth c H locs 0 0 (MQ below (ds_Q y.2.2.2.1 Q cy dC dI ad A Y) args s 0 0 A) (F0 m pc lc st0) := by
  have hsub : ∀ q, va_A (ds_w cy ad Y σ) H.size q → A q := by
    intro q hq
    rcases hq with ⟨k, x, h⟩ | h
    · exact hD.2 k _ h
    · exact C.2.2.2.2.2.2.2.2.2 q (Nat.le_trans hS.1 h)
  have go : ∀ (r : Option Value) (σ' : ds_S) (t : State) (H1 : Heap) (locs1 : List Loc), t.heap = H1 → s.vm.Alike t.vm → ds_X y Y (pc + 3) ls (r.toList ++ rest) σ' Q → ds_B cy dC dI ad (va_A (ds_w cy ad Y σ) H.size) Y σ' t → va_S A s.heap H1 locs1 → W p l e (ds_rm y) s m args below meth c H1 locs1 0 0 (MQ below (ds_Q y.2.2.2.1 Q cy dC dI ad A Y) args s 0 0 A) (F0 m (pc + 3) lc ((r.toList ++ rest).map (ds_v ad))) := by
    intro r σ' t H1 locs1 ht hvm hX hB hS1
    obtain ⟨hP1, hK1, hD1⟩ := hB
    rw [ht] at hP1
    exact hX p l e s m args below meth c cy dC dI ad A C H1 locs1 hP1 (hD1.weaken (fun k q _ h => hsub q.1 h)) hS1 lc hl
  generalize z.2.2.2.1 = rt at hr
  have hi : ∀ {rt : Option FieldType}, ds_Q rt (fun r σ' => ds_X y Y (pc + 3) ls (r.toList ++ rest) σ' Q) cy dC dI ad (va_A (ds_w cy ad Y σ) H.size) Y = va_Qi (fun r σ' => ds_X y Y (pc + 3) ls ((some (Value.int r)).toList ++ rest) σ' Q) (ds_B cy dC dI ad (va_A (ds_w cy ad Y σ) H.size) Y) (va_A (ds_w cy ad Y σ) H.size) → va_Run p l e (ds_rm y) s m args below meth c H locs 0 0 0 0 (F0 m pc lc st0) (rest.map (ds_v ad)) (ds_Q rt (fun r σ' => ds_X y Y (pc + 3) ls (r.toList ++ rest) σ' Q) cy dC dI ad (va_A (ds_w cy ad Y σ) H.size) Y a) (va_A (ds_w cy ad Y σ) H.size) → W p l e (ds_rm y) s m args below meth c H locs 0 0 (MQ below (ds_Q y.2.2.2.1 Q cy dC dI ad A Y) args s 0 0 A) (F0 m pc lc st0) := by
    intro rt e1 hr
    rw [e1] at hr
    refine va_calli hr hS (fun q _ h => hsub q h) hsub (fun r u t H1 locs1 ht hvm hw hB hz1 hk1 hS1 => ?_)
    exact go (some (.int r)) u t H1 locs1 ht hvm hw hB hS1
  cases rt with
  | none =>
    refine va_callv (a := a) (post := fun σ' => ds_X y Y (pc + 3) ls ((none : Option Value).toList ++ rest) σ' Q) (B := ds_B cy dC dI ad (va_A (ds_w cy ad Y σ) H.size) Y) hr hS (fun q _ h => hsub q h) hsub (fun u t H1 locs1 ht hvm hw hB hz1 hk1 hS1 => ?_)
    exact go none u t H1 locs1 ht hvm hw hB hS1
  | some ty =>
    cases ty with
    | long =>
      refine va_calll (a := a) (post := fun r σ' => ds_X y Y (pc + 3) ls ((some (Value.long r)).toList ++ rest) σ' Q) (B := ds_B cy dC dI ad (va_A (ds_w cy ad Y σ) H.size) Y) hr hS (fun q _ h => hsub q h) hsub (fun r u t H1 locs1 ht hvm hw hB hz1 hk1 hS1 => ?_)
      exact go (some (.long r)) u t H1 locs1 ht hvm hw hB hS1
    | object cn =>
      refine va_callr (a := a) (post := fun u : ds_S × Nat => ds_X y Y (pc + 3) ls ((some (Value.ref u.2)).toList ++ rest) u.1 Q) (B := fun u a t => a = ad u.2 ∧ ds_B cy dC dI ad (va_A (ds_w cy ad Y σ) H.size) Y u.1 t) hr hS (fun q _ h => hsub q h) hsub (fun u ra t H1 locs1 ht hvm hw hB hz1 hk1 hS1 => ?_)
      obtain ⟨rfl, hB⟩ := hB
      exact go (some (.ref u.2)) u.1 t H1 locs1 ht hvm hw hB hS1
    | _ => exact hi rfl hr
/-- what a call needs of the tables and of the room -/
def ds_cw (y z : ds_M) (n : Nat) : Prop := Cond.code z.1 z.2.1 z.2.2.1 z.2.2.2.1 ∈ ds_T ∧ Cond.initialized z.1.cls ∈ ds_T ∧ (z.1.cls ≠ "java/lang/invoke/MethodHandle" ∧ z.1.cls ≠ "java/lang/invoke/VarHandle" ∧ (parseMethodDescriptor z.1.desc).map (fun d => d.parameters.length) = some n) ∧ z.2.2.2.2.1 + 1 ≤ y.2.2.2.2.1 ∧ 8 + (z.2.2.1 + 11) + z.2.2.2.2.2 ≤ y.2.2.2.2.2
theorem ds_pre {p : Program} {s : State} {m : MethodId} {args : Array Value} {meth : Method} {c : Code} {cy : Nat → ClassId} {dC : Nat → ClassId} {dI : Nat → Nat → Nat} {ad : Nat → Nat} {A : Nat → Prop} {H : Heap} (as : List Value) (C : ds_C y p s m args meth c cy dC dI A) (hP : va_P (dC, dI) vwCl (ds_w cy ad Y σ) H) (hD : va_D A (ds_w cy ad Y σ)) (U : State) (hU : U.heap = H) (hW : s.WarmedH U.vm) : ds_Pc as cy dC dI ad Y σ H.size (as.map (ds_v ad)).toArray U :=
  ⟨rfl, by rw [hU], by rw [hU]; exact hP, va_K.moved hW.alike C.2.2.2.2.2.2.2.1, C.2.2.2.2.2.2.2.2.1.warm hW, hD.weaken (fun _ _ _ _ => trivial)⟩
/-- invokevirtual -/
theorem ds_callV {idx ci b : Nat} {as : List Value} (hd : decode y.2.1 pc = .ok (.invokevirtual idx, 3)) (hE : ds_E z Y (.ref b :: as) σ (fun r σ' => ds_X y Y (pc + 3) ls (r.toList ++ rest) σ' Q)) (hw : ds_cw y z as.length) (hl1 : Cond.methodLink y.1.cls idx z.1 ∈ ds_T) (hl2 : Cond.instanceMethod z.1 ∈ ds_T) (hl3 : Cond.selects z.1.cls z.1 z.1 ∈ ds_T) (hb : b < Y.1) (hk : Y.2.1 b = ci) (hq : ∃ q : vw_C, vwCl[ci]? = some q ∧ q.1 = z.1.cls) (hsum : (rest.map fun v => v.category).sum ≤ 8) : ds_X y Y pc ls (as.reverse ++ .ref b :: rest) σ Q := by
  intro p l e s m args below meth c cy dC dI ad A C H locs hP hD hS lc hl
  have C0 := C
  obtain ⟨hx, hb', hml, hret, hlocks, hts, hown, hK, hN, hA⟩ := C
  obtain ⟨w1, w2, w3, w4, w5⟩ := hw
  obtain ⟨q, q1, q2⟩ := hq
  have he := ds_w_at (cy := cy) (ad := ad) (σ := σ) hb
  rw [ds_e_obj hk (ds_ci q1)] at he
  have hrec := va_recv hK hP q1 he
  rw [q2] at hrec
  have cw : CallW (ds_rm y) s args y.1.cls z.1.cls idx z.1 z.2.1 z.2.2.1 z.2.2.2.1 (ds_ws z) (ds_rm z) 0 0 as.length := ⟨callB_of as.length hts (ds_T_good w1) rfl rfl rfl (hts _ w2) (hts _ hl1) w3 ⟨w4, w5⟩, hts _ hl2, hts _ hl3⟩
  have hr := va_runV (p := p) (e := e) (below := below) (meth := meth) (H := H) (locs := locs) (cells := 0) (slots := 0) (nL := y.2.2.1) (cc := y.2.1) (Ts := ds_T) (As := as.map (ds_v ad)) (b := ad b) (rest := rest.map (ds_v ad)) (g := F0 m pc lc ((as.reverse ++ .ref b :: rest).map (ds_v ad))) ⟨hx, hb', hml, hown, hts⟩ (hE l cy dC dI ad H.size) cw ⟨ds_blind, hrec, fun U hU hW => ds_pre (.ref b :: as) C0 hP hD U hU hW⟩ rfl (by simp) hl.2.1 (by simp [ds_v]) (lv_room (by rw [ds_catsum]; exact hsum)) hd ⟨Nat.le_refl _, Nat.le_refl _⟩
  exact ds_after C0 hD hS hl hr
/-- invokestatic -/
theorem ds_callS {idx : Nat} {as : List Value} (hd : decode y.2.1 pc = .ok (.invokestatic idx, 3)) (hE : ds_E z Y as σ (fun r σ' => ds_X y Y (pc + 3) ls (r.toList ++ rest) σ' Q)) (hw : ds_cw y z as.length) (hl1 : Cond.methodLink y.1.cls idx z.1 ∈ ds_T) (hl2 : Cond.static z.1 ∈ ds_T) (hsum : (rest.map fun v => v.category).sum ≤ 8) : ds_X y Y pc ls (as.reverse ++ rest) σ Q := by
  intro p l e s m args below meth c cy dC dI ad A C H locs hP hD hS lc hl
  have C0 := C
  obtain ⟨hx, hb', hml, hret, hlocks, hts, hown, hK, hN, hA⟩ := C
  obtain ⟨w1, w2, w3, w4, w5⟩ := hw
  have cw : CallB (ds_rm y) s args y.1.cls idx z.1 z.2.1 z.2.2.1 z.2.2.2.1 (ds_ws z) (ds_rm z) 0 0 as.length ∧ (Cond.static z.1).before args s = true := ⟨callB_of as.length hts (ds_T_good w1) rfl rfl rfl (hts _ w2) (hts _ hl1) w3 ⟨w4, w5⟩, hts _ hl2⟩
  have hr := va_runS (p := p) (e := e) (below := below) (meth := meth) (H := H) (locs := locs) (cells := 0) (slots := 0) (nL := y.2.2.1) (cc := y.2.1) (Ts := ds_T) (As := as.map (ds_v ad)) (rest := rest.map (ds_v ad)) (g := F0 m pc lc ((as.reverse ++ rest).map (ds_v ad))) ⟨hx, hb', hml, hown, hts⟩ (hE l cy dC dI ad H.size) cw ⟨ds_blind, fun U hU hW => ds_pre as C0 hP hD U hU hW⟩ rfl (by simp) hl.2.1 (by simp) (lv_room (by rw [ds_catsum]; exact hsum)) hd ⟨Nat.le_refl _, Nat.le_refl _⟩
  exact ds_after C0 hD hS hl hr
/-- invokestatic of a nest mate's private method -/
theorem ds_callN {idx : Nat} {as : List Value} (hd : decode y.2.1 pc = .ok (.invokestatic idx, 3)) (hE : ds_E z Y as σ (fun r σ' => ds_X y Y (pc + 3) ls (r.toList ++ rest) σ' Q)) (hw : ds_cw y z as.length) (hl1 : (y.1.cls, idx, z.1) ∈ ds_N) (hl2 : Cond.static z.1 ∈ ds_T) (hsum : (rest.map fun v => v.category).sum ≤ 8) : ds_X y Y pc ls (as.reverse ++ rest) σ Q := by
  intro p l e s m args below meth c cy dC dI ad A C H locs hP hD hS lc hl
  have C0 := C
  obtain ⟨hx, hb', hml, hret, hlocks, hts, hown, hK, hN, hA⟩ := C
  obtain ⟨w1, w2, w3, w4, w5⟩ := hw
  have cw : va_CN (ds_rm y) s args y.1.cls idx z.1 "WayWeights" z.2.1 z.2.2.1 z.2.2.2.1 (ds_ws z) (ds_rm z) 0 0 as.length ∧ (Cond.static z.1).before args s = true ∧ True := ⟨va_cnB as.length hts (ds_T_good w1) rfl rfl rfl (hN _ hl1) (hts _ w2) w3 ⟨w4, w5⟩, hts _ hl2, trivial⟩
  have hr := va_runSN (p := p) (e := e) (below := below) (meth := meth) (H := H) (locs := locs) (cells := 0) (slots := 0) (nL := y.2.2.1) (cc := y.2.1) (Ts := ds_T) (As := as.map (ds_v ad)) (rest := rest.map (ds_v ad)) (g := F0 m pc lc ((as.reverse ++ rest).map (ds_v ad))) ⟨hx, hb', hml, hown, hts⟩ (hE l cy dC dI ad H.size) cw ⟨ds_blind, fun U hU hW => ds_pre as C0 hP hD U hU hW⟩ rfl (by simp) hl.2.1 (by simp) (lv_room (by rw [ds_catsum]; exact hsum)) hd ⟨Nat.le_refl _, Nat.le_refl _⟩
  exact ds_after C0 hD hS hl hr
end DSC
