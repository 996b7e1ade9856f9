theorem di_arrV {cI : ClassId} {N : Nat} {f g : Nat → Value} (h : ∀ j, j < N → f j = g j) : arrV cI N f = arrV cI N g := by
  have e : (fun j : Fin N => f j.val) = fun j => g j.val := funext fun j => h j.val j.isLt
  unfold arrV
  rw [e]
section DIR2
variable {y : ds_M} {mc ms : Nat} {cy : Nat → ClassId} {Q : va_W → Prop} {pc : Nat} {lv : List (Nat × Value)} {st : List Value} {k n : Nat} {w : va_W}
theorem di_putE {idx ci j a : Nat} {ty : FieldType} {v : Value} {fs : List Value} {tl : va_W} (fs' : List Value) (hd : decode y.2.1 pc = .ok (.putfield idx, 3)) (hw : ds_fld y idx ci j) (hp : di_fp y ci j ty) (hn : narrow ty v = v) (hfit : fits ty v = true) (hlen : j < fs.length) (he : fs.set j v = fs') (kk : di_X y mc ms cy Q (pc + 3) lv st k n ((a, .inr (ci, fs')) :: tl)) : di_X y mc ms cy Q pc lv (v :: .ref a :: st) k n ((a, .inr (ci, fs)) :: tl) :=
  di_put hd hw hp hn hfit hlen (by rw [he]; exact kk)
/-- new int[3][36] -/
theorem di_mna {idx : Nat} {x : Nat × va_E} {tl : va_W} (hz : Nat) (hd : decode y.2.1 pc = .ok (.multianewarray idx 2, 4)) (hcl : Cond.classLink y.1.cls idx "[[I" ∈ ds_T) (hcells : k + 4 ≤ mc) (hslots : n + 111 ≤ ms)
    (kk : ∀ q q0 q1 q2 : Nat, di_X y mc ms cy Q (pc + 4) lv (.ref q :: st) (k + 4) (n + 111) (x :: (tl ++ [(q, .inl (cy 14, 3, .inr (.inr (.inr (.inr (fun j => some ([q0, q1, q2].getD j hz))))))), (q0, .inl (cy 10, 36, .inl (fun _ => 0))), (q1, .inl (cy 10, 36, .inl (fun _ => 0))), (q2, .inl (cy 10, 36, .inl (fun _ => 0)))]))) : di_X y mc ms cy Q pc lv (.int 36 :: .int 3 :: st) k n (x :: tl) := by
  intro p l e s m args below meth c dC dI A C H locs hP hD hS lc hl'
  have C0 := C
  obtain ⟨hx, hb, hml, hret, hlocks, hin, hts, hown, hK, hZ, hA⟩ := C
  obtain ⟨kA, h1, h2⟩ := hZ.2.2
  obtain ⟨-, kI, h3, cE, h4⟩ := (hK.2 0 (cy 10, .int) rfl).1 0 (fun _ => .null)
  have hf : s.vm.findClass "[[I" = some (cy 14) := (hK.2 4 (cy 14, .array .int) rfl).2
  refine di_mna0 (kA := kA) (kI := kI) (cI := cy 10) (cA := cy 14) (cE := cE) hx hb hown (hts _ hcl) hf h1 h2 h3 h4 hd hcells hslots (fun H1 z e0 e1 e2 e3 ho => ?_)
  have hi : ∀ a : Nat, H1[a]? = some (di_i (cy 10)) → H1[a]? = some (vp_cell (cy 10) (36, .inl (fun _ => 0))) := fun a h => by
    rw [h, vp_cell_i]
    exact congrArg some (arrV_new _ _ _)
  have hPk : va_P (dC, dI) vwCl (x :: tl) H1 := hP.kept (fun i q h => ho q.1 ((hP i q h).lt))
  have lt : ∀ (i : Nat) (q : Nat × va_E), (x :: tl)[i]? = some q → q.1 < H.size := fun i q h => (hP i q h).lt
  have key : ∀ (i : Nat) (q : Nat × va_E), ([(H.size, .inl (cy 14, 3, .inr (.inr (.inr (.inr (fun j => some ([H.size + 1, H.size + 2, H.size + 3].getD j hz))))))), (H.size + 1, .inl (cy 10, 36, .inl (fun _ => 0))), (H.size + 2, .inl (cy 10, 36, .inl (fun _ => 0))), (H.size + 3, .inl (cy 10, 36, .inl (fun _ => 0)))] : va_W)[i]? = some q → q.1 = H.size + i := by
    intro i q h
    match i, h with
    | 0, h => cases h; rfl
    | 1, h => cases h; rfl
    | 2, h => cases h; rfl
    | 3, h => cases h; rfl
    | i + 4, h => simp at h
  refine kk H.size (H.size + 1) (H.size + 2) (H.size + 3) p l e s m args below meth c dC dI A C0 H1 locs ?_ ?_ ?_ lc hl'
  · refine va_P.app (w1 := x :: tl) hPk (fun i q h => ?_)
    match i, h with
    | 0, h =>
      cases h
      show H1[H.size]? = some (vp_cell _ _)
      rw [e0, vp_cell_q]
      show some ((((({ cls := cy 14, slots := Array.replicate 3 .null, vm := .none } : Cell)).setSlot 0 (.ref (H.size + 1))).setSlot 1 (.ref (H.size + 2))).setSlot 2 (.ref (H.size + 3))) = _
      rw [arrV_new, arrV_store, arrV_store, arrV_store]
      refine congrArg some (di_arrV (fun j hj => ?_))
      rcases (show j = 0 ∨ j = 1 ∨ j = 2 by omega) with rfl | rfl | rfl <;> rfl
    | 1, h => cases h; exact hi _ e1
    | 2, h => cases h; exact hi _ e2
    | 3, h => cases h; exact hi _ e3
    | i + 4, h => simp at h
  · refine va_D.app (w1 := x :: tl) hD ⟨fun i j u v hu hv huv => ?_, fun i q h => ?_⟩ (fun i j u v hu hv huv => ?_)
    · have a1 := key i u hu
      have a2 := key j v hv
      omega
    · rw [key i q h]
      exact hA _ (Nat.le_trans hS.1 (by omega))
    · have a1 := lt i u hu
      have a2 := key j v hv
      omega
  · exact ⟨Nat.le_trans hS.1 (by omega), fun q h1 h2 => (ho q (Nat.lt_of_lt_of_le h1 hS.1)).trans (hS.2.1 q h1 h2), hS.2.2⟩
/-- new Ways[6] -/
theorem di_anew {idx : Nat} {nn : Int32} {N' : Nat} {x : Nat × va_E} {tl : va_W} (hd : decode y.2.1 pc = .ok (.anewarray idx, 3)) (hcl : Cond.classLink y.1.cls idx "WayWeights$Ways" ∈ ds_T) (hn : ¬ nn < 0) (hN : nn.toNatClampNeg = N') (hb4 : N' * 4 ≤ 536870912) (hcells : k + 1 ≤ mc) (hslots : n + N' ≤ ms)
    (kk : ∀ q : Nat, di_X y mc ms cy Q (pc + 3) lv (.ref q :: st) (k + 1) (n + N') (x :: (tl ++ [(q, .inl (cy 13, N', .inr (.inr (.inr (.inr (fun _ => none))))))]))) : di_X y mc ms cy Q pc lv (.int nn :: st) k n (x :: tl) := by
  intro p l e s m args below meth c dC dI A C H locs hP hD hS lc hl'
  have C0 := C
  obtain ⟨hx, hb, hml, hret, hlocks, hin, hts, hown, hK, hZ, hA⟩ := C
  refine va_newq hx hb hown (hts _ hcl) hZ.2.1 hK hP hD hS hA hn hN hb4 hcells hslots hd (fun q cA H1 hK1 hP1 hD1 hS1 => ?_)
  obtain ⟨-, -, -, -, -, f1⟩ := (hK1.2 5 (cA, .object "WayWeights$Ways") rfl).2
  obtain ⟨-, -, -, -, -, f2⟩ := (hK.2 3 (cy 13, .object "WayWeights$Ways") rfl).2
  have e : cA = cy 13 := Option.some.inj (f1.symm.trans f2)
  subst e
  exact kk q p l e s m args below meth c dC dI A C0 H1 locs hP1 hD1 hS1 lc hl'
/-- aastore of a Ways -/
theorem di_ast {i : Int32} {N' qa v pos : Nat} {vs : List Value} {f : Nat → Option Nat} {x : Nat × va_E} {tl : va_W} (hd : decode y.2.1 pc = .ok (.aastore, 1)) (hv : tl[pos]? = some (v, .inr (7, vs))) (hin : vp_in i N')
    (kk : di_X y mc ms cy Q (pc + 1) lv st k n (x :: (qa, .inl (cy 13, N', .inr (.inr (.inr (.inr (va_up f i.toNatClampNeg (some v))))))) :: tl)) : di_X y mc ms cy Q pc lv (.ref v :: .int i :: .ref qa :: st) k n (x :: (qa, .inl (cy 13, N', .inr (.inr (.inr (.inr f))))) :: tl) := by
  intro p l e s m args below meth c dC dI A C H locs hP hD hS lc hl'
  have C0 := C
  obtain ⟨hx, hb, hml, hret, hlocks, hin2, hts, hown, hK, hZ, hA⟩ := C
  exact va_astq (r := (RX7, TX7, 6)) hx hb hK hP hD hS 1 3 (pos + 2) 7 rfl rfl hv rfl hin hd (fun H1 locs1 hP1 hD1 hS1 => kk p l e s m args below meth c dC dI A C0 H1 locs1 hP1 hD1 hS1 lc hl')
theorem di_fix {cA : ClassId} {N' qa : Nat} {f g : Nat → Option Nat} {x : Nat × va_E} {tl : va_W} (h : ∀ j, j < N' → f j = g j) (kk : di_X y mc ms cy Q pc lv st k n (x :: (qa, .inl (cA, N', .inr (.inr (.inr (.inr g))))) :: tl)) : di_X y mc ms cy Q pc lv st k n (x :: (qa, .inl (cA, N', .inr (.inr (.inr (.inr f))))) :: tl) := by
  intro p l e s m args below meth c dC dI A C H locs hP hD hS lc hl'
  have he : va_at (dC, dI) vwCl (qa, .inl (cA, N', .inr (.inr (.inr (.inr g))))) H := by
    have h0 : H[qa]? = some (vp_cell cA (N', .inr (.inr (.inr (.inr f))))) := hP 1 _ rfl
    show H[qa]? = some (vp_cell cA (N', .inr (.inr (.inr (.inr g)))))
    rw [h0, vp_cell_q, vp_cell_q]
    exact congrArg some (di_arrV (fun j hj => by rw [h j hj]))
  exact kk p l e s m args below meth c dC dI A C H locs (hP.set (p := 1) hD rfl he (fun _ _ => rfl)) (hD.set (p := 1) rfl) hS lc hl'
end DIR2
