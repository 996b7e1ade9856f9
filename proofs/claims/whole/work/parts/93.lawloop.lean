set_option maxRecDepth 100000 in
set_option maxHeartbeats 4000000 in
/-- the law's loop -/
theorem lj_loop {b L : Nat} {xs : Nat → Int32} {cy : Nat → ClassId} {k n : Nat} {aC aM : Nat → Nat} (hL : L ≤ 3072) (hcs : k ≤ 600000 ∧ n ≤ 7302250) : ∀ (f i : Nat) (σC σM : ds_S), L < i + f → i ≤ L → Both σC σM → lj_X b L xs cy 18 (lj_l b (aC 0) (aM 0) i) [] k n (ds_w cy aC Yc σC ++ ds_w cy aM Ym σM) := by
  intro f
  induction f with
  | zero => intro i σC σM h1 h2; omega
  | succ f ih =>
    intro i σC σM h1 h2 hB
    have hs : (nI L - 6).toInt = (L : Int) - 6 := pk_sub_toInt (a := L) (b := 6) (by omega) (by omega)
    refine lj_iload 0 dl_18 rfl rfl ?_
    refine lj_aload 3 dl_19 rfl rfl ?_
    refine lj_slen dl_20 ?_
    refine lj_bipush 6 dl_21 (by decide) ?_
    refine lj_isub dl_23 ?_
    refine lj_igt (tgt := 1057) dl_24 (by decide) (fun _ => ?_) (fun h => ?_)
    · refine lj_iconst 1 dl_1057 (by decide) ?_
      exact lj_ret dl_1058 hcs.1 hcs.2
    · have hi : i + 6 ≤ L := by
        rw [Int32.lt_iff_toInt_lt, hs, nI_toInt (by omega)] at h
        omega
      have kk : ∀ σC2 σM2 : ds_S, Both σC2 σM2 → lj_X b L xs cy 1051 (lj_l b (aC 0) (aM 0) i) [] k n (ds_w cy aC Yc σC2 ++ ds_w cy aM Ym σM2) := by
        intro σC2 σM2 hB2
        refine lj_iinc (pos := 0) (v := nI (i + 6)) (lv' := lj_l b (aC 0) (aM 0) (i + 6)) dl_1051 rfl (nI_add i 6) (by decide) rfl ?_
        refine lj_goto (tgt := 18) dl_1054 (by decide) ?_
        exact ih (i + 6) σC2 σM2 (by omega) (by omega) hB2
      refine lj_aload 3 dl_27 rfl rfl ?_
      refine lj_iload 0 dl_28 rfl rfl ?_
      refine lj_sld (vp_in_nI (by omega) (by omega)) dl_29 ?_
      refine lj_bipush 31 dl_30 (by decide) ?_
      refine lj_iand dl_32 ?_
      generalize xs (nI i).toNatClampNeg &&& 31 = v
      by_cases hv : v.toInt < 0 ∨ 24 < v.toInt
      · exact lj_tout (tgt := 1051) dl_33 hv (by decide) (kk σC σM hB)
      · rcases (show v.toInt = 0 ∨ v.toInt = 1 ∨ v.toInt = 2 ∨ v.toInt = 3 ∨ v.toInt = 4 ∨ v.toInt = 5 ∨ v.toInt = 6 ∨ v.toInt = 7 ∨ v.toInt = 8 ∨ v.toInt = 9 ∨ v.toInt = 10 ∨ v.toInt = 11 ∨ v.toInt = 12 ∨ v.toInt = 13 ∨ v.toInt = 14 ∨ v.toInt = 15 ∨ v.toInt = 16 ∨ v.toInt = 17 ∨ v.toInt = 18 ∨ v.toInt = 19 ∨ v.toInt = 20 ∨ v.toInt = 21 ∨ v.toInt = 22 ∨ v.toInt = 23 ∨ v.toInt = 24 by omega) with h | h | h | h | h | h | h | h | h | h | h | h | h | h | h | h | h | h | h | h | h | h | h | h | h
        · exact lj_tin (tgt := 148) (off := 115) 0 dl_33 h (by decide) (by decide) rfl (by decide) (lj_c0 hL hi hcs hB kk)
        · exact lj_tin (tgt := 171) (off := 138) 1 dl_33 h (by decide) (by decide) rfl (by decide) (lj_c1 hL hi hcs hB kk)
        · exact lj_tin (tgt := 224) (off := 191) 2 dl_33 h (by decide) (by decide) rfl (by decide) (lj_c2 hL hi hcs hB kk)
        · exact lj_tin (tgt := 257) (off := 224) 3 dl_33 h (by decide) (by decide) rfl (by decide) (lj_c3 hL hi hcs hB kk)
        · exact lj_tin (tgt := 290) (off := 257) 4 dl_33 h (by decide) (by decide) rfl (by decide) (lj_c4 hL hi hcs hB kk)
        · exact lj_tin (tgt := 349) (off := 316) 5 dl_33 h (by decide) (by decide) rfl (by decide) (lj_c5 hL hi hcs hB kk)
        · exact lj_tin (tgt := 402) (off := 369) 6 dl_33 h (by decide) (by decide) rfl (by decide) (lj_c6 hL hi hcs hB kk)
        · exact lj_tin (tgt := 435) (off := 402) 7 dl_33 h (by decide) (by decide) rfl (by decide) (lj_c7 hL hi hcs hB kk)
        · exact lj_tin (tgt := 468) (off := 435) 8 dl_33 h (by decide) (by decide) rfl (by decide) (lj_c8 hL hi hcs hB kk)
        · exact lj_tin (tgt := 532) (off := 499) 9 dl_33 h (by decide) (by decide) rfl (by decide) (lj_c9 hL hi hcs hB kk)
        · exact lj_tin (tgt := 586) (off := 553) 10 dl_33 h (by decide) (by decide) rfl (by decide) (lj_c10 hL hi hcs hB kk)
        · exact lj_tin (tgt := 620) (off := 587) 11 dl_33 h (by decide) (by decide) rfl (by decide) (lj_c11 hL hi hcs hB kk)
        · exact lj_tin (tgt := 659) (off := 626) 12 dl_33 h (by decide) (by decide) rfl (by decide) (lj_c12 hL hi hcs hB kk)
        · exact lj_tin (tgt := 683) (off := 650) 13 dl_33 h (by decide) (by decide) rfl (by decide) (lj_c13 hL hi hcs hB kk)
        · exact lj_tin (tgt := 716) (off := 683) 14 dl_33 h (by decide) (by decide) rfl (by decide) (lj_c14 hL hi hcs hB kk)
        · exact lj_tin (tgt := 759) (off := 726) 15 dl_33 h (by decide) (by decide) rfl (by decide) (lj_c15 hL hi hcs hB kk)
        · exact lj_tin (tgt := 792) (off := 759) 16 dl_33 h (by decide) (by decide) rfl (by decide) (lj_c16 hL hi hcs hB kk)
        · exact lj_tin (tgt := 815) (off := 782) 17 dl_33 h (by decide) (by decide) rfl (by decide) (lj_c17 hL hi hcs hB kk)
        · exact lj_tin (tgt := 839) (off := 806) 18 dl_33 h (by decide) (by decide) rfl (by decide) (lj_c18 hL hi hcs hB kk)
        · exact lj_tin (tgt := 852) (off := 819) 19 dl_33 h (by decide) (by decide) rfl (by decide) (lj_c19 hL hi hcs hB kk)
        · exact lj_tin (tgt := 885) (off := 852) 20 dl_33 h (by decide) (by decide) rfl (by decide) (lj_c20 hL hi hcs hB kk)
        · exact lj_tin (tgt := 918) (off := 885) 21 dl_33 h (by decide) (by decide) rfl (by decide) (lj_c21 hL hi hcs hB kk)
        · exact lj_tin (tgt := 961) (off := 928) 22 dl_33 h (by decide) (by decide) rfl (by decide) (lj_c22 hL hi hcs hB kk)
        · exact lj_tin (tgt := 995) (off := 962) 23 dl_33 h (by decide) (by decide) rfl (by decide) (lj_c23 hL hi hcs hB kk)
        · exact lj_tin (tgt := 1028) (off := 995) 24 dl_33 h (by decide) (by decide) rfl (by decide) (lj_c24 hL hi hcs hB kk)
