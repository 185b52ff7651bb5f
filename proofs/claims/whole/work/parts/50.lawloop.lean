/-! the law's loop -/
theorem sw_out {x : Int32} (h0 : ¬ x = 0) (h1 : ¬ x = 1) (h2 : ¬ x = 2) (h3 : ¬ x = 3) (h4 : ¬ x = 4) (h5 : ¬ x = 5) (h6 : ¬ x = 6) (h7 : ¬ x = 7) (h8 : ¬ x = 8) (h9 : ¬ x = 9) (h10 : ¬ x = 10) (h11 : ¬ x = 11) (h12 : ¬ x = 12) (h13 : ¬ x = 13) (h14 : ¬ x = 14) (h15 : ¬ x = 15) (h16 : ¬ x = 16) (h17 : ¬ x = 17) (h18 : ¬ x = 18) : x.toInt < 0 ∨ 18 < x.toInt := by
  have a0 : ¬ x.toInt = 0 := fun h => h0 (Int32.toInt_inj.mp (h.trans (by decide)))
  have a1 : ¬ x.toInt = 1 := fun h => h1 (Int32.toInt_inj.mp (h.trans (by decide)))
  have a2 : ¬ x.toInt = 2 := fun h => h2 (Int32.toInt_inj.mp (h.trans (by decide)))
  have a3 : ¬ x.toInt = 3 := fun h => h3 (Int32.toInt_inj.mp (h.trans (by decide)))
  have a4 : ¬ x.toInt = 4 := fun h => h4 (Int32.toInt_inj.mp (h.trans (by decide)))
  have a5 : ¬ x.toInt = 5 := fun h => h5 (Int32.toInt_inj.mp (h.trans (by decide)))
  have a6 : ¬ x.toInt = 6 := fun h => h6 (Int32.toInt_inj.mp (h.trans (by decide)))
  have a7 : ¬ x.toInt = 7 := fun h => h7 (Int32.toInt_inj.mp (h.trans (by decide)))
  have a8 : ¬ x.toInt = 8 := fun h => h8 (Int32.toInt_inj.mp (h.trans (by decide)))
  have a9 : ¬ x.toInt = 9 := fun h => h9 (Int32.toInt_inj.mp (h.trans (by decide)))
  have a10 : ¬ x.toInt = 10 := fun h => h10 (Int32.toInt_inj.mp (h.trans (by decide)))
  have a11 : ¬ x.toInt = 11 := fun h => h11 (Int32.toInt_inj.mp (h.trans (by decide)))
  have a12 : ¬ x.toInt = 12 := fun h => h12 (Int32.toInt_inj.mp (h.trans (by decide)))
  have a13 : ¬ x.toInt = 13 := fun h => h13 (Int32.toInt_inj.mp (h.trans (by decide)))
  have a14 : ¬ x.toInt = 14 := fun h => h14 (Int32.toInt_inj.mp (h.trans (by decide)))
  have a15 : ¬ x.toInt = 15 := fun h => h15 (Int32.toInt_inj.mp (h.trans (by decide)))
  have a16 : ¬ x.toInt = 16 := fun h => h16 (Int32.toInt_inj.mp (h.trans (by decide)))
  have a17 : ¬ x.toInt = 17 := fun h => h17 (Int32.toInt_inj.mp (h.trans (by decide)))
  have a18 : ¬ x.toInt = 18 := fun h => h18 (Int32.toInt_inj.mp (h.trans (by decide)))
  omega
set_option maxRecDepth 100000 in
set_option maxHeartbeats 4000000 in
theorem lw_body {p : Program} {l : Launch} {e : Env} {s : State} {m : MethodId} {below : List Frame} {meth : Method} {c : Code} {b L : Nat} {xs : Nat → Int32} {dC : Nat → ClassId} {dI : Nat → Nat → Nat} {cI cZ : ClassId} {Z : State → Prop} {qx qk qg qp qc qt qtp qtc qlo qhi qo qha qkn qtr qhv qbe zlo zhi qpa qne qre : Nat} {n : Nat} {i : Nat} {ls : Array Slot} (F : LwF p l e s m below meth c b L xs dC dI cI cZ) (hi : i + 4 ≤ L) (hl : lv_has ls 4 [(3, .int (nI i)), (2, .ref qo), (1, .ref qx), (0, .ref b)]) (kk : LwG p l e s m below meth c b L xs dC dI cI cZ Z qx qk qg qp qc qt qtp qtc qlo qhi qo qha qkn qtr qhv qbe zlo zhi qpa qne qre n 619 ls) : LwG p l e s m below meth c b L xs dC dI cI cZ Z qx qk qg qp qc qt qtp qtc qlo qhi qo qha qkn qtr qhv qbe zlo zhi qpa qne qre n 36 ls := by
  have F0 := F
  intro fp fc fq fd fl fh mh mk mt mv mb ml mg mp mx mr dc cb kb kc ga ct fi sf af sc mc P Q H locs hR hP hD hS
  obtain ⟨hx, hb, hml, hown, hT, hK, hN, hX, hbl, hL⟩ := F
  have hbA : ¬ lwA s b := fun h => absurd hbl (Nat.not_lt.mpr h)
  refine lv_aload_n hx hb d_L_law_36 rfl (lv_at hl 3 rfl) ?_
  refine lv_iload_n hx hb d_L_law_37 rfl (lv_at hl 0 rfl) ?_
  refine va_sld hx hb hX hbl hbA hS (vp_in_nI (by omega) (by omega)) d_L_law_38 ?_
  refine lv_bipush (v := 31) hx hb d_L_law_39 (by decide) ?_
  refine lv_iand hx hb d_L_law_41 ?_
  generalize xs (nI i).toNatClampNeg &&& 31 = x
  by_cases h0 : x = 0
  · refine vz_top h0 ?_
    refine lv_tableIn (off := 90) (tgt := 132) hx hb d_L_law_42 (by decide) (by decide) (by decide +kernel) (by decide) ?_
    exact lw_c0 F0 hi hl kk fp fc fq fd fl fh mh mk mt mv mb ml mg mp mx mr dc cb kb kc ga ct fi sf af sc mc P Q H locs hR hP hD hS
  by_cases h1 : x = 1
  · refine vz_top h1 ?_
    refine lv_tableIn (off := 123) (tgt := 165) hx hb d_L_law_42 (by decide) (by decide) (by decide +kernel) (by decide) ?_
    exact lw_c1 F0 hi hl kk fp fc fq fd fl fh mh mk mt mv mb ml mg mp mx mr dc cb kb kc ga ct fi sf af sc mc P Q H locs hR hP hD hS
  by_cases h2 : x = 2
  · refine vz_top h2 ?_
    refine lv_tableIn (off := 156) (tgt := 198) hx hb d_L_law_42 (by decide) (by decide) (by decide +kernel) (by decide) ?_
    exact lw_c2 F0 hi hl kk fp fc fq fd fl fh mh mk mt mv mb ml mg mp mx mr dc cb kb kc ga ct fi sf af sc mc P Q H locs hR hP hD hS
  by_cases h3 : x = 3
  · refine vz_top h3 ?_
    refine lv_tableIn (off := 189) (tgt := 231) hx hb d_L_law_42 (by decide) (by decide) (by decide +kernel) (by decide) ?_
    exact lw_c3 F0 hi hl kk fp fc fq fd fl fh mh mk mt mv mb ml mg mp mx mr dc cb kb kc ga ct fi sf af sc mc P Q H locs hR hP hD hS
  by_cases h4 : x = 4
  · refine vz_top h4 ?_
    refine lv_tableIn (off := 222) (tgt := 264) hx hb d_L_law_42 (by decide) (by decide) (by decide +kernel) (by decide) ?_
    exact lw_c4 F0 hi hl kk fp fc fq fd fl fh mh mk mt mv mb ml mg mp mx mr dc cb kb kc ga ct fi sf af sc mc P Q H locs hR hP hD hS
  by_cases h5 : x = 5
  · refine vz_top h5 ?_
    refine lv_tableIn (off := 245) (tgt := 287) hx hb d_L_law_42 (by decide) (by decide) (by decide +kernel) (by decide) ?_
    exact lw_c5 F0 hi hl kk fp fc fq fd fl fh mh mk mt mv mb ml mg mp mx mr dc cb kb kc ga ct fi sf af sc mc P Q H locs hR hP hD hS
  by_cases h6 : x = 6
  · refine vz_top h6 ?_
    refine lv_tableIn (off := 268) (tgt := 310) hx hb d_L_law_42 (by decide) (by decide) (by decide +kernel) (by decide) ?_
    exact lw_c6 F0 hi hl kk fp fc fq fd fl fh mh mk mt mv mb ml mg mp mx mr dc cb kb kc ga ct fi sf af sc mc P Q H locs hR hP hD hS
  by_cases h7 : x = 7
  · refine vz_top h7 ?_
    refine lv_tableIn (off := 291) (tgt := 333) hx hb d_L_law_42 (by decide) (by decide) (by decide +kernel) (by decide) ?_
    exact lw_c7 F0 hi hl kk fp fc fq fd fl fh mh mk mt mv mb ml mg mp mx mr dc cb kb kc ga ct fi sf af sc mc P Q H locs hR hP hD hS
  by_cases h8 : x = 8
  · refine vz_top h8 ?_
    refine lv_tableIn (off := 304) (tgt := 346) hx hb d_L_law_42 (by decide) (by decide) (by decide +kernel) (by decide) ?_
    exact lw_c8 F0 hi hl kk fp fc fq fd fl fh mh mk mt mv mb ml mg mp mx mr dc cb kb kc ga ct fi sf af sc mc P Q H locs hR hP hD hS
  by_cases h9 : x = 9
  · refine vz_top h9 ?_
    refine lv_tableIn (off := 337) (tgt := 379) hx hb d_L_law_42 (by decide) (by decide) (by decide +kernel) (by decide) ?_
    exact lw_c9 F0 hi hl kk fp fc fq fd fl fh mh mk mt mv mb ml mg mp mx mr dc cb kb kc ga ct fi sf af sc mc P Q H locs hR hP hD hS
  by_cases h10 : x = 10
  · refine vz_top h10 ?_
    refine lv_tableIn (off := 380) (tgt := 422) hx hb d_L_law_42 (by decide) (by decide) (by decide +kernel) (by decide) ?_
    exact lw_c10 F0 hi hl kk fp fc fq fd fl fh mh mk mt mv mb ml mg mp mx mr dc cb kb kc ga ct fi sf af sc mc P Q H locs hR hP hD hS
  by_cases h11 : x = 11
  · refine vz_top h11 ?_
    refine lv_tableIn (off := 413) (tgt := 455) hx hb d_L_law_42 (by decide) (by decide) (by decide +kernel) (by decide) ?_
    exact lw_c11 F0 hi hl kk fp fc fq fd fl fh mh mk mt mv mb ml mg mp mx mr dc cb kb kc ga ct fi sf af sc mc P Q H locs hR hP hD hS
  by_cases h12 : x = 12
  · refine vz_top h12 ?_
    refine lv_tableIn (off := 426) (tgt := 468) hx hb d_L_law_42 (by decide) (by decide) (by decide +kernel) (by decide) ?_
    exact lw_c12 F0 hi hl kk fp fc fq fd fl fh mh mk mt mv mb ml mg mp mx mr dc cb kb kc ga ct fi sf af sc mc P Q H locs hR hP hD hS
  by_cases h13 : x = 13
  · refine vz_top h13 ?_
    refine lv_tableIn (off := 459) (tgt := 501) hx hb d_L_law_42 (by decide) (by decide) (by decide +kernel) (by decide) ?_
    exact lw_c13 F0 hi hl kk fp fc fq fd fl fh mh mk mt mv mb ml mg mp mx mr dc cb kb kc ga ct fi sf af sc mc P Q H locs hR hP hD hS
  by_cases h14 : x = 14
  · refine vz_top h14 ?_
    refine lv_tableIn (off := 472) (tgt := 514) hx hb d_L_law_42 (by decide) (by decide) (by decide +kernel) (by decide) ?_
    exact lw_c14 F0 hi hl kk fp fc fq fd fl fh mh mk mt mv mb ml mg mp mx mr dc cb kb kc ga ct fi sf af sc mc P Q H locs hR hP hD hS
  by_cases h15 : x = 15
  · refine vz_top h15 ?_
    refine lv_tableIn (off := 505) (tgt := 547) hx hb d_L_law_42 (by decide) (by decide) (by decide +kernel) (by decide) ?_
    exact lw_c15 F0 hi hl kk fp fc fq fd fl fh mh mk mt mv mb ml mg mp mx mr dc cb kb kc ga ct fi sf af sc mc P Q H locs hR hP hD hS
  by_cases h16 : x = 16
  · refine vz_top h16 ?_
    refine lv_tableIn (off := 518) (tgt := 560) hx hb d_L_law_42 (by decide) (by decide) (by decide +kernel) (by decide) ?_
    exact lw_c16 F0 hi hl kk fp fc fq fd fl fh mh mk mt mv mb ml mg mp mx mr dc cb kb kc ga ct fi sf af sc mc P Q H locs hR hP hD hS
  by_cases h17 : x = 17
  · refine vz_top h17 ?_
    refine lv_tableIn (off := 531) (tgt := 573) hx hb d_L_law_42 (by decide) (by decide) (by decide +kernel) (by decide) ?_
    exact lw_c17 F0 hi hl kk fp fc fq fd fl fh mh mk mt mv mb ml mg mp mx mr dc cb kb kc ga ct fi sf af sc mc P Q H locs hR hP hD hS
  by_cases h18 : x = 18
  · refine vz_top h18 ?_
    refine lv_tableIn (off := 564) (tgt := 606) hx hb d_L_law_42 (by decide) (by decide) (by decide +kernel) (by decide) ?_
    exact lw_c18 F0 hi hl kk fp fc fq fd fl fh mh mk mt mv mb ml mg mp mx mr dc cb kb kc ga ct fi sf af sc mc P Q H locs hR hP hD hS
  refine lv_tableOut (tgt := 619) hx hb d_L_law_42 (sw_out h0 h1 h2 h3 h4 h5 h6 h7 h8 h9 h10 h11 h12 h13 h14 h15 h16 h17 h18) (by decide) ?_
  exact kk fp fc fq fd fl fh mh mk mt mv mb ml mg mp mx mr dc cb kb kc ga ct fi sf af sc mc P Q H locs hR hP hD hS
theorem lw_end {i L : Nat} (hL : L ≤ 2049) (hi : i ≤ 3000) (h : ¬ Int32.ofNat L - 4 < nI i) : i + 4 ≤ L := by
  rcases Nat.lt_or_ge L 4 with g | g
  · refine absurd ?_ h
    rw [Int32.lt_iff_toInt_lt, nI_toInt (by omega)]
    have : L = 0 ∨ L = 1 ∨ L = 2 ∨ L = 3 := by omega
    rcases this with rfl | rfl | rfl | rfl
    · have e : (Int32.ofNat 0 - 4).toInt = -4 := by decide
      rw [e]; omega
    · have e : (Int32.ofNat 1 - 4).toInt = -3 := by decide
      rw [e]; omega
    · have e : (Int32.ofNat 2 - 4).toInt = -2 := by decide
      rw [e]; omega
    · have e : (Int32.ofNat 3 - 4).toInt = -1 := by decide
      rw [e]; omega
  · have e : Int32.ofNat L - 4 = nI (L - 4) := pk_sub (b := 4) g
    rw [e, nI_ltI (by omega) (by omega)] at h
    omega
set_option maxRecDepth 100000 in
set_option maxHeartbeats 4000000 in
theorem lw_loop {p : Program} {l : Launch} {e : Env} {s : State} {m : MethodId} {below : List Frame} {meth : Method} {c : Code} {b L : Nat} {xs : Nat → Int32} {dC : Nat → ClassId} {dI : Nat → Nat → Nat} {cI cZ : ClassId} {Z : State → Prop} {qx qk qg qp qc qt qtp qtc qlo qhi qo qha qkn qtr qhv qbe zlo zhi qpa qne qre : Nat} {n : Nat} (F : LwF p l e s m below meth c b L xs dC dI cI cZ) (kE : ∀ ls : Array Slot, LwG p l e s m below meth c b L xs dC dI cI cZ Z qx qk qg qp qc qt qtp qtc qlo qhi qo qha qkn qtr qhv qbe zlo zhi qpa qne qre n 625 ls) : ∀ (k i : Nat) (ls : Array Slot), L ≤ i + 3 + 4 * k → i ≤ 2100 → lv_has ls 4 [(3, .int (nI i)), (2, .ref qo), (1, .ref qx), (0, .ref b)] → LwG p l e s m below meth c b L xs dC dI cI cZ Z qx qk qg qp qc qt qtp qtc qlo qhi qo qha qkn qtr qhv qbe zlo zhi qpa qne qre n 28 ls
  | 0, i, ls, hk, hi, hl => by
    intro fp fc fq fd fl fh mh mk mt mv mb ml mg mp mx mr dc cb kb kc ga ct fi sf af sc mc P Q H locs hR hP hD hS
    obtain ⟨hx, hb, hml, hown, hT, hK, hN, hX, hbl, hL⟩ := id F
    have hbA : ¬ lwA s b := fun h => absurd hbl (Nat.not_lt.mpr h)
    refine lv_iload_n hx hb d_L_law_28 rfl (lv_at hl 0 rfl) ?_
    refine lv_aload_n hx hb d_L_law_29 rfl (lv_at hl 3 rfl) ?_
    refine va_slen hx hb hX hbl hbA hS d_L_law_30 ?_
    refine lv_iconst (v := 4) hx hb d_L_law_31 (by decide) ?_
    refine lv_isub hx hb d_L_law_32 ?_
    refine lv_icmp_gt (tgt := 625) hx hb d_L_law_33 (by decide) (fun _ => kE ls fp fc fq fd fl fh mh mk mt mv mb ml mg mp mx mr dc cb kb kc ga ct fi sf af sc mc P Q H locs hR hP hD hS) (fun h => ?_)
    have h4 := lw_end hL (by omega) h
    omega
  | k + 1, i, ls, hk, hi, hl => by
    intro fp fc fq fd fl fh mh mk mt mv mb ml mg mp mx mr dc cb kb kc ga ct fi sf af sc mc P Q H locs hR hP hD hS
    obtain ⟨hx, hb, hml, hown, hT, hK, hN, hX, hbl, hL⟩ := id F
    have hbA : ¬ lwA s b := fun h => absurd hbl (Nat.not_lt.mpr h)
    refine lv_iload_n hx hb d_L_law_28 rfl (lv_at hl 0 rfl) ?_
    refine lv_aload_n hx hb d_L_law_29 rfl (lv_at hl 3 rfl) ?_
    refine va_slen hx hb hX hbl hbA hS d_L_law_30 ?_
    refine lv_iconst (v := 4) hx hb d_L_law_31 (by decide) ?_
    refine lv_isub hx hb d_L_law_32 ?_
    refine lv_icmp_gt (tgt := 625) hx hb d_L_law_33 (by decide) (fun _ => kE ls fp fc fq fd fl fh mh mk mt mv mb ml mg mp mx mr dc cb kb kc ga ct fi sf af sc mc P Q H locs hR hP hD hS) (fun h => ?_)
    have h4 := lw_end hL (by omega) h
    refine lw_body F h4 hl ?_ fp fc fq fd fl fh mh mk mt mv mb ml mg mp mx mr dc cb kb kc ga ct fi sf af sc mc P Q H locs hR hP hD hS
    intro fp fc fq fd fl fh mh mk mt mv mb ml mg mp mx mr dc cb kb kc ga ct fi sf af sc mc P Q H locs hR hP hD hS
    refine lv_iinc (k := 0) (v := nI (i + 4)) hx hb d_L_law_619 hl rfl (nI_add i 4) (by decide) rfl (fun ls hl => ?_)
    have hl : lv_has ls 4 [(3, .int (nI (i + 4))), (2, .ref qo), (1, .ref qx), (0, .ref b)] := hl
    refine lv_goto (tgt := 28) hx hb d_L_law_622 (by decide) ?_
    exact lw_loop F kE k (i + 4) ls (by omega) (by omega) hl fp fc fq fd fl fh mh mk mt mv mb ml mg mp mx mr dc cb kb kc ga ct fi sf af sc mc P Q H locs hR hP hD hS
