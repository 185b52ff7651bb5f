set_option maxRecDepth 100000 in
set_option maxHeartbeats 4000000 in
theorem c_J_bitCount (l : Launch) (dC : Nat → ClassId) (dI : Nat → Nat → Nat) (cI cZ : ClassId) (x : Int32) : Met l y_J_bitCount w_J_bitCount rm_J_bitCount (va_Pc [.int x] (vz_B (dC, dI) vwCl [] [(cI, .int), (cZ, .boolean)])) (QcRead (bitCount x)) 0 0 (fun _ => False) := by
  refine Met.ofW (cc := b_J_bitCount) (maxL := 1) (ret := (some .int)) (by decide) rfl ?_
  intro p e s m args below meth c s₁ B hml hv
  obtain ⟨rfl, hP, hK, hN⟩ := hv
  have hx := B.exec
  have hb := B.bytes
  have hr := B.returns
  have hts := atoms_spec (ws := w_J_bitCount) B.pre
  have hT : ∀ w ∈ vzB, w.before ([.int x] : List Value).toArray s = true := fun w h => hts w (List.mem_cons_of_mem _ h)
  have hown : s.vm.findClass "java/lang/Integer" = some m.cls := findClass_of_methodNamed B.named
  have hlocks := B.notSynchronized
  have hl := lv_entry ([.int x]) (n := 1) (Nat.le_of_ble_eq_true rfl)
  rw [lg_entry_eq]
  generalize (lg_sl ([.int x]) ++ List.replicate (1 - (lg_sl ([.int x])).length) Slot.unset).toArray = ls at hl ⊢
  have hl : lv_has ls 1 [(0, .int x)] := hl
  refine lv_iload_n hx hb d_J_bitCount_0 rfl (lv_at hl 0 rfl) ?_
  refine lv_iload_n hx hb d_J_bitCount_1 rfl (lv_at hl 0 rfl) ?_
  refine lv_iconst (v := 1) hx hb d_J_bitCount_2 (by decide) ?_
  refine lv_iushr hx hb d_J_bitCount_3 rfl ?_
  refine lv_ldcw (v := 1431655765) hx hb hown (hT _ wd_con_265) d_J_bitCount_4 ?_
  refine lv_iand hx hb d_J_bitCount_7 ?_
  refine lv_isub hx hb d_J_bitCount_8 ?_
  refine lv_istore_n hx hb d_J_bitCount_9 rfl hl (by decide) rfl (fun ls hl => ?_)
  have hl : lv_has ls 1 [(0, .int (x - (((x.toUInt32 >>> ((1 : Int32).toUInt32 &&& Int32.toUInt32 31)).toInt32) &&& 1431655765)))] := hl
  refine lv_iload_n hx hb d_J_bitCount_10 rfl (lv_at hl 0 rfl) ?_
  refine lv_ldcw (v := 858993459) hx hb hown (hT _ wd_con_266) d_J_bitCount_11 ?_
  refine lv_iand hx hb d_J_bitCount_14 ?_
  refine lv_iload_n hx hb d_J_bitCount_15 rfl (lv_at hl 0 rfl) ?_
  refine lv_iconst (v := 2) hx hb d_J_bitCount_16 (by decide) ?_
  refine lv_iushr hx hb d_J_bitCount_17 rfl ?_
  refine lv_ldcw (v := 858993459) hx hb hown (hT _ wd_con_266) d_J_bitCount_18 ?_
  refine lv_iand hx hb d_J_bitCount_21 ?_
  refine lv_iadd hx hb d_J_bitCount_22 ?_
  refine lv_istore_n hx hb d_J_bitCount_23 rfl hl (by decide) rfl (fun ls hl => ?_)
  have hl : lv_has ls 1 [(0, .int (((x - (((x.toUInt32 >>> ((1 : Int32).toUInt32 &&& Int32.toUInt32 31)).toInt32) &&& 1431655765)) &&& 858993459) + ((((x - (((x.toUInt32 >>> ((1 : Int32).toUInt32 &&& Int32.toUInt32 31)).toInt32) &&& 1431655765)).toUInt32 >>> ((2 : Int32).toUInt32 &&& Int32.toUInt32 31)).toInt32) &&& 858993459)))] := hl
  refine lv_iload_n hx hb d_J_bitCount_24 rfl (lv_at hl 0 rfl) ?_
  refine lv_iload_n hx hb d_J_bitCount_25 rfl (lv_at hl 0 rfl) ?_
  refine lv_iconst (v := 4) hx hb d_J_bitCount_26 (by decide) ?_
  refine lv_iushr hx hb d_J_bitCount_27 rfl ?_
  refine lv_iadd hx hb d_J_bitCount_28 ?_
  refine lv_ldcw (v := 252645135) hx hb hown (hT _ wd_con_267) d_J_bitCount_29 ?_
  refine lv_iand hx hb d_J_bitCount_32 ?_
  refine lv_istore_n hx hb d_J_bitCount_33 rfl hl (by decide) rfl (fun ls hl => ?_)
  have hl : lv_has ls 1 [(0, .int (((((x - (((x.toUInt32 >>> ((1 : Int32).toUInt32 &&& Int32.toUInt32 31)).toInt32) &&& 1431655765)) &&& 858993459) + ((((x - (((x.toUInt32 >>> ((1 : Int32).toUInt32 &&& Int32.toUInt32 31)).toInt32) &&& 1431655765)).toUInt32 >>> ((2 : Int32).toUInt32 &&& Int32.toUInt32 31)).toInt32) &&& 858993459)) + (((((x - (((x.toUInt32 >>> ((1 : Int32).toUInt32 &&& Int32.toUInt32 31)).toInt32) &&& 1431655765)) &&& 858993459) + ((((x - (((x.toUInt32 >>> ((1 : Int32).toUInt32 &&& Int32.toUInt32 31)).toInt32) &&& 1431655765)).toUInt32 >>> ((2 : Int32).toUInt32 &&& Int32.toUInt32 31)).toInt32) &&& 858993459)).toUInt32 >>> ((4 : Int32).toUInt32 &&& Int32.toUInt32 31)).toInt32)) &&& 252645135))] := hl
  refine lv_iload_n hx hb d_J_bitCount_34 rfl (lv_at hl 0 rfl) ?_
  refine lv_iload_n hx hb d_J_bitCount_35 rfl (lv_at hl 0 rfl) ?_
  refine lv_bipush (v := 8) hx hb d_J_bitCount_36 (by decide) ?_
  refine lv_iushr hx hb d_J_bitCount_38 rfl ?_
  refine lv_iadd hx hb d_J_bitCount_39 ?_
  refine lv_istore_n hx hb d_J_bitCount_40 rfl hl (by decide) rfl (fun ls hl => ?_)
  have hl : lv_has ls 1 [(0, .int ((((((x - (((x.toUInt32 >>> ((1 : Int32).toUInt32 &&& Int32.toUInt32 31)).toInt32) &&& 1431655765)) &&& 858993459) + ((((x - (((x.toUInt32 >>> ((1 : Int32).toUInt32 &&& Int32.toUInt32 31)).toInt32) &&& 1431655765)).toUInt32 >>> ((2 : Int32).toUInt32 &&& Int32.toUInt32 31)).toInt32) &&& 858993459)) + (((((x - (((x.toUInt32 >>> ((1 : Int32).toUInt32 &&& Int32.toUInt32 31)).toInt32) &&& 1431655765)) &&& 858993459) + ((((x - (((x.toUInt32 >>> ((1 : Int32).toUInt32 &&& Int32.toUInt32 31)).toInt32) &&& 1431655765)).toUInt32 >>> ((2 : Int32).toUInt32 &&& Int32.toUInt32 31)).toInt32) &&& 858993459)).toUInt32 >>> ((4 : Int32).toUInt32 &&& Int32.toUInt32 31)).toInt32)) &&& 252645135) + (((((((x - (((x.toUInt32 >>> ((1 : Int32).toUInt32 &&& Int32.toUInt32 31)).toInt32) &&& 1431655765)) &&& 858993459) + ((((x - (((x.toUInt32 >>> ((1 : Int32).toUInt32 &&& Int32.toUInt32 31)).toInt32) &&& 1431655765)).toUInt32 >>> ((2 : Int32).toUInt32 &&& Int32.toUInt32 31)).toInt32) &&& 858993459)) + (((((x - (((x.toUInt32 >>> ((1 : Int32).toUInt32 &&& Int32.toUInt32 31)).toInt32) &&& 1431655765)) &&& 858993459) + ((((x - (((x.toUInt32 >>> ((1 : Int32).toUInt32 &&& Int32.toUInt32 31)).toInt32) &&& 1431655765)).toUInt32 >>> ((2 : Int32).toUInt32 &&& Int32.toUInt32 31)).toInt32) &&& 858993459)).toUInt32 >>> ((4 : Int32).toUInt32 &&& Int32.toUInt32 31)).toInt32)) &&& 252645135).toUInt32 >>> ((8 : Int32).toUInt32 &&& Int32.toUInt32 31)).toInt32)))] := hl
  refine lv_iload_n hx hb d_J_bitCount_41 rfl (lv_at hl 0 rfl) ?_
  refine lv_iload_n hx hb d_J_bitCount_42 rfl (lv_at hl 0 rfl) ?_
  refine lv_bipush (v := 16) hx hb d_J_bitCount_43 (by decide) ?_
  refine lv_iushr hx hb d_J_bitCount_45 rfl ?_
  refine lv_iadd hx hb d_J_bitCount_46 ?_
  refine lv_istore_n hx hb d_J_bitCount_47 rfl hl (by decide) rfl (fun ls hl => ?_)
  have hl : lv_has ls 1 [(0, .int (((((((x - (((x.toUInt32 >>> ((1 : Int32).toUInt32 &&& Int32.toUInt32 31)).toInt32) &&& 1431655765)) &&& 858993459) + ((((x - (((x.toUInt32 >>> ((1 : Int32).toUInt32 &&& Int32.toUInt32 31)).toInt32) &&& 1431655765)).toUInt32 >>> ((2 : Int32).toUInt32 &&& Int32.toUInt32 31)).toInt32) &&& 858993459)) + (((((x - (((x.toUInt32 >>> ((1 : Int32).toUInt32 &&& Int32.toUInt32 31)).toInt32) &&& 1431655765)) &&& 858993459) + ((((x - (((x.toUInt32 >>> ((1 : Int32).toUInt32 &&& Int32.toUInt32 31)).toInt32) &&& 1431655765)).toUInt32 >>> ((2 : Int32).toUInt32 &&& Int32.toUInt32 31)).toInt32) &&& 858993459)).toUInt32 >>> ((4 : Int32).toUInt32 &&& Int32.toUInt32 31)).toInt32)) &&& 252645135) + (((((((x - (((x.toUInt32 >>> ((1 : Int32).toUInt32 &&& Int32.toUInt32 31)).toInt32) &&& 1431655765)) &&& 858993459) + ((((x - (((x.toUInt32 >>> ((1 : Int32).toUInt32 &&& Int32.toUInt32 31)).toInt32) &&& 1431655765)).toUInt32 >>> ((2 : Int32).toUInt32 &&& Int32.toUInt32 31)).toInt32) &&& 858993459)) + (((((x - (((x.toUInt32 >>> ((1 : Int32).toUInt32 &&& Int32.toUInt32 31)).toInt32) &&& 1431655765)) &&& 858993459) + ((((x - (((x.toUInt32 >>> ((1 : Int32).toUInt32 &&& Int32.toUInt32 31)).toInt32) &&& 1431655765)).toUInt32 >>> ((2 : Int32).toUInt32 &&& Int32.toUInt32 31)).toInt32) &&& 858993459)).toUInt32 >>> ((4 : Int32).toUInt32 &&& Int32.toUInt32 31)).toInt32)) &&& 252645135).toUInt32 >>> ((8 : Int32).toUInt32 &&& Int32.toUInt32 31)).toInt32)) + ((((((((x - (((x.toUInt32 >>> ((1 : Int32).toUInt32 &&& Int32.toUInt32 31)).toInt32) &&& 1431655765)) &&& 858993459) + ((((x - (((x.toUInt32 >>> ((1 : Int32).toUInt32 &&& Int32.toUInt32 31)).toInt32) &&& 1431655765)).toUInt32 >>> ((2 : Int32).toUInt32 &&& Int32.toUInt32 31)).toInt32) &&& 858993459)) + (((((x - (((x.toUInt32 >>> ((1 : Int32).toUInt32 &&& Int32.toUInt32 31)).toInt32) &&& 1431655765)) &&& 858993459) + ((((x - (((x.toUInt32 >>> ((1 : Int32).toUInt32 &&& Int32.toUInt32 31)).toInt32) &&& 1431655765)).toUInt32 >>> ((2 : Int32).toUInt32 &&& Int32.toUInt32 31)).toInt32) &&& 858993459)).toUInt32 >>> ((4 : Int32).toUInt32 &&& Int32.toUInt32 31)).toInt32)) &&& 252645135) + (((((((x - (((x.toUInt32 >>> ((1 : Int32).toUInt32 &&& Int32.toUInt32 31)).toInt32) &&& 1431655765)) &&& 858993459) + ((((x - (((x.toUInt32 >>> ((1 : Int32).toUInt32 &&& Int32.toUInt32 31)).toInt32) &&& 1431655765)).toUInt32 >>> ((2 : Int32).toUInt32 &&& Int32.toUInt32 31)).toInt32) &&& 858993459)) + (((((x - (((x.toUInt32 >>> ((1 : Int32).toUInt32 &&& Int32.toUInt32 31)).toInt32) &&& 1431655765)) &&& 858993459) + ((((x - (((x.toUInt32 >>> ((1 : Int32).toUInt32 &&& Int32.toUInt32 31)).toInt32) &&& 1431655765)).toUInt32 >>> ((2 : Int32).toUInt32 &&& Int32.toUInt32 31)).toInt32) &&& 858993459)).toUInt32 >>> ((4 : Int32).toUInt32 &&& Int32.toUInt32 31)).toInt32)) &&& 252645135).toUInt32 >>> ((8 : Int32).toUInt32 &&& Int32.toUInt32 31)).toInt32)).toUInt32 >>> ((16 : Int32).toUInt32 &&& Int32.toUInt32 31)).toInt32)))] := hl
  refine lv_iload_n hx hb d_J_bitCount_48 rfl (lv_at hl 0 rfl) ?_
  refine lv_bipush (v := 63) hx hb d_J_bitCount_49 (by decide) ?_
  refine lv_iand hx hb d_J_bitCount_51 ?_
  exact W.iret hx hb hr (fun t ht hW => ⟨by rw [show (bitCount x) = (((((((x - (((x.toUInt32 >>> ((1 : Int32).toUInt32 &&& Int32.toUInt32 31)).toInt32) &&& 1431655765)) &&& 858993459) + ((((x - (((x.toUInt32 >>> ((1 : Int32).toUInt32 &&& Int32.toUInt32 31)).toInt32) &&& 1431655765)).toUInt32 >>> ((2 : Int32).toUInt32 &&& Int32.toUInt32 31)).toInt32) &&& 858993459)) + (((((x - (((x.toUInt32 >>> ((1 : Int32).toUInt32 &&& Int32.toUInt32 31)).toInt32) &&& 1431655765)) &&& 858993459) + ((((x - (((x.toUInt32 >>> ((1 : Int32).toUInt32 &&& Int32.toUInt32 31)).toInt32) &&& 1431655765)).toUInt32 >>> ((2 : Int32).toUInt32 &&& Int32.toUInt32 31)).toInt32) &&& 858993459)).toUInt32 >>> ((4 : Int32).toUInt32 &&& Int32.toUInt32 31)).toInt32)) &&& 252645135) + (((((((x - (((x.toUInt32 >>> ((1 : Int32).toUInt32 &&& Int32.toUInt32 31)).toInt32) &&& 1431655765)) &&& 858993459) + ((((x - (((x.toUInt32 >>> ((1 : Int32).toUInt32 &&& Int32.toUInt32 31)).toInt32) &&& 1431655765)).toUInt32 >>> ((2 : Int32).toUInt32 &&& Int32.toUInt32 31)).toInt32) &&& 858993459)) + (((((x - (((x.toUInt32 >>> ((1 : Int32).toUInt32 &&& Int32.toUInt32 31)).toInt32) &&& 1431655765)) &&& 858993459) + ((((x - (((x.toUInt32 >>> ((1 : Int32).toUInt32 &&& Int32.toUInt32 31)).toInt32) &&& 1431655765)).toUInt32 >>> ((2 : Int32).toUInt32 &&& Int32.toUInt32 31)).toInt32) &&& 858993459)).toUInt32 >>> ((4 : Int32).toUInt32 &&& Int32.toUInt32 31)).toInt32)) &&& 252645135).toUInt32 >>> ((8 : Int32).toUInt32 &&& Int32.toUInt32 31)).toInt32)) + ((((((((x - (((x.toUInt32 >>> ((1 : Int32).toUInt32 &&& Int32.toUInt32 31)).toInt32) &&& 1431655765)) &&& 858993459) + ((((x - (((x.toUInt32 >>> ((1 : Int32).toUInt32 &&& Int32.toUInt32 31)).toInt32) &&& 1431655765)).toUInt32 >>> ((2 : Int32).toUInt32 &&& Int32.toUInt32 31)).toInt32) &&& 858993459)) + (((((x - (((x.toUInt32 >>> ((1 : Int32).toUInt32 &&& Int32.toUInt32 31)).toInt32) &&& 1431655765)) &&& 858993459) + ((((x - (((x.toUInt32 >>> ((1 : Int32).toUInt32 &&& Int32.toUInt32 31)).toInt32) &&& 1431655765)).toUInt32 >>> ((2 : Int32).toUInt32 &&& Int32.toUInt32 31)).toInt32) &&& 858993459)).toUInt32 >>> ((4 : Int32).toUInt32 &&& Int32.toUInt32 31)).toInt32)) &&& 252645135) + (((((((x - (((x.toUInt32 >>> ((1 : Int32).toUInt32 &&& Int32.toUInt32 31)).toInt32) &&& 1431655765)) &&& 858993459) + ((((x - (((x.toUInt32 >>> ((1 : Int32).toUInt32 &&& Int32.toUInt32 31)).toInt32) &&& 1431655765)).toUInt32 >>> ((2 : Int32).toUInt32 &&& Int32.toUInt32 31)).toInt32) &&& 858993459)) + (((((x - (((x.toUInt32 >>> ((1 : Int32).toUInt32 &&& Int32.toUInt32 31)).toInt32) &&& 1431655765)) &&& 858993459) + ((((x - (((x.toUInt32 >>> ((1 : Int32).toUInt32 &&& Int32.toUInt32 31)).toInt32) &&& 1431655765)).toUInt32 >>> ((2 : Int32).toUInt32 &&& Int32.toUInt32 31)).toInt32) &&& 858993459)).toUInt32 >>> ((4 : Int32).toUInt32 &&& Int32.toUInt32 31)).toInt32)) &&& 252645135).toUInt32 >>> ((8 : Int32).toUInt32 &&& Int32.toUInt32 31)).toInt32)).toUInt32 >>> ((16 : Int32).toUInt32 &&& Int32.toUInt32 31)).toInt32)) &&& 63 from (by rw [bitCount])], ht⟩) (fun q h => absurd h List.not_mem_nil) d_J_bitCount_52
set_option maxRecDepth 100000 in
set_option maxHeartbeats 4000000 in
theorem c_A_holds (l : Launch) (dC : Nat → ClassId) (dI : Nat → Nat → Nat) (cI cZ : ClassId) (set : Int32) (v : Int32) : Met l y_A_holds w_A_holds rm_A_holds (va_Pc [.int set, .int v] (vz_B (dC, dI) vwCl [] [(cI, .int), (cZ, .boolean)])) (QcRead (hHolds set v)) 0 0 (fun _ => False) := by
  refine Met.ofW (cc := b_A_holds) (maxL := 2) (ret := (some .boolean)) (by decide) rfl ?_
  intro p e s m args below meth c s₁ B hml hv
  obtain ⟨rfl, hP, hK, hN⟩ := hv
  have hx := B.exec
  have hb := B.bytes
  have hr := B.returns
  have hts := atoms_spec (ws := w_A_holds) B.pre
  have hT : ∀ w ∈ vzB, w.before ([.int set, .int v] : List Value).toArray s = true := fun w h => hts w (List.mem_cons_of_mem _ h)
  have hown : s.vm.findClass "ArrowClasses" = some m.cls := findClass_of_methodNamed B.named
  have hlocks := B.notSynchronized
  have hl := lv_entry ([.int set, .int v]) (n := 2) (Nat.le_of_ble_eq_true rfl)
  rw [lg_entry_eq]
  generalize (lg_sl ([.int set, .int v]) ++ List.replicate (2 - (lg_sl ([.int set, .int v])).length) Slot.unset).toArray = ls at hl ⊢
  have hl : lv_has ls 2 [(0, .int set), (1, .int v)] := hl
  refine lv_iload_n hx hb d_A_holds_0 rfl (lv_at hl 0 rfl) ?_
  refine lv_iload_n hx hb d_A_holds_1 rfl (lv_at hl 1 rfl) ?_
  refine lv_ishr hx hb d_A_holds_2 ?_
  refine lv_iconst (v := 1) hx hb d_A_holds_3 (by decide) ?_
  refine lv_iand hx hb d_A_holds_4 ?_
  refine lv_if_eq (tgt := 12) hx hb d_A_holds_5 (by decide) (fun h1 => ?_) (fun h1 => ?_)
  ·
    refine lv_iconst (v := 0) hx hb d_A_holds_12 (by decide) ?_
    exact W.zret hx hb hr (by decide) (fun t ht hW => ⟨by rw [show (hHolds set v) = (0 : Int32) from (by rw [hHolds, if_pos h1])], ht⟩) (fun q h => absurd h List.not_mem_nil) d_A_holds_13
  ·
    refine lv_iconst (v := 1) hx hb d_A_holds_8 (by decide) ?_
    refine lv_goto (tgt := 13) hx hb d_A_holds_9 (by decide) ?_
    exact W.zret hx hb hr (by decide) (fun t ht hW => ⟨by rw [show (hHolds set v) = (1 : Int32) from (by rw [hHolds, if_neg h1])], ht⟩) (fun q h => absurd h List.not_mem_nil) d_A_holds_13
set_option maxRecDepth 100000 in
set_option maxHeartbeats 4000000 in
theorem c_G_has (l : Launch) (dC : Nat → ClassId) (dI : Nat → Nat → Nat) (cI cZ : ClassId) (qg qp qc : Nat) (n : Nat) (fc : Nat → Int32) (fp : Nat → Int32) (u : Int32) (v : Int32) (hv : vp_in v n) : Met l y_G_has w_G_has rm_G_has (va_Pc [.ref qg, .int u, .int v] (vz_B (dC, dI) vwCl [(qg, .inr (0, [.int (nI n), .ref qp, .ref qc])), (qp, .inl (cI, n, .inl fp)), (qc, .inl (cI, n, .inl fc))] [(cI, .int), (cZ, .boolean)])) (QcRead (gHas fp u v)) 0 0 (fun _ => False) := by
  refine Met.ofW (cc := b_G_has) (maxL := 3) (ret := (some .boolean)) (by decide) rfl ?_
  intro p e s m args below meth c s₁ B hml hv
  obtain ⟨rfl, hP, hK, hN⟩ := hv
  have hx := B.exec
  have hb := B.bytes
  have hr := B.returns
  have hts := atoms_spec (ws := w_G_has) B.pre
  have hT : ∀ w ∈ vzB, w.before ([.ref qg, .int u, .int v] : List Value).toArray s = true := fun w h => hts w (List.mem_cons_of_mem _ h)
  have hown : s.vm.findClass "ArrowClasses$Graph" = some m.cls := findClass_of_methodNamed B.named
  have hlocks := B.notSynchronized
  have hl := lv_entry ([.ref qg, .int u, .int v]) (n := 3) (Nat.le_of_ble_eq_true rfl)
  rw [lg_entry_eq]
  generalize (lg_sl ([.ref qg, .int u, .int v]) ++ List.replicate (3 - (lg_sl ([.ref qg, .int u, .int v])).length) Slot.unset).toArray = ls at hl ⊢
  have hl : lv_has ls 3 [(0, .ref qg), (1, .int u), (2, .int v)] := hl
  refine lv_aload_n hx hb d_G_has_0 rfl (lv_at hl 0 rfl) ?_
  refine va_get (D := (dC, dI)) (ci := 0) (v := .ref qp) (C := "ArrowClasses$Graph") (T := TG) (N := 3) hx hb hT inG hown hK hP 0 rfl rfl 1 (by decide) (hT _ wd_fld_G_13) (fun _ h9 => h9) rfl d_G_has_1 ?_
  refine lv_iload_n hx hb d_G_has_4 rfl (lv_at hl 2 rfl) ?_
  refine va_iald (D := (dC, dI)) hx hb hK hP 1 0 rfl rfl (by assumption) d_G_has_5 ?_
  refine lv_iload_n hx hb d_G_has_6 rfl (lv_at hl 1 rfl) ?_
  refine vz_ro (va_runSN (As := [.int (fp v.toNatClampNeg), .int u]) (rest := []) ⟨hx, hb, hml, hown, hT⟩ (c_A_holds l dC dI cI cZ (fp v.toNatClampNeg) u) (vz_cwN (n := 2) hT hN wd_stat_A_holds wd_ini_A wd_code_A_holds (by decide +kernel) ⟨Nat.le_of_ble_eq_true rfl, Nat.le_of_ble_eq_true rfl⟩) (vz_ps hN hK hP [] rfl) rfl rfl hl.1 rfl (lv_room (Nat.le_of_ble_eq_true rfl)) d_G_has_7 ⟨Nat.zero_le _, Nat.zero_le _⟩) ?_
  exact W.zret hx hb hr (vz_nz (hz_holds _ _)) (fun t ht hW => ⟨by rw [show (gHas fp u v) = (hHolds (fp v.toNatClampNeg) u) from (by rw [gHas])], ht⟩) (fun q h => absurd h List.not_mem_nil) d_G_has_10
set_option maxRecDepth 100000 in
set_option maxHeartbeats 4000000 in
theorem c_G_joins (l : Launch) (dC : Nat → ClassId) (dI : Nat → Nat → Nat) (cI cZ : ClassId) (qg qp qc : Nat) (n : Nat) (fc : Nat → Int32) (fp : Nat → Int32) (u : Int32) (v : Int32) (hu : vp_in u n) (hv : vp_in v n) : Met l y_G_joins w_G_joins rm_G_joins (va_Pc [.ref qg, .int u, .int v] (vz_B (dC, dI) vwCl [(qg, .inr (0, [.int (nI n), .ref qp, .ref qc])), (qp, .inl (cI, n, .inl fp)), (qc, .inl (cI, n, .inl fc))] [(cI, .int), (cZ, .boolean)])) (QcRead (gJoins fp u v)) 0 0 (fun _ => False) := by
  refine Met.ofW (cc := b_G_joins) (maxL := 3) (ret := (some .boolean)) (by decide) rfl ?_
  intro p e s m args below meth c s₁ B hml hv
  obtain ⟨rfl, hP, hK, hN⟩ := hv
  have hx := B.exec
  have hb := B.bytes
  have hr := B.returns
  have hts := atoms_spec (ws := w_G_joins) B.pre
  have hT : ∀ w ∈ vzB, w.before ([.ref qg, .int u, .int v] : List Value).toArray s = true := fun w h => hts w (List.mem_cons_of_mem _ h)
  have hown : s.vm.findClass "ArrowClasses$Graph" = some m.cls := findClass_of_methodNamed B.named
  have hlocks := B.notSynchronized
  have hl := lv_entry ([.ref qg, .int u, .int v]) (n := 3) (Nat.le_of_ble_eq_true rfl)
  rw [lg_entry_eq]
  generalize (lg_sl ([.ref qg, .int u, .int v]) ++ List.replicate (3 - (lg_sl ([.ref qg, .int u, .int v])).length) Slot.unset).toArray = ls at hl ⊢
  have hl : lv_has ls 3 [(0, .ref qg), (1, .int u), (2, .int v)] := hl
  refine lv_aload_n hx hb d_G_joins_0 rfl (lv_at hl 0 rfl) ?_
  refine lv_iload_n hx hb d_G_joins_1 rfl (lv_at hl 1 rfl) ?_
  refine lv_iload_n hx hb d_G_joins_2 rfl (lv_at hl 2 rfl) ?_
  refine vz_ro (va_runV (As := [.int u, .int v]) (rest := []) ⟨hx, hb, hml, hown, hT⟩ (c_G_has l dC dI cI cZ qg qp qc n fc fp u v (by assumption)) (vz_cwV (n := 2) hT wd_link_G_26 wd_inst_G_has wd_sel_G_has wd_ini_G wd_code_G_has (by decide +kernel) ⟨Nat.le_of_ble_eq_true rfl, Nat.le_of_ble_eq_true rfl⟩) (vz_pv (q0 := 0) (ci := 0) (q := ("ArrowClasses$Graph", TG, 3)) hN hK hP [0, 1, 2] rfl rfl rfl) rfl rfl hl.1 rfl (lv_room (Nat.le_of_ble_eq_true rfl)) d_G_joins_3 ⟨Nat.zero_le _, Nat.zero_le _⟩) ?_
  refine lv_if_ne (tgt := 18) hx hb d_G_joins_6 (by decide) (fun h1 => ?_) (fun h1 => ?_)
  ·
    refine lv_iconst (v := 1) hx hb d_G_joins_18 (by decide) ?_
    refine lv_goto (tgt := 23) hx hb d_G_joins_19 (by decide) ?_
    exact W.zret hx hb hr (by decide) (fun t ht hW => ⟨by rw [show (gJoins fp u v) = (1 : Int32) from (by rw [gJoins, if_neg h1])], ht⟩) (fun q h => absurd h List.not_mem_nil) d_G_joins_23
  ·
    refine lv_aload_n hx hb d_G_joins_9 rfl (lv_at hl 0 rfl) ?_
    refine lv_iload_n hx hb d_G_joins_10 rfl (lv_at hl 2 rfl) ?_
    refine lv_iload_n hx hb d_G_joins_11 rfl (lv_at hl 1 rfl) ?_
    refine vz_ro (va_runV (As := [.int v, .int u]) (rest := []) ⟨hx, hb, hml, hown, hT⟩ (c_G_has l dC dI cI cZ qg qp qc n fc fp v u (by assumption)) (vz_cwV (n := 2) hT wd_link_G_26 wd_inst_G_has wd_sel_G_has wd_ini_G wd_code_G_has (by decide +kernel) ⟨Nat.le_of_ble_eq_true rfl, Nat.le_of_ble_eq_true rfl⟩) (vz_pv (q0 := 0) (ci := 0) (q := ("ArrowClasses$Graph", TG, 3)) hN hK hP [0, 1, 2] rfl rfl rfl) rfl rfl hl.1 rfl (lv_room (Nat.le_of_ble_eq_true rfl)) d_G_joins_12 ⟨Nat.zero_le _, Nat.zero_le _⟩) ?_
    refine lv_if_eq (tgt := 22) hx hb d_G_joins_15 (by decide) (fun h2 => ?_) (fun h2 => ?_)
    ·
      refine lv_iconst (v := 0) hx hb d_G_joins_22 (by decide) ?_
      exact W.zret hx hb hr (by decide) (fun t ht hW => ⟨by rw [show (gJoins fp u v) = (0 : Int32) from (by rw [gJoins, if_pos h1, if_pos h2])], ht⟩) (fun q h => absurd h List.not_mem_nil) d_G_joins_23
    ·
      refine lv_iconst (v := 1) hx hb d_G_joins_18 (by decide) ?_
      refine lv_goto (tgt := 23) hx hb d_G_joins_19 (by decide) ?_
      exact W.zret hx hb hr (by decide) (fun t ht hW => ⟨by rw [show (gJoins fp u v) = (1 : Int32) from (by rw [gJoins, if_pos h1, if_neg h2])], ht⟩) (fun q h => absurd h List.not_mem_nil) d_G_joins_23
set_option maxRecDepth 100000 in
set_option maxHeartbeats 4000000 in
theorem c_G_put (l : Launch) (dC : Nat → ClassId) (dI : Nat → Nat → Nat) (cI cZ : ClassId) (qg qp qc : Nat) (n : Nat) (fp : Nat → Int32) (fc : Nat → Int32) (u : Int32) (v : Int32) (hu : vp_in u n) (hv : vp_in v n) (sz : Nat) : Met l y_G_put w_G_put rm_G_put (va_Pc [.ref qg, .int u, .int v] (vz_Bw (dC, dI) vwCl [(qg, .inr (0, [.int (nI n), .ref qp, .ref qc])), (qp, .inl (cI, n, .inl fp)), (qc, .inl (cI, n, .inl fc))] [(cI, .int), (cZ, .boolean)] sz)) (va_Qv (fun _ : Unit => True) (fun (_ : Unit) t => va_P (dC, dI) vwCl [(qg, .inr (0, [.int (nI n), .ref qp, .ref qc])), (qp, .inl (cI, n, .inl ((gPut fp fc u v).1))), (qc, .inl (cI, n, .inl ((gPut fp fc u v).2)))] t.heap ∧ va_K (dC, dI) vwCl [(cI, .int), (cZ, .boolean)] t ∧ va_D (va_A [(qg, .inr (0, [.int (nI n), .ref qp, .ref qc])), (qp, .inl (cI, n, .inl fp)), (qc, .inl (cI, n, .inl fc))] sz) [(qg, .inr (0, [.int (nI n), .ref qp, .ref qc])), (qp, .inl (cI, n, .inl ((gPut fp fc u v).1))), (qc, .inl (cI, n, .inl ((gPut fp fc u v).2)))]) (va_A [(qg, .inr (0, [.int (nI n), .ref qp, .ref qc])), (qp, .inl (cI, n, .inl fp)), (qc, .inl (cI, n, .inl fc))] sz)) 0 0 (va_A [(qg, .inr (0, [.int (nI n), .ref qp, .ref qc])), (qp, .inl (cI, n, .inl fp)), (qc, .inl (cI, n, .inl fc))] sz) := by
  refine Met.ofW (cc := b_G_put) (maxL := 3) (ret := none) (by decide) rfl ?_
  intro p e s m args below meth c s₁ B hml hv
  obtain ⟨rfl, hsz, hP, hK, hD0, hN⟩ := hv
  have hx := B.exec
  have hb := B.bytes
  have hr := B.returns
  have hts := atoms_spec (ws := w_G_put) B.pre
  have hT : ∀ w ∈ vzB, w.before ([.ref qg, .int u, .int v] : List Value).toArray s = true := fun w h => hts w (List.mem_cons_of_mem _ h)
  have hown : s.vm.findClass "ArrowClasses$Graph" = some m.cls := findClass_of_methodNamed B.named
  have hlocks := B.notSynchronized
  subst hsz
  have hD := hD0.self (sz := s.heap.size)
  have hA : ∀ q : Nat, s.heap.size ≤ q → va_A [(qg, .inr (0, [.int (nI n), .ref qp, .ref qc])), (qp, .inl (cI, n, .inl fp)), (qc, .inl (cI, n, .inl fc))] s.heap.size q := fun q h => Or.inr h
  have hS : va_S (va_A [(qg, .inr (0, [.int (nI n), .ref qp, .ref qc])), (qp, .inl (cI, n, .inl fp)), (qc, .inl (cI, n, .inl fc))] s.heap.size) s.heap s.heap [] := va_S.rf
  have hl := lv_entry ([.ref qg, .int u, .int v]) (n := 3) (Nat.le_of_ble_eq_true rfl)
  rw [lg_entry_eq]
  generalize (lg_sl ([.ref qg, .int u, .int v]) ++ List.replicate (3 - (lg_sl ([.ref qg, .int u, .int v])).length) Slot.unset).toArray = ls at hl ⊢
  have hl : lv_has ls 3 [(0, .ref qg), (1, .int u), (2, .int v)] := hl
  refine lv_aload_n hx hb d_G_put_0 rfl (lv_at hl 0 rfl) ?_
  refine va_get (D := (dC, dI)) (ci := 0) (v := .ref qp) (C := "ArrowClasses$Graph") (T := TG) (N := 3) hx hb hT inG hown hK hP 0 rfl rfl 1 (by decide) (hT _ wd_fld_G_13) (fun _ h9 => h9) rfl d_G_put_1 ?_
  refine lv_iload_n hx hb d_G_put_4 rfl (lv_at hl 2 rfl) ?_
  refine lv_dup2_11 hx hb d_G_put_5 rfl rfl ?_
  refine va_iald (D := (dC, dI)) hx hb hK hP 1 0 rfl rfl (by assumption) d_G_put_6 ?_
  refine lv_iconst (v := 1) hx hb d_G_put_7 (by decide) ?_
  refine lv_iload_n hx hb d_G_put_8 rfl (lv_at hl 1 rfl) ?_
  refine lv_ishl hx hb d_G_put_9 ?_
  refine lv_ior hx hb d_G_put_10 ?_
  refine va_iast (D := (dC, dI)) hx hb hK hP hD hS 1 0 rfl rfl (by assumption) d_G_put_11 (fun H locs hP hD hS => ?_)
  have hP : va_P (dC, dI) vwCl [(qg, .inr (0, [.int (nI n), .ref qp, .ref qc])), (qp, .inl (cI, n, .inl (upd fp v.toNatClampNeg ((fp v.toNatClampNeg) ||| (1 <<< (u &&& 31)))))), (qc, .inl (cI, n, .inl fc))] H := hP
  have hD : va_D (va_A [(qg, .inr (0, [.int (nI n), .ref qp, .ref qc])), (qp, .inl (cI, n, .inl fp)), (qc, .inl (cI, n, .inl fc))] s.heap.size) [(qg, .inr (0, [.int (nI n), .ref qp, .ref qc])), (qp, .inl (cI, n, .inl (upd fp v.toNatClampNeg ((fp v.toNatClampNeg) ||| (1 <<< (u &&& 31)))))), (qc, .inl (cI, n, .inl fc))] := hD
  refine lv_aload_n hx hb d_G_put_12 rfl (lv_at hl 0 rfl) ?_
  refine va_get (D := (dC, dI)) (ci := 0) (v := .ref qc) (C := "ArrowClasses$Graph") (T := TG) (N := 3) hx hb hT inG hown hK hP 0 rfl rfl 2 (by decide) (hT _ wd_fld_G_17) (fun _ h9 => h9) rfl d_G_put_13 ?_
  refine lv_iload_n hx hb d_G_put_16 rfl (lv_at hl 1 rfl) ?_
  refine lv_dup2_11 hx hb d_G_put_17 rfl rfl ?_
  refine va_iald (D := (dC, dI)) hx hb hK hP 2 0 rfl rfl (by assumption) d_G_put_18 ?_
  refine lv_iconst (v := 1) hx hb d_G_put_19 (by decide) ?_
  refine lv_iload_n hx hb d_G_put_20 rfl (lv_at hl 2 rfl) ?_
  refine lv_ishl hx hb d_G_put_21 ?_
  refine lv_ior hx hb d_G_put_22 ?_
  refine va_iast (D := (dC, dI)) hx hb hK hP hD hS 2 0 rfl rfl (by assumption) d_G_put_23 (fun H locs hP hD hS => ?_)
  have hP : va_P (dC, dI) vwCl [(qg, .inr (0, [.int (nI n), .ref qp, .ref qc])), (qp, .inl (cI, n, .inl (upd fp v.toNatClampNeg ((fp v.toNatClampNeg) ||| (1 <<< (u &&& 31)))))), (qc, .inl (cI, n, .inl (upd fc u.toNatClampNeg ((fc u.toNatClampNeg) ||| (1 <<< (v &&& 31))))))] H := hP
  have hD : va_D (va_A [(qg, .inr (0, [.int (nI n), .ref qp, .ref qc])), (qp, .inl (cI, n, .inl fp)), (qc, .inl (cI, n, .inl fc))] s.heap.size) [(qg, .inr (0, [.int (nI n), .ref qp, .ref qc])), (qp, .inl (cI, n, .inl (upd fp v.toNatClampNeg ((fp v.toNatClampNeg) ||| (1 <<< (u &&& 31)))))), (qc, .inl (cI, n, .inl (upd fc u.toNatClampNeg ((fc u.toNatClampNeg) ||| (1 <<< (v &&& 31))))))] := hD
  have hF : (gPut fp fc u v) = (upd fp v.toNatClampNeg ((fp v.toNatClampNeg) ||| (1 <<< (u &&& 31))), upd fc u.toNatClampNeg ((fc u.toNatClampNeg) ||| (1 <<< (v &&& 31)))) := (by rw [gPut])
  exact W.vret hx hb hr (fun t ht hW => ⟨⟨(), rfl, trivial, by rw [hF, ht]; exact hP, va_K.moved hW.alike hK, by rw [hF]; exact hD⟩, hS.F ht⟩) hS.2.2 d_G_put_24
set_option maxRecDepth 100000 in
set_option maxHeartbeats 4000000 in
theorem c_G_take (l : Launch) (dC : Nat → ClassId) (dI : Nat → Nat → Nat) (cI cZ : ClassId) (qg qp qc : Nat) (n : Nat) (fp : Nat → Int32) (fc : Nat → Int32) (u : Int32) (v : Int32) (hu : vp_in u n) (hv : vp_in v n) (sz : Nat) : Met l y_G_take w_G_take rm_G_take (va_Pc [.ref qg, .int u, .int v] (vz_Bw (dC, dI) vwCl [(qg, .inr (0, [.int (nI n), .ref qp, .ref qc])), (qp, .inl (cI, n, .inl fp)), (qc, .inl (cI, n, .inl fc))] [(cI, .int), (cZ, .boolean)] sz)) (va_Qv (fun _ : Unit => True) (fun (_ : Unit) t => va_P (dC, dI) vwCl [(qg, .inr (0, [.int (nI n), .ref qp, .ref qc])), (qp, .inl (cI, n, .inl ((gTake fp fc u v).1))), (qc, .inl (cI, n, .inl ((gTake fp fc u v).2)))] t.heap ∧ va_K (dC, dI) vwCl [(cI, .int), (cZ, .boolean)] t ∧ va_D (va_A [(qg, .inr (0, [.int (nI n), .ref qp, .ref qc])), (qp, .inl (cI, n, .inl fp)), (qc, .inl (cI, n, .inl fc))] sz) [(qg, .inr (0, [.int (nI n), .ref qp, .ref qc])), (qp, .inl (cI, n, .inl ((gTake fp fc u v).1))), (qc, .inl (cI, n, .inl ((gTake fp fc u v).2)))]) (va_A [(qg, .inr (0, [.int (nI n), .ref qp, .ref qc])), (qp, .inl (cI, n, .inl fp)), (qc, .inl (cI, n, .inl fc))] sz)) 0 0 (va_A [(qg, .inr (0, [.int (nI n), .ref qp, .ref qc])), (qp, .inl (cI, n, .inl fp)), (qc, .inl (cI, n, .inl fc))] sz) := by
  refine Met.ofW (cc := b_G_take) (maxL := 3) (ret := none) (by decide) rfl ?_
  intro p e s m args below meth c s₁ B hml hv
  obtain ⟨rfl, hsz, hP, hK, hD0, hN⟩ := hv
  have hx := B.exec
  have hb := B.bytes
  have hr := B.returns
  have hts := atoms_spec (ws := w_G_take) B.pre
  have hT : ∀ w ∈ vzB, w.before ([.ref qg, .int u, .int v] : List Value).toArray s = true := fun w h => hts w (List.mem_cons_of_mem _ h)
  have hown : s.vm.findClass "ArrowClasses$Graph" = some m.cls := findClass_of_methodNamed B.named
  have hlocks := B.notSynchronized
  subst hsz
  have hD := hD0.self (sz := s.heap.size)
  have hA : ∀ q : Nat, s.heap.size ≤ q → va_A [(qg, .inr (0, [.int (nI n), .ref qp, .ref qc])), (qp, .inl (cI, n, .inl fp)), (qc, .inl (cI, n, .inl fc))] s.heap.size q := fun q h => Or.inr h
  have hS : va_S (va_A [(qg, .inr (0, [.int (nI n), .ref qp, .ref qc])), (qp, .inl (cI, n, .inl fp)), (qc, .inl (cI, n, .inl fc))] s.heap.size) s.heap s.heap [] := va_S.rf
  have hl := lv_entry ([.ref qg, .int u, .int v]) (n := 3) (Nat.le_of_ble_eq_true rfl)
  rw [lg_entry_eq]
  generalize (lg_sl ([.ref qg, .int u, .int v]) ++ List.replicate (3 - (lg_sl ([.ref qg, .int u, .int v])).length) Slot.unset).toArray = ls at hl ⊢
  have hl : lv_has ls 3 [(0, .ref qg), (1, .int u), (2, .int v)] := hl
  refine lv_aload_n hx hb d_G_take_0 rfl (lv_at hl 0 rfl) ?_
  refine va_get (D := (dC, dI)) (ci := 0) (v := .ref qp) (C := "ArrowClasses$Graph") (T := TG) (N := 3) hx hb hT inG hown hK hP 0 rfl rfl 1 (by decide) (hT _ wd_fld_G_13) (fun _ h9 => h9) rfl d_G_take_1 ?_
  refine lv_iload_n hx hb d_G_take_4 rfl (lv_at hl 2 rfl) ?_
  refine lv_dup2_11 hx hb d_G_take_5 rfl rfl ?_
  refine va_iald (D := (dC, dI)) hx hb hK hP 1 0 rfl rfl (by assumption) d_G_take_6 ?_
  refine lv_iconst (v := 1) hx hb d_G_take_7 (by decide) ?_
  refine lv_iload_n hx hb d_G_take_8 rfl (lv_at hl 1 rfl) ?_
  refine lv_ishl hx hb d_G_take_9 ?_
  refine lv_iconst (v := -1) hx hb d_G_take_10 (by decide) ?_
  refine lv_ixor hx hb d_G_take_11 ?_
  refine lv_iand hx hb d_G_take_12 ?_
  refine va_iast (D := (dC, dI)) hx hb hK hP hD hS 1 0 rfl rfl (by assumption) d_G_take_13 (fun H locs hP hD hS => ?_)
  have hP : va_P (dC, dI) vwCl [(qg, .inr (0, [.int (nI n), .ref qp, .ref qc])), (qp, .inl (cI, n, .inl (upd fp v.toNatClampNeg ((fp v.toNatClampNeg) &&& ((1 <<< (u &&& 31)) ^^^ (-1)))))), (qc, .inl (cI, n, .inl fc))] H := hP
  have hD : va_D (va_A [(qg, .inr (0, [.int (nI n), .ref qp, .ref qc])), (qp, .inl (cI, n, .inl fp)), (qc, .inl (cI, n, .inl fc))] s.heap.size) [(qg, .inr (0, [.int (nI n), .ref qp, .ref qc])), (qp, .inl (cI, n, .inl (upd fp v.toNatClampNeg ((fp v.toNatClampNeg) &&& ((1 <<< (u &&& 31)) ^^^ (-1)))))), (qc, .inl (cI, n, .inl fc))] := hD
  refine lv_aload_n hx hb d_G_take_14 rfl (lv_at hl 0 rfl) ?_
  refine va_get (D := (dC, dI)) (ci := 0) (v := .ref qc) (C := "ArrowClasses$Graph") (T := TG) (N := 3) hx hb hT inG hown hK hP 0 rfl rfl 2 (by decide) (hT _ wd_fld_G_17) (fun _ h9 => h9) rfl d_G_take_15 ?_
  refine lv_iload_n hx hb d_G_take_18 rfl (lv_at hl 1 rfl) ?_
  refine lv_dup2_11 hx hb d_G_take_19 rfl rfl ?_
  refine va_iald (D := (dC, dI)) hx hb hK hP 2 0 rfl rfl (by assumption) d_G_take_20 ?_
  refine lv_iconst (v := 1) hx hb d_G_take_21 (by decide) ?_
  refine lv_iload_n hx hb d_G_take_22 rfl (lv_at hl 2 rfl) ?_
  refine lv_ishl hx hb d_G_take_23 ?_
  refine lv_iconst (v := -1) hx hb d_G_take_24 (by decide) ?_
  refine lv_ixor hx hb d_G_take_25 ?_
  refine lv_iand hx hb d_G_take_26 ?_
  refine va_iast (D := (dC, dI)) hx hb hK hP hD hS 2 0 rfl rfl (by assumption) d_G_take_27 (fun H locs hP hD hS => ?_)
  have hP : va_P (dC, dI) vwCl [(qg, .inr (0, [.int (nI n), .ref qp, .ref qc])), (qp, .inl (cI, n, .inl (upd fp v.toNatClampNeg ((fp v.toNatClampNeg) &&& ((1 <<< (u &&& 31)) ^^^ (-1)))))), (qc, .inl (cI, n, .inl (upd fc u.toNatClampNeg ((fc u.toNatClampNeg) &&& ((1 <<< (v &&& 31)) ^^^ (-1))))))] H := hP
  have hD : va_D (va_A [(qg, .inr (0, [.int (nI n), .ref qp, .ref qc])), (qp, .inl (cI, n, .inl fp)), (qc, .inl (cI, n, .inl fc))] s.heap.size) [(qg, .inr (0, [.int (nI n), .ref qp, .ref qc])), (qp, .inl (cI, n, .inl (upd fp v.toNatClampNeg ((fp v.toNatClampNeg) &&& ((1 <<< (u &&& 31)) ^^^ (-1)))))), (qc, .inl (cI, n, .inl (upd fc u.toNatClampNeg ((fc u.toNatClampNeg) &&& ((1 <<< (v &&& 31)) ^^^ (-1))))))] := hD
  have hF : (gTake fp fc u v) = (upd fp v.toNatClampNeg ((fp v.toNatClampNeg) &&& ((1 <<< (u &&& 31)) ^^^ (-1))), upd fc u.toNatClampNeg ((fc u.toNatClampNeg) &&& ((1 <<< (v &&& 31)) ^^^ (-1)))) := (by rw [gTake])
  exact W.vret hx hb hr (fun t ht hW => ⟨⟨(), rfl, trivial, by rw [hF, ht]; exact hP, va_K.moved hW.alike hK, by rw [hF]; exact hD⟩, hS.F ht⟩) hS.2.2 d_G_take_28
set_option maxRecDepth 100000 in
set_option maxHeartbeats 4000000 in
theorem c_G_empty (l : Launch) (dC : Nat → ClassId) (dI : Nat → Nat → Nat) (cI cZ : ClassId) (qg qp qc : Nat) (n : Nat) (fp : Nat → Int32) (fc : Nat → Int32) (hn : n ≤ 6) (sz : Nat) : Met l y_G_empty w_G_empty rm_G_empty (va_Pc [.ref qg] (vz_Bw (dC, dI) vwCl [(qg, .inr (0, [.int (nI n), .ref qp, .ref qc])), (qp, .inl (cI, n, .inl fp)), (qc, .inl (cI, n, .inl fc))] [(cI, .int), (cZ, .boolean)] sz)) (va_Qv (fun _ : Unit => True) (fun (_ : Unit) t => va_P (dC, dI) vwCl [(qg, .inr (0, [.int (nI n), .ref qp, .ref qc])), (qp, .inl (cI, n, .inl ((gEmpty n fp fc).1))), (qc, .inl (cI, n, .inl ((gEmpty n fp fc).2)))] t.heap ∧ va_K (dC, dI) vwCl [(cI, .int), (cZ, .boolean)] t ∧ va_D (va_A [(qg, .inr (0, [.int (nI n), .ref qp, .ref qc])), (qp, .inl (cI, n, .inl fp)), (qc, .inl (cI, n, .inl fc))] sz) [(qg, .inr (0, [.int (nI n), .ref qp, .ref qc])), (qp, .inl (cI, n, .inl ((gEmpty n fp fc).1))), (qc, .inl (cI, n, .inl ((gEmpty n fp fc).2)))]) (va_A [(qg, .inr (0, [.int (nI n), .ref qp, .ref qc])), (qp, .inl (cI, n, .inl fp)), (qc, .inl (cI, n, .inl fc))] sz)) 0 0 (va_A [(qg, .inr (0, [.int (nI n), .ref qp, .ref qc])), (qp, .inl (cI, n, .inl fp)), (qc, .inl (cI, n, .inl fc))] sz) := by
  refine Met.ofW (cc := b_G_empty) (maxL := 2) (ret := none) (by decide) rfl ?_
  intro p e s m args below meth c s₁ B hml hv
  obtain ⟨rfl, hsz, hP, hK, hD0, hN⟩ := hv
  have hx := B.exec
  have hb := B.bytes
  have hr := B.returns
  have hts := atoms_spec (ws := w_G_empty) B.pre
  have hT : ∀ w ∈ vzB, w.before ([.ref qg] : List Value).toArray s = true := fun w h => hts w (List.mem_cons_of_mem _ h)
  have hown : s.vm.findClass "ArrowClasses$Graph" = some m.cls := findClass_of_methodNamed B.named
  have hlocks := B.notSynchronized
  subst hsz
  have hD := hD0.self (sz := s.heap.size)
  have hA : ∀ q : Nat, s.heap.size ≤ q → va_A [(qg, .inr (0, [.int (nI n), .ref qp, .ref qc])), (qp, .inl (cI, n, .inl fp)), (qc, .inl (cI, n, .inl fc))] s.heap.size q := fun q h => Or.inr h
  have hS : va_S (va_A [(qg, .inr (0, [.int (nI n), .ref qp, .ref qc])), (qp, .inl (cI, n, .inl fp)), (qc, .inl (cI, n, .inl fc))] s.heap.size) s.heap s.heap [] := va_S.rf
  have hl := lv_entry ([.ref qg]) (n := 2) (Nat.le_of_ble_eq_true rfl)
  rw [lg_entry_eq]
  generalize (lg_sl ([.ref qg]) ++ List.replicate (2 - (lg_sl ([.ref qg])).length) Slot.unset).toArray = ls at hl ⊢
  have hl : lv_has ls 2 [(0, .ref qg)] := hl
  refine lv_iconst (v := 0) hx hb d_G_empty_0 (by decide) ?_
  refine vz_top (y := nI 0) (by decide) ?_
  refine lv_istore_n hx hb d_G_empty_1 rfl hl (by decide) rfl (fun ls hl => ?_)
  have hl : lv_has ls 2 [(1, .int (nI 0)), (0, .ref qg)] := hl
  have lp_2 : ∀ (k_2 i_2 : Nat) (q_2 : Nat → Int32) (r_2 : Nat → Int32) (H : Heap) (locs : List Loc) (ls : Array Slot), i_2 + k_2 = n → gEmpty_L2 n fp fc k_2 i_2 q_2 r_2 = (gEmpty n fp fc) → va_P (dC, dI) vwCl [(qg, .inr (0, [.int (nI n), .ref qp, .ref qc])), (qp, .inl (cI, n, .inl q_2)), (qc, .inl (cI, n, .inl r_2))] H → va_D (va_A [(qg, .inr (0, [.int (nI n), .ref qp, .ref qc])), (qp, .inl (cI, n, .inl fp)), (qc, .inl (cI, n, .inl fc))] s.heap.size) [(qg, .inr (0, [.int (nI n), .ref qp, .ref qc])), (qp, .inl (cI, n, .inl q_2)), (qc, .inl (cI, n, .inl r_2))] → va_S (va_A [(qg, .inr (0, [.int (nI n), .ref qp, .ref qc])), (qp, .inl (cI, n, .inl fp)), (qc, .inl (cI, n, .inl fc))] s.heap.size) s.heap H locs → lv_has ls 2 [(1, .int (nI i_2)), (0, .ref qg)] → W p l e (headSpec w_G_empty rm_G_empty).room s m ([.ref qg] : List Value).toArray below meth c H locs 0 0 (MQ below (va_Qv (fun _ : Unit => True) (fun (_ : Unit) t => va_P (dC, dI) vwCl [(qg, .inr (0, [.int (nI n), .ref qp, .ref qc])), (qp, .inl (cI, n, .inl ((gEmpty n fp fc).1))), (qc, .inl (cI, n, .inl ((gEmpty n fp fc).2)))] t.heap ∧ va_K (dC, dI) vwCl [(cI, .int), (cZ, .boolean)] t ∧ va_D (va_A [(qg, .inr (0, [.int (nI n), .ref qp, .ref qc])), (qp, .inl (cI, n, .inl fp)), (qc, .inl (cI, n, .inl fc))] s.heap.size) [(qg, .inr (0, [.int (nI n), .ref qp, .ref qc])), (qp, .inl (cI, n, .inl ((gEmpty n fp fc).1))), (qc, .inl (cI, n, .inl ((gEmpty n fp fc).2)))]) (va_A [(qg, .inr (0, [.int (nI n), .ref qp, .ref qc])), (qp, .inl (cI, n, .inl fp)), (qc, .inl (cI, n, .inl fc))] s.heap.size)) ([.ref qg] : List Value).toArray s 0 0 (va_A [(qg, .inr (0, [.int (nI n), .ref qp, .ref qc])), (qp, .inl (cI, n, .inl fp)), (qc, .inl (cI, n, .inl fc))] s.heap.size)) (F0 m 2 ls []) := by
    intro k_2
    induction k_2 with
    | zero =>
      intro i_2 q_2 r_2 H locs ls hik_2 hfin_2 hP hD hS hl
      refine lv_iload_n hx hb d_G_empty_2 rfl (lv_at hl 0 rfl) ?_
      refine lv_aload_n hx hb d_G_empty_3 rfl (lv_at hl 1 rfl) ?_
      refine va_get (D := (dC, dI)) (ci := 0) (v := .int (nI n)) (C := "ArrowClasses$Graph") (T := TG) (N := 3) hx hb hT inG hown hK hP 0 rfl rfl 0 (by decide) (hT _ wd_fld_G_7) (fun _ h9 => h9) rfl d_G_empty_4 ?_
      refine lv_icmp_ge (tgt := 30) hx hb d_G_empty_7 (by decide) (fun _ => ?_) (fun h1 => by rw [nI_leI (by omega) (by omega)] at h1; omega)
      have hF : (gEmpty n fp fc) = (q_2, r_2) := (hfin_2.symm.trans (by rw [gEmpty_L2]))
      exact W.vret hx hb hr (fun t ht hW => ⟨⟨(), rfl, trivial, by rw [hF, ht]; exact hP, va_K.moved hW.alike hK, by rw [hF]; exact hD⟩, hS.F ht⟩) hS.2.2 d_G_empty_30
    | succ k_2 ih_2 =>
      intro i_2 q_2 r_2 H locs ls hik_2 hfin_2 hP hD hS hl
      refine lv_iload_n hx hb d_G_empty_2 rfl (lv_at hl 0 rfl) ?_
      refine lv_aload_n hx hb d_G_empty_3 rfl (lv_at hl 1 rfl) ?_
      refine va_get (D := (dC, dI)) (ci := 0) (v := .int (nI n)) (C := "ArrowClasses$Graph") (T := TG) (N := 3) hx hb hT inG hown hK hP 0 rfl rfl 0 (by decide) (hT _ wd_fld_G_7) (fun _ h9 => h9) rfl d_G_empty_4 ?_
      refine lv_icmp_ge (tgt := 30) hx hb d_G_empty_7 (by decide) (fun h2 => by rw [nI_leI (by omega) (by omega)] at h2; omega) (fun _ => ?_)
      refine lv_aload_n hx hb d_G_empty_10 rfl (lv_at hl 1 rfl) ?_
      refine va_get (D := (dC, dI)) (ci := 0) (v := .ref qp) (C := "ArrowClasses$Graph") (T := TG) (N := 3) hx hb hT inG hown hK hP 0 rfl rfl 1 (by decide) (hT _ wd_fld_G_13) (fun _ h9 => h9) rfl d_G_empty_11 ?_
      refine lv_iload_n hx hb d_G_empty_14 rfl (lv_at hl 0 rfl) ?_
      refine lv_iconst (v := 0) hx hb d_G_empty_15 (by decide) ?_
      refine va_iast (D := (dC, dI)) hx hb hK hP hD hS 1 0 rfl rfl (vp_in_nI (by omega) (by omega)) d_G_empty_16 (fun H locs hP hD hS => ?_)
      have hP : va_P (dC, dI) vwCl [(qg, .inr (0, [.int (nI n), .ref qp, .ref qc])), (qp, .inl (cI, n, .inl (upd q_2 (nI i_2).toNatClampNeg 0))), (qc, .inl (cI, n, .inl r_2))] H := hP
      have hD : va_D (va_A [(qg, .inr (0, [.int (nI n), .ref qp, .ref qc])), (qp, .inl (cI, n, .inl fp)), (qc, .inl (cI, n, .inl fc))] s.heap.size) [(qg, .inr (0, [.int (nI n), .ref qp, .ref qc])), (qp, .inl (cI, n, .inl (upd q_2 (nI i_2).toNatClampNeg 0))), (qc, .inl (cI, n, .inl r_2))] := hD
      refine lv_aload_n hx hb d_G_empty_17 rfl (lv_at hl 1 rfl) ?_
      refine va_get (D := (dC, dI)) (ci := 0) (v := .ref qc) (C := "ArrowClasses$Graph") (T := TG) (N := 3) hx hb hT inG hown hK hP 0 rfl rfl 2 (by decide) (hT _ wd_fld_G_17) (fun _ h9 => h9) rfl d_G_empty_18 ?_
      refine lv_iload_n hx hb d_G_empty_21 rfl (lv_at hl 0 rfl) ?_
      refine lv_iconst (v := 0) hx hb d_G_empty_22 (by decide) ?_
      refine va_iast (D := (dC, dI)) hx hb hK hP hD hS 2 0 rfl rfl (vp_in_nI (by omega) (by omega)) d_G_empty_23 (fun H locs hP hD hS => ?_)
      have hP : va_P (dC, dI) vwCl [(qg, .inr (0, [.int (nI n), .ref qp, .ref qc])), (qp, .inl (cI, n, .inl (upd q_2 (nI i_2).toNatClampNeg 0))), (qc, .inl (cI, n, .inl (upd r_2 (nI i_2).toNatClampNeg 0)))] H := hP
      have hD : va_D (va_A [(qg, .inr (0, [.int (nI n), .ref qp, .ref qc])), (qp, .inl (cI, n, .inl fp)), (qc, .inl (cI, n, .inl fc))] s.heap.size) [(qg, .inr (0, [.int (nI n), .ref qp, .ref qc])), (qp, .inl (cI, n, .inl (upd q_2 (nI i_2).toNatClampNeg 0))), (qc, .inl (cI, n, .inl (upd r_2 (nI i_2).toNatClampNeg 0)))] := hD
      refine lv_iinc (k := 0) (v := nI (i_2 + 1)) hx hb d_G_empty_24 hl rfl (vz_inc i_2) (by decide) rfl (fun ls hl => ?_)
      have hl : lv_has ls 2 [(1, .int (nI (i_2 + 1))), (0, .ref qg)] := hl
      refine lv_goto (tgt := 2) hx hb d_G_empty_27 (by decide) ?_
      exact ih_2 (i_2 + 1) (upd q_2 (nI i_2).toNatClampNeg 0) (upd r_2 (nI i_2).toNatClampNeg 0) H locs ls (by omega) (by rw [gEmpty_L2] at hfin_2; exact hfin_2) hP hD hS (lv_sub hl [0, 1] rfl)
  exact lp_2 n 0 fp fc _ _ _ (by omega) (by rw [gEmpty]) hP hD hS (lv_sub hl [0, 1] rfl)
set_option maxRecDepth 100000 in
set_option maxHeartbeats 4000000 in
theorem c_G_size (l : Launch) (dC : Nat → ClassId) (dI : Nat → Nat → Nat) (cI cZ : ClassId) (qg qp qc : Nat) (fc : Nat → Int32) (n : Nat) (fp : Nat → Int32) (hn : n ≤ 6) : Met l y_G_size w_G_size rm_G_size (va_Pc [.ref qg] (vz_B (dC, dI) vwCl [(qg, .inr (0, [.int (nI n), .ref qp, .ref qc])), (qp, .inl (cI, n, .inl fp)), (qc, .inl (cI, n, .inl fc))] [(cI, .int), (cZ, .boolean)])) (QcRead (gSize n fp)) 0 0 (fun _ => False) := by
  refine Met.ofW (cc := b_G_size) (maxL := 3) (ret := (some .int)) (by decide) rfl ?_
  intro p e s m args below meth c s₁ B hml hv
  obtain ⟨rfl, hP, hK, hN⟩ := hv
  have hx := B.exec
  have hb := B.bytes
  have hr := B.returns
  have hts := atoms_spec (ws := w_G_size) B.pre
  have hT : ∀ w ∈ vzB, w.before ([.ref qg] : List Value).toArray s = true := fun w h => hts w (List.mem_cons_of_mem _ h)
  have hown : s.vm.findClass "ArrowClasses$Graph" = some m.cls := findClass_of_methodNamed B.named
  have hlocks := B.notSynchronized
  have hl := lv_entry ([.ref qg]) (n := 3) (Nat.le_of_ble_eq_true rfl)
  rw [lg_entry_eq]
  generalize (lg_sl ([.ref qg]) ++ List.replicate (3 - (lg_sl ([.ref qg])).length) Slot.unset).toArray = ls at hl ⊢
  have hl : lv_has ls 3 [(0, .ref qg)] := hl
  refine lv_iconst (v := 0) hx hb d_G_size_0 (by decide) ?_
  refine lv_istore_n hx hb d_G_size_1 rfl hl (by decide) rfl (fun ls hl => ?_)
  have hl : lv_has ls 3 [(1, .int 0), (0, .ref qg)] := hl
  refine lv_iconst (v := 0) hx hb d_G_size_2 (by decide) ?_
  refine vz_top (y := nI 0) (by decide) ?_
  refine lv_istore_n hx hb d_G_size_3 rfl hl (by decide) rfl (fun ls hl => ?_)
  have hl : lv_has ls 3 [(2, .int (nI 0)), (1, .int 0), (0, .ref qg)] := hl
  have lp_4 : ∀ (k_4 i_4 : Nat) (acc_4 : Int32) (ls : Array Slot), i_4 + k_4 = n → gSize_L4 n fp k_4 i_4 acc_4 = (gSize n fp) → lv_has ls 3 [(2, .int (nI i_4)), (1, .int acc_4), (0, .ref qg)] → W p l e (headSpec w_G_size rm_G_size).room s m ([.ref qg] : List Value).toArray below meth c s.heap [] 0 0 (MQ below (QcRead (gSize n fp)) ([.ref qg] : List Value).toArray s 0 0 (fun _ => False)) (F0 m 4 ls []) := by
    intro k_4
    induction k_4 with
    | zero =>
      intro i_4 acc_4 ls hik_4 hfin_4 hl
      refine lv_iload_n hx hb d_G_size_4 rfl (lv_at hl 0 rfl) ?_
      refine lv_aload_n hx hb d_G_size_5 rfl (lv_at hl 2 rfl) ?_
      refine va_get (D := (dC, dI)) (ci := 0) (v := .int (nI n)) (C := "ArrowClasses$Graph") (T := TG) (N := 3) hx hb hT inG hown hK hP 0 rfl rfl 0 (by decide) (hT _ wd_fld_G_7) (fun _ h9 => h9) rfl d_G_size_6 ?_
      refine lv_icmp_ge (tgt := 30) hx hb d_G_size_9 (by decide) (fun _ => ?_) (fun h1 => by rw [nI_leI (by omega) (by omega)] at h1; omega)
      refine lv_iload_n hx hb d_G_size_30 rfl (lv_at hl 1 rfl) ?_
      exact W.iret hx hb hr (fun t ht hW => ⟨by rw [show (gSize n fp) = acc_4 from (hfin_4.symm.trans (by rw [gSize_L4]))], ht⟩) (fun q h => absurd h List.not_mem_nil) d_G_size_31
    | succ k_4 ih_4 =>
      intro i_4 acc_4 ls hik_4 hfin_4 hl
      refine lv_iload_n hx hb d_G_size_4 rfl (lv_at hl 0 rfl) ?_
      refine lv_aload_n hx hb d_G_size_5 rfl (lv_at hl 2 rfl) ?_
      refine va_get (D := (dC, dI)) (ci := 0) (v := .int (nI n)) (C := "ArrowClasses$Graph") (T := TG) (N := 3) hx hb hT inG hown hK hP 0 rfl rfl 0 (by decide) (hT _ wd_fld_G_7) (fun _ h9 => h9) rfl d_G_size_6 ?_
      refine lv_icmp_ge (tgt := 30) hx hb d_G_size_9 (by decide) (fun h2 => by rw [nI_leI (by omega) (by omega)] at h2; omega) (fun _ => ?_)
      refine lv_iload_n hx hb d_G_size_12 rfl (lv_at hl 1 rfl) ?_
      refine lv_aload_n hx hb d_G_size_13 rfl (lv_at hl 2 rfl) ?_
      refine va_get (D := (dC, dI)) (ci := 0) (v := .ref qp) (C := "ArrowClasses$Graph") (T := TG) (N := 3) hx hb hT inG hown hK hP 0 rfl rfl 1 (by decide) (hT _ wd_fld_G_13) (fun _ h9 => h9) rfl d_G_size_14 ?_
      refine lv_iload_n hx hb d_G_size_17 rfl (lv_at hl 0 rfl) ?_
      refine va_iald (D := (dC, dI)) hx hb hK hP 1 0 rfl rfl (vp_in_nI (by omega) (by omega)) d_G_size_18 ?_
      refine vz_ro (va_runS (As := [.int (fp (nI i_4).toNatClampNeg)]) (rest := [.int acc_4]) ⟨hx, hb, hml, hown, hT⟩ (c_J_bitCount l dC dI cI cZ (fp (nI i_4).toNatClampNeg)) (vz_cwS (n := 1) hT wd_link_G_29 wd_stat_J_bitCount wd_ini_J wd_code_J_bitCount (by decide +kernel) ⟨Nat.le_of_ble_eq_true rfl, Nat.le_of_ble_eq_true rfl⟩) (vz_ps hN hK hP [] rfl) rfl rfl hl.1 rfl (lv_room (Nat.le_of_ble_eq_true rfl)) d_G_size_19 ⟨Nat.zero_le _, Nat.zero_le _⟩) ?_
      refine lv_iadd hx hb d_G_size_22 ?_
      refine lv_istore_n hx hb d_G_size_23 rfl hl (by decide) rfl (fun ls hl => ?_)
      have hl : lv_has ls 3 [(1, .int (acc_4 + (bitCount (fp (nI i_4).toNatClampNeg)))), (2, .int (nI i_4)), (0, .ref qg)] := hl
      refine lv_iinc (k := 1) (v := nI (i_4 + 1)) hx hb d_G_size_24 hl rfl (vz_inc i_4) (by decide) rfl (fun ls hl => ?_)
      have hl : lv_has ls 3 [(2, .int (nI (i_4 + 1))), (1, .int (acc_4 + (bitCount (fp (nI i_4).toNatClampNeg)))), (0, .ref qg)] := hl
      refine lv_goto (tgt := 4) hx hb d_G_size_27 (by decide) ?_
      exact ih_4 (i_4 + 1) (acc_4 + (bitCount (fp (nI i_4).toNatClampNeg))) ls (by omega) (by rw [gSize_L4] at hfin_4; exact hfin_4) (lv_sub hl [0, 1, 2] rfl)
  exact lp_4 n 0 0 _ (by omega) (by rw [gSize]) (lv_sub hl [0, 1, 2] rfl)
set_option maxRecDepth 100000 in
set_option maxHeartbeats 4000000 in
theorem c_G_reachOf (l : Launch) (dC : Nat → ClassId) (dI : Nat → Nat → Nat) (cI cZ : ClassId) (qg qp qc : Nat) (fp : Nat → Int32) (n : Nat) (fc : Nat → Int32) (u : Int32) (hn : n ≤ 6) (hn1 : 1 ≤ n) : Met l y_G_reachOf w_G_reachOf rm_G_reachOf (va_Pc [.ref qg, .int u] (vz_B (dC, dI) vwCl [(qg, .inr (0, [.int (nI n), .ref qp, .ref qc])), (qp, .inl (cI, n, .inl fp)), (qc, .inl (cI, n, .inl fc))] [(cI, .int), (cZ, .boolean)])) (QcRead (gReach n fc u)) 0 0 (fun _ => False) := by
  refine Met.ofW (cc := b_G_reachOf) (maxL := 5) (ret := (some .int)) (by decide) rfl ?_
  intro p e s m args below meth c s₁ B hml hv
  obtain ⟨rfl, hP, hK, hN⟩ := hv
  have hx := B.exec
  have hb := B.bytes
  have hr := B.returns
  have hts := atoms_spec (ws := w_G_reachOf) B.pre
  have hT : ∀ w ∈ vzB, w.before ([.ref qg, .int u] : List Value).toArray s = true := fun w h => hts w (List.mem_cons_of_mem _ h)
  have hown : s.vm.findClass "ArrowClasses$Graph" = some m.cls := findClass_of_methodNamed B.named
  have hlocks := B.notSynchronized
  have hl := lv_entry ([.ref qg, .int u]) (n := 5) (Nat.le_of_ble_eq_true rfl)
  rw [lg_entry_eq]
  generalize (lg_sl ([.ref qg, .int u]) ++ List.replicate (5 - (lg_sl ([.ref qg, .int u])).length) Slot.unset).toArray = ls at hl ⊢
  have hl : lv_has ls 5 [(0, .ref qg), (1, .int u)] := hl
  refine lv_iconst (v := 1) hx hb d_G_reachOf_0 (by decide) ?_
  refine lv_iload_n hx hb d_G_reachOf_1 rfl (lv_at hl 1 rfl) ?_
  refine lv_ishl hx hb d_G_reachOf_2 ?_
  refine lv_istore_n hx hb d_G_reachOf_3 rfl hl (by decide) rfl (fun ls hl => ?_)
  have hl : lv_has ls 5 [(2, .int (1 <<< (u &&& 31))), (0, .ref qg), (1, .int u)] := hl
  refine lv_iconst (v := 1) hx hb d_G_reachOf_4 (by decide) ?_
  refine vz_top (y := nI 1) (by decide) ?_
  refine lv_istore_n hx hb d_G_reachOf_5 rfl hl (by decide) rfl (fun ls hl => ?_)
  have hl : lv_has ls 5 [(3, .int (nI 1)), (2, .int (1 <<< (u &&& 31))), (0, .ref qg), (1, .int u)] := hl
  have lp_6 : ∀ (k_6 i_6 : Nat) (fo_6 : Int32) (ls : Array Slot), i_6 + k_6 = n → gReach_L6 n fc u k_6 i_6 fo_6 = (gReach n fc u) → lv_has ls 5 [(3, .int (nI i_6)), (2, .int fo_6), (0, .ref qg), (1, .int u)] → W p l e (headSpec w_G_reachOf rm_G_reachOf).room s m ([.ref qg, .int u] : List Value).toArray below meth c s.heap [] 0 0 (MQ below (QcRead (gReach n fc u)) ([.ref qg, .int u] : List Value).toArray s 0 0 (fun _ => False)) (F0 m 6 ls []) := by
    intro k_6
    induction k_6 with
    | zero =>
      intro i_6 fo_6 ls hik_6 hfin_6 hl
      refine lv_iload_n hx hb d_G_reachOf_6 rfl (lv_at hl 0 rfl) ?_
      refine lv_aload_n hx hb d_G_reachOf_7 rfl (lv_at hl 2 rfl) ?_
      refine va_get (D := (dC, dI)) (ci := 0) (v := .int (nI n)) (C := "ArrowClasses$Graph") (T := TG) (N := 3) hx hb hT inG hown hK hP 0 rfl rfl 0 (by decide) (hT _ wd_fld_G_7) (fun _ h9 => h9) rfl d_G_reachOf_8 ?_
      refine lv_icmp_ge (tgt := 57) hx hb d_G_reachOf_11 (by decide) (fun _ => ?_) (fun h1 => by rw [nI_leI (by omega) (by omega)] at h1; omega)
      refine lv_iload_n hx hb d_G_reachOf_57 rfl (lv_at hl 1 rfl) ?_
      exact W.iret hx hb hr (fun t ht hW => ⟨by rw [show (gReach n fc u) = fo_6 from (hfin_6.symm.trans (by rw [gReach_L6]))], ht⟩) (fun q h => absurd h List.not_mem_nil) d_G_reachOf_58
    | succ k_6 ih_6 =>
      intro i_6 fo_6 ls hik_6 hfin_6 hl
      refine lv_iload_n hx hb d_G_reachOf_6 rfl (lv_at hl 0 rfl) ?_
      refine lv_aload_n hx hb d_G_reachOf_7 rfl (lv_at hl 2 rfl) ?_
      refine va_get (D := (dC, dI)) (ci := 0) (v := .int (nI n)) (C := "ArrowClasses$Graph") (T := TG) (N := 3) hx hb hT inG hown hK hP 0 rfl rfl 0 (by decide) (hT _ wd_fld_G_7) (fun _ h9 => h9) rfl d_G_reachOf_8 ?_
      refine lv_icmp_ge (tgt := 57) hx hb d_G_reachOf_11 (by decide) (fun h2 => by rw [nI_leI (by omega) (by omega)] at h2; omega) (fun _ => ?_)
      refine lv_iconst (v := 0) hx hb d_G_reachOf_14 (by decide) ?_
      refine vz_top (y := nI 0) (by decide) ?_
      refine lv_istore hx hb d_G_reachOf_15 hl (by decide) rfl (fun ls hl => ?_)
      have hl : lv_has ls 5 [(4, .int (nI 0)), (3, .int (nI i_6)), (2, .int fo_6), (0, .ref qg), (1, .int u)] := hl
      have lp_17 : ∀ (k_17 i_17 : Nat) (fo_17 : Int32) (ls : Array Slot), i_17 + k_17 = n → gReach_L17 n fc u i_6 fo_6 (fun w0 => gReach_L6 n fc u k_6 (i_6 + 1) w0) k_17 i_17 fo_17 = (gReach n fc u) → lv_has ls 5 [(4, .int (nI i_17)), (3, .int (nI i_6)), (2, .int fo_17), (0, .ref qg), (1, .int u)] → W p l e (headSpec w_G_reachOf rm_G_reachOf).room s m ([.ref qg, .int u] : List Value).toArray below meth c s.heap [] 0 0 (MQ below (QcRead (gReach n fc u)) ([.ref qg, .int u] : List Value).toArray s 0 0 (fun _ => False)) (F0 m 17 ls []) := by
        intro k_17
        induction k_17 with
        | zero =>
          intro i_17 fo_17 ls hik_17 hfin_17 hl
          refine lv_iload hx hb d_G_reachOf_17 (lv_at hl 0 rfl) ?_
          refine lv_aload_n hx hb d_G_reachOf_19 rfl (lv_at hl 3 rfl) ?_
          refine va_get (D := (dC, dI)) (ci := 0) (v := .int (nI n)) (C := "ArrowClasses$Graph") (T := TG) (N := 3) hx hb hT inG hown hK hP 0 rfl rfl 0 (by decide) (hT _ wd_fld_G_7) (fun _ h9 => h9) rfl d_G_reachOf_20 ?_
          refine lv_icmp_ge (tgt := 51) hx hb d_G_reachOf_23 (by decide) (fun _ => ?_) (fun h3 => by rw [nI_leI (by omega) (by omega)] at h3; omega)
          refine lv_iinc (k := 1) (v := nI (i_6 + 1)) hx hb d_G_reachOf_51 hl rfl (vz_inc i_6) (by decide) rfl (fun ls hl => ?_)
          have hl : lv_has ls 5 [(3, .int (nI (i_6 + 1))), (4, .int (nI i_17)), (2, .int fo_17), (0, .ref qg), (1, .int u)] := hl
          refine lv_goto (tgt := 6) hx hb d_G_reachOf_54 (by decide) ?_
          exact ih_6 (i_6 + 1) fo_17 ls (by omega) (by rw [gReach_L17] at hfin_17; exact hfin_17) (lv_sub hl [0, 2, 3, 4] rfl)
        | succ k_17 ih_17 =>
          intro i_17 fo_17 ls hik_17 hfin_17 hl
          refine lv_iload hx hb d_G_reachOf_17 (lv_at hl 0 rfl) ?_
          refine lv_aload_n hx hb d_G_reachOf_19 rfl (lv_at hl 3 rfl) ?_
          refine va_get (D := (dC, dI)) (ci := 0) (v := .int (nI n)) (C := "ArrowClasses$Graph") (T := TG) (N := 3) hx hb hT inG hown hK hP 0 rfl rfl 0 (by decide) (hT _ wd_fld_G_7) (fun _ h9 => h9) rfl d_G_reachOf_20 ?_
          refine lv_icmp_ge (tgt := 51) hx hb d_G_reachOf_23 (by decide) (fun h4 => by rw [nI_leI (by omega) (by omega)] at h4; omega) (fun _ => ?_)
          refine lv_iload_n hx hb d_G_reachOf_26 rfl (lv_at hl 2 rfl) ?_
          refine lv_iload hx hb d_G_reachOf_27 (lv_at hl 0 rfl) ?_
          refine vz_ro (va_runSN (As := [.int fo_17, .int (nI i_17)]) (rest := []) ⟨hx, hb, hml, hown, hT⟩ (c_A_holds l dC dI cI cZ fo_17 (nI i_17)) (vz_cwN (n := 2) hT hN wd_stat_A_holds wd_ini_A wd_code_A_holds (by decide +kernel) ⟨Nat.le_of_ble_eq_true rfl, Nat.le_of_ble_eq_true rfl⟩) (vz_ps hN hK hP [] rfl) rfl rfl hl.1 rfl (lv_room (Nat.le_of_ble_eq_true rfl)) d_G_reachOf_29 ⟨Nat.zero_le _, Nat.zero_le _⟩) ?_
          refine lv_if_eq (tgt := 45) hx hb d_G_reachOf_32 (by decide) (fun h5 => ?_) (fun h5 => ?_)
          ·
            refine lv_iinc (k := 0) (v := nI (i_17 + 1)) hx hb d_G_reachOf_45 hl rfl (vz_inc i_17) (by decide) rfl (fun ls hl => ?_)
            have hl : lv_has ls 5 [(4, .int (nI (i_17 + 1))), (3, .int (nI i_6)), (2, .int fo_17), (0, .ref qg), (1, .int u)] := hl
            refine lv_goto (tgt := 17) hx hb d_G_reachOf_48 (by decide) ?_
            exact ih_17 (i_17 + 1) fo_17 ls (by omega) (by rw [gReach_L17, if_pos h5] at hfin_17; exact hfin_17) (lv_sub hl [0, 1, 2, 3, 4] rfl)
          ·
            refine lv_iload_n hx hb d_G_reachOf_35 rfl (lv_at hl 2 rfl) ?_
            refine lv_aload_n hx hb d_G_reachOf_36 rfl (lv_at hl 3 rfl) ?_
            refine va_get (D := (dC, dI)) (ci := 0) (v := .ref qc) (C := "ArrowClasses$Graph") (T := TG) (N := 3) hx hb hT inG hown hK hP 0 rfl rfl 2 (by decide) (hT _ wd_fld_G_17) (fun _ h9 => h9) rfl d_G_reachOf_37 ?_
            refine lv_iload hx hb d_G_reachOf_40 (lv_at hl 0 rfl) ?_
            refine va_iald (D := (dC, dI)) hx hb hK hP 2 0 rfl rfl (vp_in_nI (by omega) (by omega)) d_G_reachOf_42 ?_
            refine lv_ior hx hb d_G_reachOf_43 ?_
            refine lv_istore_n hx hb d_G_reachOf_44 rfl hl (by decide) rfl (fun ls hl => ?_)
            have hl : lv_has ls 5 [(2, .int (fo_17 ||| (fc (nI i_17).toNatClampNeg))), (4, .int (nI i_17)), (3, .int (nI i_6)), (0, .ref qg), (1, .int u)] := hl
            refine lv_iinc (k := 1) (v := nI (i_17 + 1)) hx hb d_G_reachOf_45 hl rfl (vz_inc i_17) (by decide) rfl (fun ls hl => ?_)
            have hl : lv_has ls 5 [(4, .int (nI (i_17 + 1))), (2, .int (fo_17 ||| (fc (nI i_17).toNatClampNeg))), (3, .int (nI i_6)), (0, .ref qg), (1, .int u)] := hl
            refine lv_goto (tgt := 17) hx hb d_G_reachOf_48 (by decide) ?_
            exact ih_17 (i_17 + 1) (fo_17 ||| (fc (nI i_17).toNatClampNeg)) ls (by omega) (by rw [gReach_L17, if_neg h5] at hfin_17; exact hfin_17) (lv_sub hl [0, 2, 1, 3, 4] rfl)
      exact lp_17 n 0 fo_6 _ (by omega) (by rw [gReach_L6] at hfin_6; exact hfin_6) (lv_sub hl [0, 1, 2, 3, 4] rfl)
  exact lp_6 (n - 1) 1 (1 <<< (u &&& 31)) _ (by omega) (by rw [gReach]) (lv_sub hl [0, 1, 2, 3] rfl)
set_option maxRecDepth 100000 in
set_option maxHeartbeats 4000000 in
theorem c_G_hasRing (l : Launch) (dC : Nat → ClassId) (dI : Nat → Nat → Nat) (cI cZ : ClassId) (qg qp qc : Nat) (fc : Nat → Int32) (n : Nat) (fp : Nat → Int32) (hn : n ≤ 6) : Met l y_G_hasRing w_G_hasRing rm_G_hasRing (va_Pc [.ref qg] (vz_B (dC, dI) vwCl [(qg, .inr (0, [.int (nI n), .ref qp, .ref qc])), (qp, .inl (cI, n, .inl fp)), (qc, .inl (cI, n, .inl fc))] [(cI, .int), (cZ, .boolean)])) (QcRead (gRing n fp)) 0 0 (fun _ => False) := by
  refine Met.ofW (cc := b_G_hasRing) (maxL := 4) (ret := (some .boolean)) (by decide) rfl ?_
  intro p e s m args below meth c s₁ B hml hv
  obtain ⟨rfl, hP, hK, hN⟩ := hv
  have hx := B.exec
  have hb := B.bytes
  have hr := B.returns
  have hts := atoms_spec (ws := w_G_hasRing) B.pre
  have hT : ∀ w ∈ vzB, w.before ([.ref qg] : List Value).toArray s = true := fun w h => hts w (List.mem_cons_of_mem _ h)
  have hown : s.vm.findClass "ArrowClasses$Graph" = some m.cls := findClass_of_methodNamed B.named
  have hlocks := B.notSynchronized
  have hl := lv_entry ([.ref qg]) (n := 4) (Nat.le_of_ble_eq_true rfl)
  rw [lg_entry_eq]
  generalize (lg_sl ([.ref qg]) ++ List.replicate (4 - (lg_sl ([.ref qg])).length) Slot.unset).toArray = ls at hl ⊢
  have hl : lv_has ls 4 [(0, .ref qg)] := hl
  refine lv_iconst (v := 1) hx hb d_G_hasRing_0 (by decide) ?_
  refine lv_aload_n hx hb d_G_hasRing_1 rfl (lv_at hl 0 rfl) ?_
  refine va_get (D := (dC, dI)) (ci := 0) (v := .int (nI n)) (C := "ArrowClasses$Graph") (T := TG) (N := 3) hx hb hT inG hown hK hP 0 rfl rfl 0 (by decide) (hT _ wd_fld_G_7) (fun _ h9 => h9) rfl d_G_hasRing_2 ?_
  refine lv_ishl hx hb d_G_hasRing_5 ?_
  refine lv_iconst (v := 1) hx hb d_G_hasRing_6 (by decide) ?_
  refine lv_isub hx hb d_G_hasRing_7 ?_
  refine lv_istore_n hx hb d_G_hasRing_8 rfl hl (by decide) rfl (fun ls hl => ?_)
  have hl : lv_has ls 4 [(1, .int ((1 <<< ((nI n) &&& 31)) - 1)), (0, .ref qg)] := hl
  refine lv_iconst (v := 0) hx hb d_G_hasRing_9 (by decide) ?_
  refine vz_top (y := nI 0) (by decide) ?_
  refine lv_istore_n hx hb d_G_hasRing_10 rfl hl (by decide) rfl (fun ls hl => ?_)
  have hl : lv_has ls 4 [(2, .int (nI 0)), (1, .int ((1 <<< ((nI n) &&& 31)) - 1)), (0, .ref qg)] := hl
  have lp_11 : ∀ (k_11 i_11 : Nat) (le_11 : Int32) (ls : Array Slot), i_11 + k_11 = n → gRing_L11 n fp k_11 i_11 le_11 = (gRing n fp) → lv_has ls 4 [(2, .int (nI i_11)), (1, .int le_11), (0, .ref qg)] → W p l e (headSpec w_G_hasRing rm_G_hasRing).room s m ([.ref qg] : List Value).toArray below meth c s.heap [] 0 0 (MQ below (QcRead (gRing n fp)) ([.ref qg] : List Value).toArray s 0 0 (fun _ => False)) (F0 m 11 ls []) := by
    intro k_11
    induction k_11 with
    | zero =>
      intro i_11 le_11 ls hik_11 hfin_11 hl
      refine lv_iload_n hx hb d_G_hasRing_11 rfl (lv_at hl 0 rfl) ?_
      refine lv_aload_n hx hb d_G_hasRing_12 rfl (lv_at hl 2 rfl) ?_
      refine va_get (D := (dC, dI)) (ci := 0) (v := .int (nI n)) (C := "ArrowClasses$Graph") (T := TG) (N := 3) hx hb hT inG hown hK hP 0 rfl rfl 0 (by decide) (hT _ wd_fld_G_7) (fun _ h9 => h9) rfl d_G_hasRing_13 ?_
      refine lv_icmp_ge (tgt := 64) hx hb d_G_hasRing_16 (by decide) (fun _ => ?_) (fun h1 => by rw [nI_leI (by omega) (by omega)] at h1; omega)
      refine lv_iload_n hx hb d_G_hasRing_64 rfl (lv_at hl 1 rfl) ?_
      refine lv_if_eq (tgt := 72) hx hb d_G_hasRing_65 (by decide) (fun h2 => ?_) (fun h2 => ?_)
      ·
        refine lv_iconst (v := 0) hx hb d_G_hasRing_72 (by decide) ?_
        exact W.zret hx hb hr (by decide) (fun t ht hW => ⟨by rw [show (gRing n fp) = (0 : Int32) from (hfin_11.symm.trans (by rw [gRing_L11, if_pos h2]))], ht⟩) (fun q h => absurd h List.not_mem_nil) d_G_hasRing_73
      ·
        refine lv_iconst (v := 1) hx hb d_G_hasRing_68 (by decide) ?_
        refine lv_goto (tgt := 73) hx hb d_G_hasRing_69 (by decide) ?_
        exact W.zret hx hb hr (by decide) (fun t ht hW => ⟨by rw [show (gRing n fp) = (1 : Int32) from (hfin_11.symm.trans (by rw [gRing_L11, if_neg h2]))], ht⟩) (fun q h => absurd h List.not_mem_nil) d_G_hasRing_73
    | succ k_11 ih_11 =>
      intro i_11 le_11 ls hik_11 hfin_11 hl
      refine lv_iload_n hx hb d_G_hasRing_11 rfl (lv_at hl 0 rfl) ?_
      refine lv_aload_n hx hb d_G_hasRing_12 rfl (lv_at hl 2 rfl) ?_
      refine va_get (D := (dC, dI)) (ci := 0) (v := .int (nI n)) (C := "ArrowClasses$Graph") (T := TG) (N := 3) hx hb hT inG hown hK hP 0 rfl rfl 0 (by decide) (hT _ wd_fld_G_7) (fun _ h9 => h9) rfl d_G_hasRing_13 ?_
      refine lv_icmp_ge (tgt := 64) hx hb d_G_hasRing_16 (by decide) (fun h3 => by rw [nI_leI (by omega) (by omega)] at h3; omega) (fun _ => ?_)
      refine lv_iload_n hx hb d_G_hasRing_19 rfl (lv_at hl 1 rfl) ?_
      refine lv_if_eq (tgt := 64) hx hb d_G_hasRing_20 (by decide) (fun h4 => ?_) (fun h4 => ?_)
      ·
        refine lv_iload_n hx hb d_G_hasRing_64 rfl (lv_at hl 1 rfl) ?_
        refine lv_if_eq (tgt := 72) hx hb d_G_hasRing_65 (by decide) (fun _ => ?_) (fun h5 => absurd h4 h5)
        refine lv_iconst (v := 0) hx hb d_G_hasRing_72 (by decide) ?_
        exact W.zret hx hb hr (by decide) (fun t ht hW => ⟨by rw [show (gRing n fp) = (0 : Int32) from (hfin_11.symm.trans (by rw [gRing_L11, if_pos h4]))], ht⟩) (fun q h => absurd h List.not_mem_nil) d_G_hasRing_73
      ·
        refine lv_iconst (v := 0) hx hb d_G_hasRing_23 (by decide) ?_
        refine vz_top (y := nI 0) (by decide) ?_
        refine lv_istore_n hx hb d_G_hasRing_24 rfl hl (by decide) rfl (fun ls hl => ?_)
        have hl : lv_has ls 4 [(3, .int (nI 0)), (2, .int (nI i_11)), (1, .int le_11), (0, .ref qg)] := hl
        have lp_25 : ∀ (k_25 i_25 : Nat) (le_25 : Int32) (ls : Array Slot), i_25 + k_25 = n → gRing_L25 n fp i_11 le_11 (fun w0 => gRing_L11 n fp k_11 (i_11 + 1) w0) k_25 i_25 le_25 = (gRing n fp) → lv_has ls 4 [(3, .int (nI i_25)), (2, .int (nI i_11)), (1, .int le_25), (0, .ref qg)] → W p l e (headSpec w_G_hasRing rm_G_hasRing).room s m ([.ref qg] : List Value).toArray below meth c s.heap [] 0 0 (MQ below (QcRead (gRing n fp)) ([.ref qg] : List Value).toArray s 0 0 (fun _ => False)) (F0 m 25 ls []) := by
          intro k_25
          induction k_25 with
          | zero =>
            intro i_25 le_25 ls hik_25 hfin_25 hl
            refine lv_iload_n hx hb d_G_hasRing_25 rfl (lv_at hl 0 rfl) ?_
            refine lv_aload_n hx hb d_G_hasRing_26 rfl (lv_at hl 3 rfl) ?_
            refine va_get (D := (dC, dI)) (ci := 0) (v := .int (nI n)) (C := "ArrowClasses$Graph") (T := TG) (N := 3) hx hb hT inG hown hK hP 0 rfl rfl 0 (by decide) (hT _ wd_fld_G_7) (fun _ h9 => h9) rfl d_G_hasRing_27 ?_
            refine lv_icmp_ge (tgt := 58) hx hb d_G_hasRing_30 (by decide) (fun _ => ?_) (fun h6 => by rw [nI_leI (by omega) (by omega)] at h6; omega)
            refine lv_iinc (k := 1) (v := nI (i_11 + 1)) hx hb d_G_hasRing_58 hl rfl (vz_inc i_11) (by decide) rfl (fun ls hl => ?_)
            have hl : lv_has ls 4 [(2, .int (nI (i_11 + 1))), (3, .int (nI i_25)), (1, .int le_25), (0, .ref qg)] := hl
            refine lv_goto (tgt := 11) hx hb d_G_hasRing_61 (by decide) ?_
            exact ih_11 (i_11 + 1) le_25 ls (by omega) (by rw [gRing_L25] at hfin_25; exact hfin_25) (lv_sub hl [0, 2, 3] rfl)
          | succ k_25 ih_25 =>
            intro i_25 le_25 ls hik_25 hfin_25 hl
            refine lv_iload_n hx hb d_G_hasRing_25 rfl (lv_at hl 0 rfl) ?_
            refine lv_aload_n hx hb d_G_hasRing_26 rfl (lv_at hl 3 rfl) ?_
            refine va_get (D := (dC, dI)) (ci := 0) (v := .int (nI n)) (C := "ArrowClasses$Graph") (T := TG) (N := 3) hx hb hT inG hown hK hP 0 rfl rfl 0 (by decide) (hT _ wd_fld_G_7) (fun _ h9 => h9) rfl d_G_hasRing_27 ?_
            refine lv_icmp_ge (tgt := 58) hx hb d_G_hasRing_30 (by decide) (fun h7 => by rw [nI_leI (by omega) (by omega)] at h7; omega) (fun _ => ?_)
            refine lv_aload_n hx hb d_G_hasRing_33 rfl (lv_at hl 3 rfl) ?_
            refine va_get (D := (dC, dI)) (ci := 0) (v := .ref qp) (C := "ArrowClasses$Graph") (T := TG) (N := 3) hx hb hT inG hown hK hP 0 rfl rfl 1 (by decide) (hT _ wd_fld_G_13) (fun _ h9 => h9) rfl d_G_hasRing_34 ?_
            refine lv_iload_n hx hb d_G_hasRing_37 rfl (lv_at hl 0 rfl) ?_
            refine va_iald (D := (dC, dI)) hx hb hK hP 1 0 rfl rfl (vp_in_nI (by omega) (by omega)) d_G_hasRing_38 ?_
            refine lv_iload_n hx hb d_G_hasRing_39 rfl (lv_at hl 2 rfl) ?_
            refine lv_iand hx hb d_G_hasRing_40 ?_
            refine lv_if_ne (tgt := 52) hx hb d_G_hasRing_41 (by decide) (fun h8 => ?_) (fun h8 => ?_)
            ·
              refine lv_iinc (k := 0) (v := nI (i_25 + 1)) hx hb d_G_hasRing_52 hl rfl (vz_inc i_25) (by decide) rfl (fun ls hl => ?_)
              have hl : lv_has ls 4 [(3, .int (nI (i_25 + 1))), (2, .int (nI i_11)), (1, .int le_25), (0, .ref qg)] := hl
              refine lv_goto (tgt := 25) hx hb d_G_hasRing_55 (by decide) ?_
              exact ih_25 (i_25 + 1) le_25 ls (by omega) (by rw [gRing_L25, if_neg h8] at hfin_25; exact hfin_25) (lv_sub hl [0, 1, 2, 3] rfl)
            ·
              refine lv_iload_n hx hb d_G_hasRing_44 rfl (lv_at hl 2 rfl) ?_
              refine lv_iconst (v := 1) hx hb d_G_hasRing_45 (by decide) ?_
              refine lv_iload_n hx hb d_G_hasRing_46 rfl (lv_at hl 0 rfl) ?_
              refine lv_ishl hx hb d_G_hasRing_47 ?_
              refine lv_iconst (v := -1) hx hb d_G_hasRing_48 (by decide) ?_
              refine lv_ixor hx hb d_G_hasRing_49 ?_
              refine lv_iand hx hb d_G_hasRing_50 ?_
              refine lv_istore_n hx hb d_G_hasRing_51 rfl hl (by decide) rfl (fun ls hl => ?_)
              have hl : lv_has ls 4 [(1, .int (le_25 &&& ((1 <<< ((nI i_25) &&& 31)) ^^^ (-1)))), (3, .int (nI i_25)), (2, .int (nI i_11)), (0, .ref qg)] := hl
              refine lv_iinc (k := 1) (v := nI (i_25 + 1)) hx hb d_G_hasRing_52 hl rfl (vz_inc i_25) (by decide) rfl (fun ls hl => ?_)
              have hl : lv_has ls 4 [(3, .int (nI (i_25 + 1))), (1, .int (le_25 &&& ((1 <<< ((nI i_25) &&& 31)) ^^^ (-1)))), (2, .int (nI i_11)), (0, .ref qg)] := hl
              refine lv_goto (tgt := 25) hx hb d_G_hasRing_55 (by decide) ?_
              exact ih_25 (i_25 + 1) (le_25 &&& ((1 <<< ((nI i_25) &&& 31)) ^^^ (-1))) ls (by omega) (by rw [gRing_L25, if_pos h8] at hfin_25; exact hfin_25) (lv_sub hl [0, 2, 1, 3] rfl)
        exact lp_25 n 0 le_11 _ (by omega) (by rw [gRing_L11, if_neg h4] at hfin_11; exact hfin_11) (lv_sub hl [0, 1, 2, 3] rfl)
  exact lp_11 n 0 ((1 <<< ((nI n) &&& 31)) - 1) _ (by omega) (by rw [gRing]) (lv_sub hl [0, 1, 2] rfl)
set_option maxRecDepth 100000 in
set_option maxHeartbeats 4000000 in
theorem c_G_strangers (l : Launch) (dC : Nat → ClassId) (dI : Nat → Nat → Nat) (cI cZ : ClassId) (qg qp qc : Nat) (n : Nat) (fp : Nat → Int32) (fc : Nat → Int32) (a : Int32) (b : Int32) (ha : vp_in a n) (hb2 : vp_in b n) : Met l y_G_strangers w_G_strangers rm_G_strangers (va_Pc [.ref qg, .int a, .int b] (vz_B (dC, dI) vwCl [(qg, .inr (0, [.int (nI n), .ref qp, .ref qc])), (qp, .inl (cI, n, .inl fp)), (qc, .inl (cI, n, .inl fc))] [(cI, .int), (cZ, .boolean)])) (QcRead (gStr fp fc a b)) 0 0 (fun _ => False) := by
  refine Met.ofW (cc := b_G_strangers) (maxL := 3) (ret := (some .int)) (by decide) rfl ?_
  intro p e s m args below meth c s₁ B hml hv
  obtain ⟨rfl, hP, hK, hN⟩ := hv
  have hx := B.exec
  have hb := B.bytes
  have hr := B.returns
  have hts := atoms_spec (ws := w_G_strangers) B.pre
  have hT : ∀ w ∈ vzB, w.before ([.ref qg, .int a, .int b] : List Value).toArray s = true := fun w h => hts w (List.mem_cons_of_mem _ h)
  have hown : s.vm.findClass "ArrowClasses$Graph" = some m.cls := findClass_of_methodNamed B.named
  have hlocks := B.notSynchronized
  have hl := lv_entry ([.ref qg, .int a, .int b]) (n := 3) (Nat.le_of_ble_eq_true rfl)
  rw [lg_entry_eq]
  generalize (lg_sl ([.ref qg, .int a, .int b]) ++ List.replicate (3 - (lg_sl ([.ref qg, .int a, .int b])).length) Slot.unset).toArray = ls at hl ⊢
  have hl : lv_has ls 3 [(0, .ref qg), (1, .int a), (2, .int b)] := hl
  refine lv_aload_n hx hb d_G_strangers_0 rfl (lv_at hl 0 rfl) ?_
  refine va_get (D := (dC, dI)) (ci := 0) (v := .ref qp) (C := "ArrowClasses$Graph") (T := TG) (N := 3) hx hb hT inG hown hK hP 0 rfl rfl 1 (by decide) (hT _ wd_fld_G_13) (fun _ h9 => h9) rfl d_G_strangers_1 ?_
  refine lv_iload_n hx hb d_G_strangers_4 rfl (lv_at hl 2 rfl) ?_
  refine va_iald (D := (dC, dI)) hx hb hK hP 1 0 rfl rfl (by assumption) d_G_strangers_5 ?_
  refine lv_iload_n hx hb d_G_strangers_6 rfl (lv_at hl 1 rfl) ?_
  refine vz_ro (va_runSN (As := [.int (fp b.toNatClampNeg), .int a]) (rest := []) ⟨hx, hb, hml, hown, hT⟩ (c_A_holds l dC dI cI cZ (fp b.toNatClampNeg) a) (vz_cwN (n := 2) hT hN wd_stat_A_holds wd_ini_A wd_code_A_holds (by decide +kernel) ⟨Nat.le_of_ble_eq_true rfl, Nat.le_of_ble_eq_true rfl⟩) (vz_ps hN hK hP [] rfl) rfl rfl hl.1 rfl (lv_room (Nat.le_of_ble_eq_true rfl)) d_G_strangers_7 ⟨Nat.zero_le _, Nat.zero_le _⟩) ?_
  refine lv_if_ne (tgt := 15) hx hb d_G_strangers_10 (by decide) (fun h1 => ?_) (fun h1 => ?_)
  ·
    refine lv_aload_n hx hb d_G_strangers_15 rfl (lv_at hl 0 rfl) ?_
    refine va_get (D := (dC, dI)) (ci := 0) (v := .ref qp) (C := "ArrowClasses$Graph") (T := TG) (N := 3) hx hb hT inG hown hK hP 0 rfl rfl 1 (by decide) (hT _ wd_fld_G_13) (fun _ h9 => h9) rfl d_G_strangers_16 ?_
    refine lv_iload_n hx hb d_G_strangers_19 rfl (lv_at hl 2 rfl) ?_
    refine va_iald (D := (dC, dI)) hx hb hK hP 1 0 rfl rfl (by assumption) d_G_strangers_20 ?_
    refine lv_aload_n hx hb d_G_strangers_21 rfl (lv_at hl 0 rfl) ?_
    refine va_get (D := (dC, dI)) (ci := 0) (v := .ref qp) (C := "ArrowClasses$Graph") (T := TG) (N := 3) hx hb hT inG hown hK hP 0 rfl rfl 1 (by decide) (hT _ wd_fld_G_13) (fun _ h9 => h9) rfl d_G_strangers_22 ?_
    refine lv_iload_n hx hb d_G_strangers_25 rfl (lv_at hl 1 rfl) ?_
    refine va_iald (D := (dC, dI)) hx hb hK hP 1 0 rfl rfl (by assumption) d_G_strangers_26 ?_
    refine lv_aload_n hx hb d_G_strangers_27 rfl (lv_at hl 0 rfl) ?_
    refine va_get (D := (dC, dI)) (ci := 0) (v := .ref qc) (C := "ArrowClasses$Graph") (T := TG) (N := 3) hx hb hT inG hown hK hP 0 rfl rfl 2 (by decide) (hT _ wd_fld_G_17) (fun _ h9 => h9) rfl d_G_strangers_28 ?_
    refine lv_iload_n hx hb d_G_strangers_31 rfl (lv_at hl 1 rfl) ?_
    refine va_iald (D := (dC, dI)) hx hb hK hP 2 0 rfl rfl (by assumption) d_G_strangers_32 ?_
    refine lv_ior hx hb d_G_strangers_33 ?_
    refine lv_iconst (v := 1) hx hb d_G_strangers_34 (by decide) ?_
    refine lv_iload_n hx hb d_G_strangers_35 rfl (lv_at hl 1 rfl) ?_
    refine lv_ishl hx hb d_G_strangers_36 ?_
    refine lv_ior hx hb d_G_strangers_37 ?_
    refine lv_iconst (v := -1) hx hb d_G_strangers_38 (by decide) ?_
    refine lv_ixor hx hb d_G_strangers_39 ?_
    refine lv_iand hx hb d_G_strangers_40 ?_
    exact W.iret hx hb hr (fun t ht hW => ⟨by rw [show (gStr fp fc a b) = (fp b.toNatClampNeg) &&& ((((fp a.toNatClampNeg) ||| (fc a.toNatClampNeg)) ||| (1 <<< (a &&& 31))) ^^^ (-1)) from (by rw [gStr, if_neg h1])], ht⟩) (fun q h => absurd h List.not_mem_nil) d_G_strangers_41
  ·
    refine lv_iconst (v := 0) hx hb d_G_strangers_13 (by decide) ?_
    exact W.iret hx hb hr (fun t ht hW => ⟨by rw [show (gStr fp fc a b) = (0 : Int32) from (by rw [gStr, if_pos h1])], ht⟩) (fun q h => absurd h List.not_mem_nil) d_G_strangers_14
set_option maxRecDepth 100000 in
set_option maxHeartbeats 4000000 in
theorem c_G_collidesLike (l : Launch) (dC : Nat → ClassId) (dI : Nat → Nat → Nat) (cI cZ : ClassId) (qg qp qc qg2 qp2 qc2 : Nat) (n : Nat) (fp : Nat → Int32) (fc : Nat → Int32) (fp2 : Nat → Int32) (fc2 : Nat → Int32) (hn : n ≤ 6) : Met l y_G_collidesLike w_G_collidesLike rm_G_collidesLike (va_Pc [.ref qg, .ref qg2] (vz_B (dC, dI) vwCl [(qg, .inr (0, [.int (nI n), .ref qp, .ref qc])), (qp, .inl (cI, n, .inl fp)), (qc, .inl (cI, n, .inl fc)), (qg2, .inr (0, [.int (nI n), .ref qp2, .ref qc2])), (qp2, .inl (cI, n, .inl fp2)), (qc2, .inl (cI, n, .inl fc2))] [(cI, .int), (cZ, .boolean)])) (QcRead (gLike n fp fc fp2 fc2)) 0 0 (fun _ => False) := by
  refine Met.ofW (cc := b_G_collidesLike) (maxL := 4) (ret := (some .boolean)) (by decide) rfl ?_
  intro p e s m args below meth c s₁ B hml hv
  obtain ⟨rfl, hP, hK, hN⟩ := hv
  have hx := B.exec
  have hb := B.bytes
  have hr := B.returns
  have hts := atoms_spec (ws := w_G_collidesLike) B.pre
  have hT : ∀ w ∈ vzB, w.before ([.ref qg, .ref qg2] : List Value).toArray s = true := fun w h => hts w (List.mem_cons_of_mem _ h)
  have hown : s.vm.findClass "ArrowClasses$Graph" = some m.cls := findClass_of_methodNamed B.named
  have hlocks := B.notSynchronized
  have hl := lv_entry ([.ref qg, .ref qg2]) (n := 4) (Nat.le_of_ble_eq_true rfl)
  rw [lg_entry_eq]
  generalize (lg_sl ([.ref qg, .ref qg2]) ++ List.replicate (4 - (lg_sl ([.ref qg, .ref qg2])).length) Slot.unset).toArray = ls at hl ⊢
  have hl : lv_has ls 4 [(0, .ref qg), (1, .ref qg2)] := hl
  refine lv_iconst (v := 0) hx hb d_G_collidesLike_0 (by decide) ?_
  refine vz_top (y := nI 0) (by decide) ?_
  refine lv_istore_n hx hb d_G_collidesLike_1 rfl hl (by decide) rfl (fun ls hl => ?_)
  have hl : lv_has ls 4 [(2, .int (nI 0)), (0, .ref qg), (1, .ref qg2)] := hl
  have lp_2 : ∀ (k_2 i_2 : Nat) (ls : Array Slot), i_2 + k_2 = n → gLike_L2 n fp fc fp2 fc2 k_2 i_2 = (gLike n fp fc fp2 fc2) → lv_has ls 4 [(2, .int (nI i_2)), (0, .ref qg), (1, .ref qg2)] → W p l e (headSpec w_G_collidesLike rm_G_collidesLike).room s m ([.ref qg, .ref qg2] : List Value).toArray below meth c s.heap [] 0 0 (MQ below (QcRead (gLike n fp fc fp2 fc2)) ([.ref qg, .ref qg2] : List Value).toArray s 0 0 (fun _ => False)) (F0 m 2 ls []) := by
    intro k_2
    induction k_2 with
    | zero =>
      intro i_2 ls hik_2 hfin_2 hl
      refine lv_iload_n hx hb d_G_collidesLike_2 rfl (lv_at hl 0 rfl) ?_
      refine lv_aload_n hx hb d_G_collidesLike_3 rfl (lv_at hl 1 rfl) ?_
      refine va_get (D := (dC, dI)) (ci := 0) (v := .int (nI n)) (C := "ArrowClasses$Graph") (T := TG) (N := 3) hx hb hT inG hown hK hP 0 rfl rfl 0 (by decide) (hT _ wd_fld_G_7) (fun _ h9 => h9) rfl d_G_collidesLike_4 ?_
      refine lv_icmp_ge (tgt := 49) hx hb d_G_collidesLike_7 (by decide) (fun _ => ?_) (fun h1 => by rw [nI_leI (by omega) (by omega)] at h1; omega)
      refine lv_iconst (v := 1) hx hb d_G_collidesLike_49 (by decide) ?_
      exact W.zret hx hb hr (by decide) (fun t ht hW => ⟨by rw [show (gLike n fp fc fp2 fc2) = (1 : Int32) from (hfin_2.symm.trans (by rw [gLike_L2]))], ht⟩) (fun q h => absurd h List.not_mem_nil) d_G_collidesLike_50
    | succ k_2 ih_2 =>
      intro i_2 ls hik_2 hfin_2 hl
      refine lv_iload_n hx hb d_G_collidesLike_2 rfl (lv_at hl 0 rfl) ?_
      refine lv_aload_n hx hb d_G_collidesLike_3 rfl (lv_at hl 1 rfl) ?_
      refine va_get (D := (dC, dI)) (ci := 0) (v := .int (nI n)) (C := "ArrowClasses$Graph") (T := TG) (N := 3) hx hb hT inG hown hK hP 0 rfl rfl 0 (by decide) (hT _ wd_fld_G_7) (fun _ h9 => h9) rfl d_G_collidesLike_4 ?_
      refine lv_icmp_ge (tgt := 49) hx hb d_G_collidesLike_7 (by decide) (fun h2 => by rw [nI_leI (by omega) (by omega)] at h2; omega) (fun _ => ?_)
      refine lv_iconst (v := 0) hx hb d_G_collidesLike_10 (by decide) ?_
      refine vz_top (y := nI 0) (by decide) ?_
      refine lv_istore_n hx hb d_G_collidesLike_11 rfl hl (by decide) rfl (fun ls hl => ?_)
      have hl : lv_has ls 4 [(3, .int (nI 0)), (2, .int (nI i_2)), (0, .ref qg), (1, .ref qg2)] := hl
      have lp_12 : ∀ (k_12 i_12 : Nat) (ls : Array Slot), i_12 + k_12 = n → gLike_L12 n fp fc fp2 fc2 i_2 (fun (_ : Unit) => gLike_L2 n fp fc fp2 fc2 k_2 (i_2 + 1)) k_12 i_12 = (gLike n fp fc fp2 fc2) → lv_has ls 4 [(3, .int (nI i_12)), (2, .int (nI i_2)), (0, .ref qg), (1, .ref qg2)] → W p l e (headSpec w_G_collidesLike rm_G_collidesLike).room s m ([.ref qg, .ref qg2] : List Value).toArray below meth c s.heap [] 0 0 (MQ below (QcRead (gLike n fp fc fp2 fc2)) ([.ref qg, .ref qg2] : List Value).toArray s 0 0 (fun _ => False)) (F0 m 12 ls []) := by
        intro k_12
        induction k_12 with
        | zero =>
          intro i_12 ls hik_12 hfin_12 hl
          refine lv_iload_n hx hb d_G_collidesLike_12 rfl (lv_at hl 0 rfl) ?_
          refine lv_aload_n hx hb d_G_collidesLike_13 rfl (lv_at hl 2 rfl) ?_
          refine va_get (D := (dC, dI)) (ci := 0) (v := .int (nI n)) (C := "ArrowClasses$Graph") (T := TG) (N := 3) hx hb hT inG hown hK hP 0 rfl rfl 0 (by decide) (hT _ wd_fld_G_7) (fun _ h9 => h9) rfl d_G_collidesLike_14 ?_
          refine lv_icmp_ge (tgt := 43) hx hb d_G_collidesLike_17 (by decide) (fun _ => ?_) (fun h3 => by rw [nI_leI (by omega) (by omega)] at h3; omega)
          refine lv_iinc (k := 1) (v := nI (i_2 + 1)) hx hb d_G_collidesLike_43 hl rfl (vz_inc i_2) (by decide) rfl (fun ls hl => ?_)
          have hl : lv_has ls 4 [(2, .int (nI (i_2 + 1))), (3, .int (nI i_12)), (0, .ref qg), (1, .ref qg2)] := hl
          refine lv_goto (tgt := 2) hx hb d_G_collidesLike_46 (by decide) ?_
          exact ih_2 (i_2 + 1) ls (by omega) (by rw [gLike_L12] at hfin_12; exact hfin_12) (lv_sub hl [0, 2, 3] rfl)
        | succ k_12 ih_12 =>
          intro i_12 ls hik_12 hfin_12 hl
          refine lv_iload_n hx hb d_G_collidesLike_12 rfl (lv_at hl 0 rfl) ?_
          refine lv_aload_n hx hb d_G_collidesLike_13 rfl (lv_at hl 2 rfl) ?_
          refine va_get (D := (dC, dI)) (ci := 0) (v := .int (nI n)) (C := "ArrowClasses$Graph") (T := TG) (N := 3) hx hb hT inG hown hK hP 0 rfl rfl 0 (by decide) (hT _ wd_fld_G_7) (fun _ h9 => h9) rfl d_G_collidesLike_14 ?_
          refine lv_icmp_ge (tgt := 43) hx hb d_G_collidesLike_17 (by decide) (fun h4 => by rw [nI_leI (by omega) (by omega)] at h4; omega) (fun _ => ?_)
          refine lv_aload_n hx hb d_G_collidesLike_20 rfl (lv_at hl 2 rfl) ?_
          refine lv_iload_n hx hb d_G_collidesLike_21 rfl (lv_at hl 0 rfl) ?_
          refine lv_iload_n hx hb d_G_collidesLike_22 rfl (lv_at hl 1 rfl) ?_
          refine vz_ro (va_runV (As := [.int (nI i_12), .int (nI i_2)]) (rest := []) ⟨hx, hb, hml, hown, hT⟩ (c_G_strangers l dC dI cI cZ qg qp qc n fp fc (nI i_12) (nI i_2) (vp_in_nI (by omega) (by omega)) (vp_in_nI (by omega) (by omega))) (vz_cwV (n := 2) hT wd_link_G_35 wd_inst_G_strangers wd_sel_G_strangers wd_ini_G wd_code_G_strangers (by decide +kernel) ⟨Nat.le_of_ble_eq_true rfl, Nat.le_of_ble_eq_true rfl⟩) (vz_pv (q0 := 0) (ci := 0) (q := ("ArrowClasses$Graph", TG, 3)) hN hK hP [0, 1, 2] rfl rfl rfl) rfl rfl hl.1 rfl (lv_room (Nat.le_of_ble_eq_true rfl)) d_G_collidesLike_23 ⟨Nat.zero_le _, Nat.zero_le _⟩) ?_
          refine lv_aload_n hx hb d_G_collidesLike_26 rfl (lv_at hl 3 rfl) ?_
          refine lv_iload_n hx hb d_G_collidesLike_27 rfl (lv_at hl 0 rfl) ?_
          refine lv_iload_n hx hb d_G_collidesLike_28 rfl (lv_at hl 1 rfl) ?_
          refine vz_ro (va_runV (As := [.int (nI i_12), .int (nI i_2)]) (rest := [.int (gStr fp fc (nI i_12) (nI i_2))]) ⟨hx, hb, hml, hown, hT⟩ (c_G_strangers l dC dI cI cZ qg2 qp2 qc2 n fp2 fc2 (nI i_12) (nI i_2) (vp_in_nI (by omega) (by omega)) (vp_in_nI (by omega) (by omega))) (vz_cwV (n := 2) hT wd_link_G_35 wd_inst_G_strangers wd_sel_G_strangers wd_ini_G wd_code_G_strangers (by decide +kernel) ⟨Nat.le_of_ble_eq_true rfl, Nat.le_of_ble_eq_true rfl⟩) (vz_pv (q0 := 3) (ci := 0) (q := ("ArrowClasses$Graph", TG, 3)) hN hK hP [3, 4, 5] rfl rfl rfl) rfl rfl hl.1 rfl (lv_room (Nat.le_of_ble_eq_true rfl)) d_G_collidesLike_29 ⟨Nat.zero_le _, Nat.zero_le _⟩) ?_
          refine lv_icmp_eq (tgt := 37) hx hb d_G_collidesLike_32 (by decide) (fun h5 => ?_) (fun h5 => ?_)
          ·
            refine lv_iinc (k := 0) (v := nI (i_12 + 1)) hx hb d_G_collidesLike_37 hl rfl (vz_inc i_12) (by decide) rfl (fun ls hl => ?_)
            have hl : lv_has ls 4 [(3, .int (nI (i_12 + 1))), (2, .int (nI i_2)), (0, .ref qg), (1, .ref qg2)] := hl
            refine lv_goto (tgt := 12) hx hb d_G_collidesLike_40 (by decide) ?_
            exact ih_12 (i_12 + 1) ls (by omega) (by rw [gLike_L12, if_pos h5] at hfin_12; exact hfin_12) (lv_sub hl [0, 1, 2, 3] rfl)
          ·
            refine lv_iconst (v := 0) hx hb d_G_collidesLike_35 (by decide) ?_
            exact W.zret hx hb hr (by decide) (fun t ht hW => ⟨by rw [show (gLike n fp fc fp2 fc2) = (0 : Int32) from (hfin_12.symm.trans (by rw [gLike_L12, if_neg h5]))], ht⟩) (fun q h => absurd h List.not_mem_nil) d_G_collidesLike_36
      exact lp_12 n 0 _ (by omega) (by rw [gLike_L2] at hfin_2; exact hfin_2) (lv_sub hl [0, 1, 2, 3] rfl)
  exact lp_2 n 0 _ (by omega) (by rw [gLike]) (lv_sub hl [0, 1, 2] rfl)
set_option maxRecDepth 100000 in
set_option maxHeartbeats 4000000 in
theorem c_G_openFrom (l : Launch) (dC : Nat → ClassId) (dI : Nat → Nat → Nat) (cI cZ : ClassId) (qg qp qc : Nat) (n : Nat) (fp : Nat → Int32) (fc : Nat → Int32) (x : Int32) (set : Int32) (hn : n ≤ 6) (hxx : vp_in x n) : Met l y_G_openFrom w_G_openFrom rm_G_openFrom (va_Pc [.ref qg, .int x, .int set] (vz_B (dC, dI) vwCl [(qg, .inr (0, [.int (nI n), .ref qp, .ref qc])), (qp, .inl (cI, n, .inl fp)), (qc, .inl (cI, n, .inl fc))] [(cI, .int), (cZ, .boolean)])) (QcRead (gOpen n fp fc x set)) 0 0 (fun _ => False) := by
  refine Met.ofW (cc := b_G_openFrom) (maxL := 11) (ret := (some .int)) (by decide) rfl ?_
  intro p e s m args below meth c s₁ B hml hv
  obtain ⟨rfl, hP, hK, hN⟩ := hv
  have hx := B.exec
  have hb := B.bytes
  have hr := B.returns
  have hts := atoms_spec (ws := w_G_openFrom) B.pre
  have hT : ∀ w ∈ vzB, w.before ([.ref qg, .int x, .int set] : List Value).toArray s = true := fun w h => hts w (List.mem_cons_of_mem _ h)
  have hown : s.vm.findClass "ArrowClasses$Graph" = some m.cls := findClass_of_methodNamed B.named
  have hlocks := B.notSynchronized
  have hl := lv_entry ([.ref qg, .int x, .int set]) (n := 11) (Nat.le_of_ble_eq_true rfl)
  rw [lg_entry_eq]
  generalize (lg_sl ([.ref qg, .int x, .int set]) ++ List.replicate (11 - (lg_sl ([.ref qg, .int x, .int set])).length) Slot.unset).toArray = ls at hl ⊢
  have hl : lv_has ls 11 [(0, .ref qg), (1, .int x), (2, .int set)] := hl
  refine lv_aload_n hx hb d_G_openFrom_0 rfl (lv_at hl 0 rfl) ?_
  refine va_get (D := (dC, dI)) (ci := 0) (v := .ref qp) (C := "ArrowClasses$Graph") (T := TG) (N := 3) hx hb hT inG hown hK hP 0 rfl rfl 1 (by decide) (hT _ wd_fld_G_13) (fun _ h9 => h9) rfl d_G_openFrom_1 ?_
  refine lv_iload_n hx hb d_G_openFrom_4 rfl (lv_at hl 1 rfl) ?_
  refine va_iald (D := (dC, dI)) hx hb hK hP 1 0 rfl rfl (by assumption) d_G_openFrom_5 ?_
  refine lv_istore_n hx hb d_G_openFrom_6 rfl hl (by decide) rfl (fun ls hl => ?_)
  have hl : lv_has ls 11 [(3, .int (fp x.toNatClampNeg)), (0, .ref qg), (1, .int x), (2, .int set)] := hl
  refine lv_aload_n hx hb d_G_openFrom_7 rfl (lv_at hl 1 rfl) ?_
  refine va_get (D := (dC, dI)) (ci := 0) (v := .ref qc) (C := "ArrowClasses$Graph") (T := TG) (N := 3) hx hb hT inG hown hK hP 0 rfl rfl 2 (by decide) (hT _ wd_fld_G_17) (fun _ h9 => h9) rfl d_G_openFrom_8 ?_
  refine lv_iload_n hx hb d_G_openFrom_11 rfl (lv_at hl 2 rfl) ?_
  refine va_iald (D := (dC, dI)) hx hb hK hP 2 0 rfl rfl (by assumption) d_G_openFrom_12 ?_
  refine lv_istore hx hb d_G_openFrom_13 hl (by decide) rfl (fun ls hl => ?_)
  have hl : lv_has ls 11 [(4, .int (fc x.toNatClampNeg)), (3, .int (fp x.toNatClampNeg)), (0, .ref qg), (1, .int x), (2, .int set)] := hl
  refine lv_iconst (v := 1) hx hb d_G_openFrom_15 (by decide) ?_
  refine lv_istore hx hb d_G_openFrom_16 hl (by decide) rfl (fun ls hl => ?_)
  have hl : lv_has ls 11 [(5, .int 1), (4, .int (fc x.toNatClampNeg)), (3, .int (fp x.toNatClampNeg)), (0, .ref qg), (1, .int x), (2, .int set)] := hl
  refine lv_iconst (v := 0) hx hb d_G_openFrom_18 (by decide) ?_
  refine vz_top (y := nI 0) (by decide) ?_
  refine lv_istore hx hb d_G_openFrom_19 hl (by decide) rfl (fun ls hl => ?_)
  have hl : lv_has ls 11 [(6, .int (nI 0)), (5, .int 1), (4, .int (fc x.toNatClampNeg)), (3, .int (fp x.toNatClampNeg)), (0, .ref qg), (1, .int x), (2, .int set)] := hl
  have lp_21 : ∀ (k_21 i_21 : Nat) (ag_21 : Int32) (al_21 : Int32) (gr_21 : Int32) (ls : Array Slot), i_21 + k_21 = (2 * n + 1) → gOpen_L21 n fp fc x set k_21 i_21 ag_21 al_21 gr_21 = (gOpen n fp fc x set) → lv_has ls 11 [(6, .int (nI i_21)), (5, .int gr_21), (4, .int al_21), (3, .int ag_21), (0, .ref qg), (1, .int x), (2, .int set)] → W p l e (headSpec w_G_openFrom rm_G_openFrom).room s m ([.ref qg, .int x, .int set] : List Value).toArray below meth c s.heap [] 0 0 (MQ below (QcRead (gOpen n fp fc x set)) ([.ref qg, .int x, .int set] : List Value).toArray s 0 0 (fun _ => False)) (F0 m 21 ls []) := by
    intro k_21
    induction k_21 with
    | zero =>
      intro i_21 ag_21 al_21 gr_21 ls hik_21 hfin_21 hl
      refine lv_iload hx hb d_G_openFrom_21 (lv_at hl 0 rfl) ?_
      refine lv_iconst (v := 2) hx hb d_G_openFrom_23 (by decide) ?_
      refine lv_aload_n hx hb d_G_openFrom_24 rfl (lv_at hl 4 rfl) ?_
      refine va_get (D := (dC, dI)) (ci := 0) (v := .int (nI n)) (C := "ArrowClasses$Graph") (T := TG) (N := 3) hx hb hT inG hown hK hP 0 rfl rfl 0 (by decide) (hT _ wd_fld_G_7) (fun _ h9 => h9) rfl d_G_openFrom_25 ?_
      refine lv_imul hx hb d_G_openFrom_28 ?_
      refine vz_top (y := nI (2 * n)) (pk_mul 2 n) ?_
      refine lv_icmp_gt (tgt := 154) hx hb d_G_openFrom_29 (by decide) (fun _ => ?_) (fun h1 => by rw [nI_ltI (by omega) (by omega)] at h1; omega)
      refine lv_iload_n hx hb d_G_openFrom_154 rfl (lv_at hl 3 rfl) ?_
      refine lv_iload hx hb d_G_openFrom_155 (lv_at hl 2 rfl) ?_
      refine lv_ior hx hb d_G_openFrom_157 ?_
      exact W.iret hx hb hr (fun t ht hW => ⟨by rw [show (gOpen n fp fc x set) = ag_21 ||| al_21 from (hfin_21.symm.trans (by rw [gOpen_L21]))], ht⟩) (fun q h => absurd h List.not_mem_nil) d_G_openFrom_158
    | succ k_21 ih_21 =>
      intro i_21 ag_21 al_21 gr_21 ls hik_21 hfin_21 hl
      refine lv_iload hx hb d_G_openFrom_21 (lv_at hl 0 rfl) ?_
      refine lv_iconst (v := 2) hx hb d_G_openFrom_23 (by decide) ?_
      refine lv_aload_n hx hb d_G_openFrom_24 rfl (lv_at hl 4 rfl) ?_
      refine va_get (D := (dC, dI)) (ci := 0) (v := .int (nI n)) (C := "ArrowClasses$Graph") (T := TG) (N := 3) hx hb hT inG hown hK hP 0 rfl rfl 0 (by decide) (hT _ wd_fld_G_7) (fun _ h9 => h9) rfl d_G_openFrom_25 ?_
      refine lv_imul hx hb d_G_openFrom_28 ?_
      refine vz_top (y := nI (2 * n)) (pk_mul 2 n) ?_
      refine lv_icmp_gt (tgt := 154) hx hb d_G_openFrom_29 (by decide) (fun h2 => by rw [nI_ltI (by omega) (by omega)] at h2; omega) (fun _ => ?_)
      refine lv_iload hx hb d_G_openFrom_32 (lv_at hl 1 rfl) ?_
      refine lv_if_eq (tgt := 154) hx hb d_G_openFrom_34 (by decide) (fun h3 => ?_) (fun h3 => ?_)
      ·
        refine lv_iload_n hx hb d_G_openFrom_154 rfl (lv_at hl 3 rfl) ?_
        refine lv_iload hx hb d_G_openFrom_155 (lv_at hl 2 rfl) ?_
        refine lv_ior hx hb d_G_openFrom_157 ?_
        exact W.iret hx hb hr (fun t ht hW => ⟨by rw [show (gOpen n fp fc x set) = ag_21 ||| al_21 from (hfin_21.symm.trans (by rw [gOpen_L21, if_pos h3]))], ht⟩) (fun q h => absurd h List.not_mem_nil) d_G_openFrom_158
      ·
        refine lv_iload_n hx hb d_G_openFrom_37 rfl (lv_at hl 3 rfl) ?_
        refine lv_istore hx hb d_G_openFrom_38 hl (by decide) rfl (fun ls hl => ?_)
        have hl : lv_has ls 11 [(7, .int ag_21), (6, .int (nI i_21)), (5, .int gr_21), (4, .int al_21), (3, .int ag_21), (0, .ref qg), (1, .int x), (2, .int set)] := hl
        refine lv_iload hx hb d_G_openFrom_40 (lv_at hl 3 rfl) ?_
        refine lv_istore hx hb d_G_openFrom_42 hl (by decide) rfl (fun ls hl => ?_)
        have hl : lv_has ls 11 [(8, .int al_21), (7, .int ag_21), (6, .int (nI i_21)), (5, .int gr_21), (4, .int al_21), (3, .int ag_21), (0, .ref qg), (1, .int x), (2, .int set)] := hl
        refine lv_iconst (v := 0) hx hb d_G_openFrom_44 (by decide) ?_
        refine vz_top (y := nI 0) (by decide) ?_
        refine lv_istore hx hb d_G_openFrom_45 hl (by decide) rfl (fun ls hl => ?_)
        have hl : lv_has ls 11 [(9, .int (nI 0)), (8, .int al_21), (7, .int ag_21), (6, .int (nI i_21)), (5, .int gr_21), (4, .int al_21), (3, .int ag_21), (0, .ref qg), (1, .int x), (2, .int set)] := hl
        have lp_47 : ∀ (k_47 i_47 : Nat) (ag_47 : Int32) (al_47 : Int32) (ls : Array Slot), i_47 + k_47 = n → gOpen_L47 n fp fc x set i_21 ag_21 al_21 gr_21 (fun w0 w1 w2 => gOpen_L21 n fp fc x set k_21 (i_21 + 1) w0 w1 w2) k_47 i_47 ag_47 al_47 = (gOpen n fp fc x set) → lv_has ls 11 [(9, .int (nI i_47)), (8, .int al_21), (7, .int ag_21), (6, .int (nI i_21)), (5, .int gr_21), (4, .int al_47), (3, .int ag_47), (0, .ref qg), (1, .int x), (2, .int set)] → W p l e (headSpec w_G_openFrom rm_G_openFrom).room s m ([.ref qg, .int x, .int set] : List Value).toArray below meth c s.heap [] 0 0 (MQ below (QcRead (gOpen n fp fc x set)) ([.ref qg, .int x, .int set] : List Value).toArray s 0 0 (fun _ => False)) (F0 m 47 ls []) := by
          intro k_47
          induction k_47 with
          | zero =>
            intro i_47 ag_47 al_47 ls hik_47 hfin_47 hl
            refine lv_iload hx hb d_G_openFrom_47 (lv_at hl 0 rfl) ?_
            refine lv_aload_n hx hb d_G_openFrom_49 rfl (lv_at hl 7 rfl) ?_
            refine va_get (D := (dC, dI)) (ci := 0) (v := .int (nI n)) (C := "ArrowClasses$Graph") (T := TG) (N := 3) hx hb hT inG hown hK hP 0 rfl rfl 0 (by decide) (hT _ wd_fld_G_7) (fun _ h9 => h9) rfl d_G_openFrom_50 ?_
            refine lv_icmp_ge (tgt := 128) hx hb d_G_openFrom_53 (by decide) (fun _ => ?_) (fun h4 => by rw [nI_leI (by omega) (by omega)] at h4; omega)
            refine lv_iload_n hx hb d_G_openFrom_128 rfl (lv_at hl 6 rfl) ?_
            refine lv_iload hx hb d_G_openFrom_129 (lv_at hl 2 rfl) ?_
            refine lv_icmp_ne (tgt := 141) hx hb d_G_openFrom_131 (by decide) (fun h5 => ?_) (fun h5 => ?_)
            ·
              refine lv_iconst (v := 1) hx hb d_G_openFrom_141 (by decide) ?_
              refine lv_goto (tgt := 146) hx hb d_G_openFrom_142 (by decide) ?_
              refine lv_istore hx hb d_G_openFrom_146 hl (by decide) rfl (fun ls hl => ?_)
              have hl : lv_has ls 11 [(5, .int 1), (9, .int (nI i_47)), (8, .int al_21), (7, .int ag_21), (6, .int (nI i_21)), (4, .int al_47), (3, .int ag_47), (0, .ref qg), (1, .int x), (2, .int set)] := hl
              refine lv_iinc (k := 4) (v := nI (i_21 + 1)) hx hb d_G_openFrom_148 hl rfl (vz_inc i_21) (by decide) rfl (fun ls hl => ?_)
              have hl : lv_has ls 11 [(6, .int (nI (i_21 + 1))), (5, .int 1), (9, .int (nI i_47)), (8, .int al_21), (7, .int ag_21), (4, .int al_47), (3, .int ag_47), (0, .ref qg), (1, .int x), (2, .int set)] := hl
              refine lv_goto (tgt := 21) hx hb d_G_openFrom_151 (by decide) ?_
              exact ih_21 (i_21 + 1) ag_47 al_47 1 ls (by omega) (by rw [gOpen_L47, if_neg h5] at hfin_47; exact hfin_47) (lv_sub hl [0, 1, 5, 6, 7, 8, 9] rfl)
            ·
              refine lv_iload hx hb d_G_openFrom_134 (lv_at hl 5 rfl) ?_
              refine lv_iload hx hb d_G_openFrom_136 (lv_at hl 1 rfl) ?_
              refine lv_icmp_eq (tgt := 145) hx hb d_G_openFrom_138 (by decide) (fun h6 => ?_) (fun h6 => ?_)
              ·
                refine lv_iconst (v := 0) hx hb d_G_openFrom_145 (by decide) ?_
                refine lv_istore hx hb d_G_openFrom_146 hl (by decide) rfl (fun ls hl => ?_)
                have hl : lv_has ls 11 [(5, .int 0), (9, .int (nI i_47)), (8, .int al_21), (7, .int ag_21), (6, .int (nI i_21)), (4, .int al_47), (3, .int ag_47), (0, .ref qg), (1, .int x), (2, .int set)] := hl
                refine lv_iinc (k := 4) (v := nI (i_21 + 1)) hx hb d_G_openFrom_148 hl rfl (vz_inc i_21) (by decide) rfl (fun ls hl => ?_)
                have hl : lv_has ls 11 [(6, .int (nI (i_21 + 1))), (5, .int 0), (9, .int (nI i_47)), (8, .int al_21), (7, .int ag_21), (4, .int al_47), (3, .int ag_47), (0, .ref qg), (1, .int x), (2, .int set)] := hl
                refine lv_goto (tgt := 21) hx hb d_G_openFrom_151 (by decide) ?_
                exact ih_21 (i_21 + 1) ag_47 al_47 0 ls (by omega) (by rw [gOpen_L47, if_pos h5, if_pos h6] at hfin_47; exact hfin_47) (lv_sub hl [0, 1, 5, 6, 7, 8, 9] rfl)
              ·
                refine lv_iconst (v := 1) hx hb d_G_openFrom_141 (by decide) ?_
                refine lv_goto (tgt := 146) hx hb d_G_openFrom_142 (by decide) ?_
                refine lv_istore hx hb d_G_openFrom_146 hl (by decide) rfl (fun ls hl => ?_)
                have hl : lv_has ls 11 [(5, .int 1), (9, .int (nI i_47)), (8, .int al_21), (7, .int ag_21), (6, .int (nI i_21)), (4, .int al_47), (3, .int ag_47), (0, .ref qg), (1, .int x), (2, .int set)] := hl
                refine lv_iinc (k := 4) (v := nI (i_21 + 1)) hx hb d_G_openFrom_148 hl rfl (vz_inc i_21) (by decide) rfl (fun ls hl => ?_)
                have hl : lv_has ls 11 [(6, .int (nI (i_21 + 1))), (5, .int 1), (9, .int (nI i_47)), (8, .int al_21), (7, .int ag_21), (4, .int al_47), (3, .int ag_47), (0, .ref qg), (1, .int x), (2, .int set)] := hl
                refine lv_goto (tgt := 21) hx hb d_G_openFrom_151 (by decide) ?_
                exact ih_21 (i_21 + 1) ag_47 al_47 1 ls (by omega) (by rw [gOpen_L47, if_pos h5, if_neg h6] at hfin_47; exact hfin_47) (lv_sub hl [0, 1, 5, 6, 7, 8, 9] rfl)
          | succ k_47 ih_47 =>
            intro i_47 ag_47 al_47 ls hik_47 hfin_47 hl
            refine lv_iload hx hb d_G_openFrom_47 (lv_at hl 0 rfl) ?_
            refine lv_aload_n hx hb d_G_openFrom_49 rfl (lv_at hl 7 rfl) ?_
            refine va_get (D := (dC, dI)) (ci := 0) (v := .int (nI n)) (C := "ArrowClasses$Graph") (T := TG) (N := 3) hx hb hT inG hown hK hP 0 rfl rfl 0 (by decide) (hT _ wd_fld_G_7) (fun _ h9 => h9) rfl d_G_openFrom_50 ?_
            refine lv_icmp_ge (tgt := 128) hx hb d_G_openFrom_53 (by decide) (fun h7 => by rw [nI_leI (by omega) (by omega)] at h7; omega) (fun _ => ?_)
            refine lv_iload_n hx hb d_G_openFrom_56 rfl (lv_at hl 9 rfl) ?_
            refine lv_iload hx hb d_G_openFrom_57 (lv_at hl 0 rfl) ?_
            refine vz_ro (va_runSN (As := [.int set, .int (nI i_47)]) (rest := []) ⟨hx, hb, hml, hown, hT⟩ (c_A_holds l dC dI cI cZ set (nI i_47)) (vz_cwN (n := 2) hT hN wd_stat_A_holds wd_ini_A wd_code_A_holds (by decide +kernel) ⟨Nat.le_of_ble_eq_true rfl, Nat.le_of_ble_eq_true rfl⟩) (vz_ps hN hK hP [] rfl) rfl rfl hl.1 rfl (lv_room (Nat.le_of_ble_eq_true rfl)) d_G_openFrom_59 ⟨Nat.zero_le _, Nat.zero_le _⟩) ?_
            refine lv_istore hx hb d_G_openFrom_62 hl (by decide) rfl (fun ls hl => ?_)
            have hl : lv_has ls 11 [(10, .int (hHolds set (nI i_47))), (9, .int (nI i_47)), (8, .int al_21), (7, .int ag_21), (6, .int (nI i_21)), (5, .int gr_21), (4, .int al_47), (3, .int ag_47), (0, .ref qg), (1, .int x), (2, .int set)] := hl
            refine lv_iload hx hb d_G_openFrom_64 (lv_at hl 0 rfl) ?_
            refine lv_if_ne (tgt := 93) hx hb d_G_openFrom_66 (by decide) (fun h8 => ?_) (fun h8 => ?_)
            ·
              refine lv_iload hx hb d_G_openFrom_93 (lv_at hl 0 rfl) ?_
              refine lv_if_eq (tgt := 103) hx hb d_G_openFrom_95 (by decide) (fun h9 => absurd h9 h8) (fun _ => ?_)
              refine lv_iload hx hb d_G_openFrom_98 (lv_at hl 6 rfl) ?_
              refine lv_goto (tgt := 104) hx hb d_G_openFrom_100 (by decide) ?_
              refine lv_iload hx hb d_G_openFrom_104 (lv_at hl 1 rfl) ?_
              refine vz_ro (va_runSN (As := [.int al_47, .int (nI i_47)]) (rest := []) ⟨hx, hb, hml, hown, hT⟩ (c_A_holds l dC dI cI cZ al_47 (nI i_47)) (vz_cwN (n := 2) hT hN wd_stat_A_holds wd_ini_A wd_code_A_holds (by decide +kernel) ⟨Nat.le_of_ble_eq_true rfl, Nat.le_of_ble_eq_true rfl⟩) (vz_ps hN hK hP [] rfl) rfl rfl hl.1 rfl (lv_room (Nat.le_of_ble_eq_true rfl)) d_G_openFrom_106 ⟨Nat.zero_le _, Nat.zero_le _⟩) ?_
              refine lv_if_eq (tgt := 122) hx hb d_G_openFrom_109 (by decide) (fun h10 => ?_) (fun h10 => ?_)
              ·
                refine lv_iinc (k := 1) (v := nI (i_47 + 1)) hx hb d_G_openFrom_122 hl rfl (vz_inc i_47) (by decide) rfl (fun ls hl => ?_)
                have hl : lv_has ls 11 [(9, .int (nI (i_47 + 1))), (10, .int (hHolds set (nI i_47))), (8, .int al_21), (7, .int ag_21), (6, .int (nI i_21)), (5, .int gr_21), (4, .int al_47), (3, .int ag_47), (0, .ref qg), (1, .int x), (2, .int set)] := hl
                refine lv_goto (tgt := 47) hx hb d_G_openFrom_125 (by decide) ?_
                exact ih_47 (i_47 + 1) ag_47 al_47 ls (by omega) (by rw [gOpen_L47, if_neg h8, if_pos h10] at hfin_47; exact hfin_47) (lv_sub hl [0, 2, 3, 4, 5, 6, 7, 8, 9, 10] rfl)
              ·
                refine lv_iload_n hx hb d_G_openFrom_112 rfl (lv_at hl 7 rfl) ?_
                refine lv_aload_n hx hb d_G_openFrom_113 rfl (lv_at hl 8 rfl) ?_
                refine va_get (D := (dC, dI)) (ci := 0) (v := .ref qp) (C := "ArrowClasses$Graph") (T := TG) (N := 3) hx hb hT inG hown hK hP 0 rfl rfl 1 (by decide) (hT _ wd_fld_G_13) (fun _ h9 => h9) rfl d_G_openFrom_114 ?_
                refine lv_iload hx hb d_G_openFrom_117 (lv_at hl 1 rfl) ?_
                refine va_iald (D := (dC, dI)) hx hb hK hP 1 0 rfl rfl (vp_in_nI (by omega) (by omega)) d_G_openFrom_119 ?_
                refine lv_ior hx hb d_G_openFrom_120 ?_
                refine lv_istore_n hx hb d_G_openFrom_121 rfl hl (by decide) rfl (fun ls hl => ?_)
                have hl : lv_has ls 11 [(3, .int (ag_47 ||| (fp (nI i_47).toNatClampNeg))), (10, .int (hHolds set (nI i_47))), (9, .int (nI i_47)), (8, .int al_21), (7, .int ag_21), (6, .int (nI i_21)), (5, .int gr_21), (4, .int al_47), (0, .ref qg), (1, .int x), (2, .int set)] := hl
                refine lv_iinc (k := 2) (v := nI (i_47 + 1)) hx hb d_G_openFrom_122 hl rfl (vz_inc i_47) (by decide) rfl (fun ls hl => ?_)
                have hl : lv_has ls 11 [(9, .int (nI (i_47 + 1))), (3, .int (ag_47 ||| (fp (nI i_47).toNatClampNeg))), (10, .int (hHolds set (nI i_47))), (8, .int al_21), (7, .int ag_21), (6, .int (nI i_21)), (5, .int gr_21), (4, .int al_47), (0, .ref qg), (1, .int x), (2, .int set)] := hl
                refine lv_goto (tgt := 47) hx hb d_G_openFrom_125 (by decide) ?_
                exact ih_47 (i_47 + 1) (ag_47 ||| (fp (nI i_47).toNatClampNeg)) al_47 ls (by omega) (by rw [gOpen_L47, if_neg h8, if_neg h10] at hfin_47; exact hfin_47) (lv_sub hl [0, 3, 4, 5, 6, 7, 1, 8, 9, 10] rfl)
            ·
              refine lv_iload_n hx hb d_G_openFrom_69 rfl (lv_at hl 7 rfl) ?_
              refine lv_iload hx hb d_G_openFrom_70 (lv_at hl 6 rfl) ?_
              refine lv_ior hx hb d_G_openFrom_72 ?_
              refine lv_iload hx hb d_G_openFrom_73 (lv_at hl 1 rfl) ?_
              refine vz_ro (va_runSN (As := [.int (ag_47 ||| al_47), .int (nI i_47)]) (rest := []) ⟨hx, hb, hml, hown, hT⟩ (c_A_holds l dC dI cI cZ (ag_47 ||| al_47) (nI i_47)) (vz_cwN (n := 2) hT hN wd_stat_A_holds wd_ini_A wd_code_A_holds (by decide +kernel) ⟨Nat.le_of_ble_eq_true rfl, Nat.le_of_ble_eq_true rfl⟩) (vz_ps hN hK hP [] rfl) rfl rfl hl.1 rfl (lv_room (Nat.le_of_ble_eq_true rfl)) d_G_openFrom_75 ⟨Nat.zero_le _, Nat.zero_le _⟩) ?_
              refine lv_if_eq (tgt := 93) hx hb d_G_openFrom_78 (by decide) (fun h11 => ?_) (fun h11 => ?_)
              ·
                refine lv_iload hx hb d_G_openFrom_93 (lv_at hl 0 rfl) ?_
                refine lv_if_eq (tgt := 103) hx hb d_G_openFrom_95 (by decide) (fun _ => ?_) (fun h12 => absurd h8 h12)
                refine lv_iload_n hx hb d_G_openFrom_103 rfl (lv_at hl 7 rfl) ?_
                refine lv_iload hx hb d_G_openFrom_104 (lv_at hl 1 rfl) ?_
                refine vz_ro (va_runSN (As := [.int ag_47, .int (nI i_47)]) (rest := []) ⟨hx, hb, hml, hown, hT⟩ (c_A_holds l dC dI cI cZ ag_47 (nI i_47)) (vz_cwN (n := 2) hT hN wd_stat_A_holds wd_ini_A wd_code_A_holds (by decide +kernel) ⟨Nat.le_of_ble_eq_true rfl, Nat.le_of_ble_eq_true rfl⟩) (vz_ps hN hK hP [] rfl) rfl rfl hl.1 rfl (lv_room (Nat.le_of_ble_eq_true rfl)) d_G_openFrom_106 ⟨Nat.zero_le _, Nat.zero_le _⟩) ?_
                refine lv_if_eq (tgt := 122) hx hb d_G_openFrom_109 (by decide) (fun h13 => ?_) (fun h13 => ?_)
                ·
                  refine lv_iinc (k := 1) (v := nI (i_47 + 1)) hx hb d_G_openFrom_122 hl rfl (vz_inc i_47) (by decide) rfl (fun ls hl => ?_)
                  have hl : lv_has ls 11 [(9, .int (nI (i_47 + 1))), (10, .int (hHolds set (nI i_47))), (8, .int al_21), (7, .int ag_21), (6, .int (nI i_21)), (5, .int gr_21), (4, .int al_47), (3, .int ag_47), (0, .ref qg), (1, .int x), (2, .int set)] := hl
                  refine lv_goto (tgt := 47) hx hb d_G_openFrom_125 (by decide) ?_
                  exact ih_47 (i_47 + 1) ag_47 al_47 ls (by omega) (by rw [gOpen_L47, if_pos h8, if_pos h11, if_pos h13] at hfin_47; exact hfin_47) (lv_sub hl [0, 2, 3, 4, 5, 6, 7, 8, 9, 10] rfl)
                ·
                  refine lv_iload_n hx hb d_G_openFrom_112 rfl (lv_at hl 7 rfl) ?_
                  refine lv_aload_n hx hb d_G_openFrom_113 rfl (lv_at hl 8 rfl) ?_
                  refine va_get (D := (dC, dI)) (ci := 0) (v := .ref qp) (C := "ArrowClasses$Graph") (T := TG) (N := 3) hx hb hT inG hown hK hP 0 rfl rfl 1 (by decide) (hT _ wd_fld_G_13) (fun _ h9 => h9) rfl d_G_openFrom_114 ?_
                  refine lv_iload hx hb d_G_openFrom_117 (lv_at hl 1 rfl) ?_
                  refine va_iald (D := (dC, dI)) hx hb hK hP 1 0 rfl rfl (vp_in_nI (by omega) (by omega)) d_G_openFrom_119 ?_
                  refine lv_ior hx hb d_G_openFrom_120 ?_
                  refine lv_istore_n hx hb d_G_openFrom_121 rfl hl (by decide) rfl (fun ls hl => ?_)
                  have hl : lv_has ls 11 [(3, .int (ag_47 ||| (fp (nI i_47).toNatClampNeg))), (10, .int (hHolds set (nI i_47))), (9, .int (nI i_47)), (8, .int al_21), (7, .int ag_21), (6, .int (nI i_21)), (5, .int gr_21), (4, .int al_47), (0, .ref qg), (1, .int x), (2, .int set)] := hl
                  refine lv_iinc (k := 2) (v := nI (i_47 + 1)) hx hb d_G_openFrom_122 hl rfl (vz_inc i_47) (by decide) rfl (fun ls hl => ?_)
                  have hl : lv_has ls 11 [(9, .int (nI (i_47 + 1))), (3, .int (ag_47 ||| (fp (nI i_47).toNatClampNeg))), (10, .int (hHolds set (nI i_47))), (8, .int al_21), (7, .int ag_21), (6, .int (nI i_21)), (5, .int gr_21), (4, .int al_47), (0, .ref qg), (1, .int x), (2, .int set)] := hl
                  refine lv_goto (tgt := 47) hx hb d_G_openFrom_125 (by decide) ?_
                  exact ih_47 (i_47 + 1) (ag_47 ||| (fp (nI i_47).toNatClampNeg)) al_47 ls (by omega) (by rw [gOpen_L47, if_pos h8, if_pos h11, if_neg h13] at hfin_47; exact hfin_47) (lv_sub hl [0, 3, 4, 5, 6, 7, 1, 8, 9, 10] rfl)
              ·
                refine lv_iload hx hb d_G_openFrom_81 (lv_at hl 6 rfl) ?_
                refine lv_aload_n hx hb d_G_openFrom_83 rfl (lv_at hl 8 rfl) ?_
                refine va_get (D := (dC, dI)) (ci := 0) (v := .ref qc) (C := "ArrowClasses$Graph") (T := TG) (N := 3) hx hb hT inG hown hK hP 0 rfl rfl 2 (by decide) (hT _ wd_fld_G_17) (fun _ h9 => h9) rfl d_G_openFrom_84 ?_
                refine lv_iload hx hb d_G_openFrom_87 (lv_at hl 1 rfl) ?_
                refine va_iald (D := (dC, dI)) hx hb hK hP 2 0 rfl rfl (vp_in_nI (by omega) (by omega)) d_G_openFrom_89 ?_
                refine lv_ior hx hb d_G_openFrom_90 ?_
                refine lv_istore hx hb d_G_openFrom_91 hl (by decide) rfl (fun ls hl => ?_)
                have hl : lv_has ls 11 [(4, .int (al_47 ||| (fc (nI i_47).toNatClampNeg))), (10, .int (hHolds set (nI i_47))), (9, .int (nI i_47)), (8, .int al_21), (7, .int ag_21), (6, .int (nI i_21)), (5, .int gr_21), (3, .int ag_47), (0, .ref qg), (1, .int x), (2, .int set)] := hl
                refine lv_iload hx hb d_G_openFrom_93 (lv_at hl 1 rfl) ?_
                refine lv_if_eq (tgt := 103) hx hb d_G_openFrom_95 (by decide) (fun _ => ?_) (fun h14 => absurd h8 h14)
                refine lv_iload_n hx hb d_G_openFrom_103 rfl (lv_at hl 7 rfl) ?_
                refine lv_iload hx hb d_G_openFrom_104 (lv_at hl 2 rfl) ?_
                refine vz_ro (va_runSN (As := [.int ag_47, .int (nI i_47)]) (rest := []) ⟨hx, hb, hml, hown, hT⟩ (c_A_holds l dC dI cI cZ ag_47 (nI i_47)) (vz_cwN (n := 2) hT hN wd_stat_A_holds wd_ini_A wd_code_A_holds (by decide +kernel) ⟨Nat.le_of_ble_eq_true rfl, Nat.le_of_ble_eq_true rfl⟩) (vz_ps hN hK hP [] rfl) rfl rfl hl.1 rfl (lv_room (Nat.le_of_ble_eq_true rfl)) d_G_openFrom_106 ⟨Nat.zero_le _, Nat.zero_le _⟩) ?_
                refine lv_if_eq (tgt := 122) hx hb d_G_openFrom_109 (by decide) (fun h15 => ?_) (fun h15 => ?_)
                ·
                  refine lv_iinc (k := 2) (v := nI (i_47 + 1)) hx hb d_G_openFrom_122 hl rfl (vz_inc i_47) (by decide) rfl (fun ls hl => ?_)
                  have hl : lv_has ls 11 [(9, .int (nI (i_47 + 1))), (4, .int (al_47 ||| (fc (nI i_47).toNatClampNeg))), (10, .int (hHolds set (nI i_47))), (8, .int al_21), (7, .int ag_21), (6, .int (nI i_21)), (5, .int gr_21), (3, .int ag_47), (0, .ref qg), (1, .int x), (2, .int set)] := hl
                  refine lv_goto (tgt := 47) hx hb d_G_openFrom_125 (by decide) ?_
                  exact ih_47 (i_47 + 1) ag_47 (al_47 ||| (fc (nI i_47).toNatClampNeg)) ls (by omega) (by rw [gOpen_L47, if_pos h8, if_neg h11, if_pos h15] at hfin_47; exact hfin_47) (lv_sub hl [0, 3, 4, 5, 6, 1, 7, 8, 9, 10] rfl)
                ·
                  refine lv_iload_n hx hb d_G_openFrom_112 rfl (lv_at hl 7 rfl) ?_
                  refine lv_aload_n hx hb d_G_openFrom_113 rfl (lv_at hl 8 rfl) ?_
                  refine va_get (D := (dC, dI)) (ci := 0) (v := .ref qp) (C := "ArrowClasses$Graph") (T := TG) (N := 3) hx hb hT inG hown hK hP 0 rfl rfl 1 (by decide) (hT _ wd_fld_G_13) (fun _ h9 => h9) rfl d_G_openFrom_114 ?_
                  refine lv_iload hx hb d_G_openFrom_117 (lv_at hl 2 rfl) ?_
                  refine va_iald (D := (dC, dI)) hx hb hK hP 1 0 rfl rfl (vp_in_nI (by omega) (by omega)) d_G_openFrom_119 ?_
                  refine lv_ior hx hb d_G_openFrom_120 ?_
                  refine lv_istore_n hx hb d_G_openFrom_121 rfl hl (by decide) rfl (fun ls hl => ?_)
                  have hl : lv_has ls 11 [(3, .int (ag_47 ||| (fp (nI i_47).toNatClampNeg))), (4, .int (al_47 ||| (fc (nI i_47).toNatClampNeg))), (10, .int (hHolds set (nI i_47))), (9, .int (nI i_47)), (8, .int al_21), (7, .int ag_21), (6, .int (nI i_21)), (5, .int gr_21), (0, .ref qg), (1, .int x), (2, .int set)] := hl
                  refine lv_iinc (k := 3) (v := nI (i_47 + 1)) hx hb d_G_openFrom_122 hl rfl (vz_inc i_47) (by decide) rfl (fun ls hl => ?_)
                  have hl : lv_has ls 11 [(9, .int (nI (i_47 + 1))), (3, .int (ag_47 ||| (fp (nI i_47).toNatClampNeg))), (4, .int (al_47 ||| (fc (nI i_47).toNatClampNeg))), (10, .int (hHolds set (nI i_47))), (8, .int al_21), (7, .int ag_21), (6, .int (nI i_21)), (5, .int gr_21), (0, .ref qg), (1, .int x), (2, .int set)] := hl
                  refine lv_goto (tgt := 47) hx hb d_G_openFrom_125 (by decide) ?_
                  exact ih_47 (i_47 + 1) (ag_47 ||| (fp (nI i_47).toNatClampNeg)) (al_47 ||| (fc (nI i_47).toNatClampNeg)) ls (by omega) (by rw [gOpen_L47, if_pos h8, if_neg h11, if_neg h15] at hfin_47; exact hfin_47) (lv_sub hl [0, 4, 5, 6, 7, 2, 1, 8, 9, 10] rfl)
        exact lp_47 n 0 ag_21 al_21 _ (by omega) (by rw [gOpen_L21, if_neg h3] at hfin_21; exact hfin_21) (lv_sub hl [0, 1, 2, 3, 4, 5, 6, 7, 8, 9] rfl)
  exact lp_21 (2 * n + 1) 0 (fp x.toNatClampNeg) (fc x.toNatClampNeg) 1 _ (by omega) (by rw [gOpen]) (lv_sub hl [0, 1, 2, 3, 4, 5, 6] rfl)
