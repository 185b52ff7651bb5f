set_option maxRecDepth 100000 in
set_option maxHeartbeats 4000000 in
theorem c_M_isNode (l : Launch) (dC : Nat → ClassId) (dI : Nat → Nat → Nat) (cI cZ : ClassId) (qo qha qkn qtr qhv qbe qlo qhi qpa qne qre : Nat) (mh : Nat → Int32) (mk : Nat → Int32) (mt : Nat → Int32) (mv : Nat → Int32) (mb : Nat → Int32) (ml : Nat → Int32) (mg : Nat → Int32) (mp : Nat → Int32) (mx : Nat → Int32) (mr : Nat → Int32) (mc : Int32) (Q : Nat) (n : Nat) (u : Int32) : Met l y_M_isNode w_M_isNode rm_M_isNode (va_Pc [.ref qo, .int u] (vz_B (dC, dI) vwCl [(qo, .inr (3, [.int (nI n), .ref qha, .ref qkn, .ref qtr, .int mc, .ref qhv, .ref qbe, .int (nI Q), .ref qlo, .ref qhi, .ref qpa, .ref qne, .ref qre])), (qha, .inl (cZ, 36, .inl mh)), (qkn, .inl (cZ, 36, .inl mk)), (qtr, .inl (cZ, 36, .inl mt)), (qhv, .inl (cI, 36, .inl mv)), (qbe, .inl (cZ, 36, .inl mb)), (qlo, .inl (cI, 9, .inl ml)), (qhi, .inl (cI, 9, .inl mg)), (qpa, .inl (cI, 6, .inl mp)), (qne, .inl (cI, 6, .inl mx)), (qre, .inl (cI, 6, .inl mr))] [(cI, .int), (cZ, .boolean)])) (QcRead (mNode n u)) 0 0 (fun _ => False) := by
  refine Met.ofW (cc := b_M_isNode) (maxL := 2) (ret := (some .boolean)) (by decide) rfl ?_
  intro p e s m args below meth c s₁ B hml hv
  obtain ⟨rfl, hP, hK, hN⟩ := hv
  have hx := B.exec
  have hb := B.bytes
  have hr := B.returns
  have hts := atoms_spec (ws := w_M_isNode) B.pre
  have hT : ∀ w ∈ vzB, w.before ([.ref qo, .int u] : List Value).toArray s = true := fun w h => hts w (List.mem_cons_of_mem _ h)
  have hown : s.vm.findClass "ArrowClassesModel" = some m.cls := findClass_of_methodNamed B.named
  have hlocks := B.notSynchronized
  have hl := lv_entry ([.ref qo, .int u]) (n := 2) (Nat.le_of_ble_eq_true rfl)
  rw [lg_entry_eq]
  generalize (lg_sl ([.ref qo, .int u]) ++ List.replicate (2 - (lg_sl ([.ref qo, .int u])).length) Slot.unset).toArray = ls at hl ⊢
  have hl : lv_has ls 2 [(0, .ref qo), (1, .int u)] := hl
  refine lv_iload_n hx hb d_M_isNode_0 rfl (lv_at hl 1 rfl) ?_
  refine lv_if_lt (tgt := 16) hx hb d_M_isNode_1 (by decide) (fun h1 => ?_) (fun h1 => ?_)
  ·
    refine lv_iconst (v := 0) hx hb d_M_isNode_16 (by decide) ?_
    exact W.zret hx hb hr (by decide) (fun t ht hW => ⟨by rw [show (mNode n u) = (0 : Int32) from (by rw [mNode, if_pos h1])], ht⟩) (fun q h => absurd h List.not_mem_nil) d_M_isNode_17
  ·
    refine lv_iload_n hx hb d_M_isNode_4 rfl (lv_at hl 1 rfl) ?_
    refine lv_aload_n hx hb d_M_isNode_5 rfl (lv_at hl 0 rfl) ?_
    refine va_get (D := (dC, dI)) (ci := 3) (v := .int (nI n)) (C := "ArrowClassesModel") (T := TM) (N := 13) hx hb hT inM hown hK hP 0 rfl rfl 0 (by decide) (hT _ wd_fld_M_41) (fun _ h9 => h9) rfl d_M_isNode_6 ?_
    refine lv_icmp_ge (tgt := 16) hx hb d_M_isNode_9 (by decide) (fun h2 => ?_) (fun h2 => ?_)
    ·
      refine lv_iconst (v := 0) hx hb d_M_isNode_16 (by decide) ?_
      exact W.zret hx hb hr (by decide) (fun t ht hW => ⟨by rw [show (mNode n u) = (0 : Int32) from (by rw [mNode, if_neg h1, if_pos h2])], ht⟩) (fun q h => absurd h List.not_mem_nil) d_M_isNode_17
    ·
      refine lv_iconst (v := 1) hx hb d_M_isNode_12 (by decide) ?_
      refine lv_goto (tgt := 17) hx hb d_M_isNode_13 (by decide) ?_
      exact W.zret hx hb hr (by decide) (fun t ht hW => ⟨by rw [show (mNode n u) = (1 : Int32) from (by rw [mNode, if_neg h1, if_neg h2])], ht⟩) (fun q h => absurd h List.not_mem_nil) d_M_isNode_17
set_option maxRecDepth 100000 in
set_option maxHeartbeats 4000000 in
theorem c_M_areNodes (l : Launch) (dC : Nat → ClassId) (dI : Nat → Nat → Nat) (cI cZ : ClassId) (qo qha qkn qtr qhv qbe qlo qhi qpa qne qre : Nat) (mh : Nat → Int32) (mk : Nat → Int32) (mt : Nat → Int32) (mv : Nat → Int32) (mb : Nat → Int32) (ml : Nat → Int32) (mg : Nat → Int32) (mp : Nat → Int32) (mx : Nat → Int32) (mr : Nat → Int32) (mc : Int32) (Q : Nat) (n : Nat) (u : Int32) (v : Int32) : Met l y_M_areNodes w_M_areNodes rm_M_areNodes (va_Pc [.ref qo, .int u, .int v] (vz_B (dC, dI) vwCl [(qo, .inr (3, [.int (nI n), .ref qha, .ref qkn, .ref qtr, .int mc, .ref qhv, .ref qbe, .int (nI Q), .ref qlo, .ref qhi, .ref qpa, .ref qne, .ref qre])), (qha, .inl (cZ, 36, .inl mh)), (qkn, .inl (cZ, 36, .inl mk)), (qtr, .inl (cZ, 36, .inl mt)), (qhv, .inl (cI, 36, .inl mv)), (qbe, .inl (cZ, 36, .inl mb)), (qlo, .inl (cI, 9, .inl ml)), (qhi, .inl (cI, 9, .inl mg)), (qpa, .inl (cI, 6, .inl mp)), (qne, .inl (cI, 6, .inl mx)), (qre, .inl (cI, 6, .inl mr))] [(cI, .int), (cZ, .boolean)])) (QcRead (mPair n u v)) 0 0 (fun _ => False) := by
  refine Met.ofW (cc := b_M_areNodes) (maxL := 3) (ret := (some .boolean)) (by decide) rfl ?_
  intro p e s m args below meth c s₁ B hml hv
  obtain ⟨rfl, hP, hK, hN⟩ := hv
  have hx := B.exec
  have hb := B.bytes
  have hr := B.returns
  have hts := atoms_spec (ws := w_M_areNodes) B.pre
  have hT : ∀ w ∈ vzB, w.before ([.ref qo, .int u, .int v] : List Value).toArray s = true := fun w h => hts w (List.mem_cons_of_mem _ h)
  have hown : s.vm.findClass "ArrowClassesModel" = some m.cls := findClass_of_methodNamed B.named
  have hlocks := B.notSynchronized
  have hl := lv_entry ([.ref qo, .int u, .int v]) (n := 3) (Nat.le_of_ble_eq_true rfl)
  rw [lg_entry_eq]
  generalize (lg_sl ([.ref qo, .int u, .int v]) ++ List.replicate (3 - (lg_sl ([.ref qo, .int u, .int v])).length) Slot.unset).toArray = ls at hl ⊢
  have hl : lv_has ls 3 [(0, .ref qo), (1, .int u), (2, .int v)] := hl
  refine lv_aload_n hx hb d_M_areNodes_0 rfl (lv_at hl 0 rfl) ?_
  refine lv_iload_n hx hb d_M_areNodes_1 rfl (lv_at hl 1 rfl) ?_
  refine vz_ro (va_runV (As := [.int u]) (rest := []) ⟨hx, hb, hml, hown, hT⟩ (c_M_isNode l dC dI cI cZ qo qha qkn qtr qhv qbe qlo qhi qpa qne qre mh mk mt mv mb ml mg mp mx mr mc Q n u) (vz_cwV (n := 1) hT wd_link_M_45 wd_inst_M_isNode wd_sel_M_isNode wd_ini_M wd_code_M_isNode (by decide +kernel) ⟨Nat.le_of_ble_eq_true rfl, Nat.le_of_ble_eq_true rfl⟩) (vz_pv (q0 := 0) (ci := 3) (q := ("ArrowClassesModel", TM, 13)) hN hK hP [0, 1, 2, 3, 4, 5, 6, 7, 8, 9, 10] rfl rfl rfl) rfl rfl hl.1 rfl (lv_room (Nat.le_of_ble_eq_true rfl)) d_M_areNodes_2 ⟨Nat.zero_le _, Nat.zero_le _⟩) ?_
  refine lv_if_eq (tgt := 25) hx hb d_M_areNodes_5 (by decide) (fun h1 => ?_) (fun h1 => ?_)
  ·
    refine lv_iconst (v := 0) hx hb d_M_areNodes_25 (by decide) ?_
    exact W.zret hx hb hr (by decide) (fun t ht hW => ⟨by rw [show (mPair n u v) = (0 : Int32) from (by rw [mPair, if_pos h1])], ht⟩) (fun q h => absurd h List.not_mem_nil) d_M_areNodes_26
  ·
    refine lv_aload_n hx hb d_M_areNodes_8 rfl (lv_at hl 0 rfl) ?_
    refine lv_iload_n hx hb d_M_areNodes_9 rfl (lv_at hl 2 rfl) ?_
    refine vz_ro (va_runV (As := [.int v]) (rest := []) ⟨hx, hb, hml, hown, hT⟩ (c_M_isNode l dC dI cI cZ qo qha qkn qtr qhv qbe qlo qhi qpa qne qre mh mk mt mv mb ml mg mp mx mr mc Q n v) (vz_cwV (n := 1) hT wd_link_M_45 wd_inst_M_isNode wd_sel_M_isNode wd_ini_M wd_code_M_isNode (by decide +kernel) ⟨Nat.le_of_ble_eq_true rfl, Nat.le_of_ble_eq_true rfl⟩) (vz_pv (q0 := 0) (ci := 3) (q := ("ArrowClassesModel", TM, 13)) hN hK hP [0, 1, 2, 3, 4, 5, 6, 7, 8, 9, 10] rfl rfl rfl) rfl rfl hl.1 rfl (lv_room (Nat.le_of_ble_eq_true rfl)) d_M_areNodes_10 ⟨Nat.zero_le _, Nat.zero_le _⟩) ?_
    refine lv_if_eq (tgt := 25) hx hb d_M_areNodes_13 (by decide) (fun h2 => ?_) (fun h2 => ?_)
    ·
      refine lv_iconst (v := 0) hx hb d_M_areNodes_25 (by decide) ?_
      exact W.zret hx hb hr (by decide) (fun t ht hW => ⟨by rw [show (mPair n u v) = (0 : Int32) from (by rw [mPair, if_neg h1, if_pos h2])], ht⟩) (fun q h => absurd h List.not_mem_nil) d_M_areNodes_26
    ·
      refine lv_iload_n hx hb d_M_areNodes_16 rfl (lv_at hl 1 rfl) ?_
      refine lv_iload_n hx hb d_M_areNodes_17 rfl (lv_at hl 2 rfl) ?_
      refine lv_icmp_eq (tgt := 25) hx hb d_M_areNodes_18 (by decide) (fun h3 => ?_) (fun h3 => ?_)
      ·
        refine lv_iconst (v := 0) hx hb d_M_areNodes_25 (by decide) ?_
        exact W.zret hx hb hr (by decide) (fun t ht hW => ⟨by rw [show (mPair n u v) = (0 : Int32) from (by rw [mPair, if_neg h1, if_neg h2, if_pos h3])], ht⟩) (fun q h => absurd h List.not_mem_nil) d_M_areNodes_26
      ·
        refine lv_iconst (v := 1) hx hb d_M_areNodes_21 (by decide) ?_
        refine lv_goto (tgt := 26) hx hb d_M_areNodes_22 (by decide) ?_
        exact W.zret hx hb hr (by decide) (fun t ht hW => ⟨by rw [show (mPair n u v) = (1 : Int32) from (by rw [mPair, if_neg h1, if_neg h2, if_neg h3])], ht⟩) (fun q h => absurd h List.not_mem_nil) d_M_areNodes_26
set_option maxRecDepth 100000 in
set_option maxHeartbeats 4000000 in
theorem c_M_joined (l : Launch) (dC : Nat → ClassId) (dI : Nat → Nat → Nat) (cI cZ : ClassId) (qo qha qkn qtr qhv qbe qlo qhi qpa qne qre : Nat) (n : Nat) (mk : Nat → Int32) (mt : Nat → Int32) (mv : Nat → Int32) (mb : Nat → Int32) (ml : Nat → Int32) (mg : Nat → Int32) (mp : Nat → Int32) (mx : Nat → Int32) (mr : Nat → Int32) (mc : Int32) (Q : Nat) (mh : Nat → Int32) (u : Int32) (v : Int32) (hn : n ≤ 6) (hu : vp_in u n) (hv2 : vp_in v n) : Met l y_M_joined w_M_joined rm_M_joined (va_Pc [.ref qo, .int u, .int v] (vz_B (dC, dI) vwCl [(qo, .inr (3, [.int (nI n), .ref qha, .ref qkn, .ref qtr, .int mc, .ref qhv, .ref qbe, .int (nI Q), .ref qlo, .ref qhi, .ref qpa, .ref qne, .ref qre])), (qha, .inl (cZ, 36, .inl mh)), (qkn, .inl (cZ, 36, .inl mk)), (qtr, .inl (cZ, 36, .inl mt)), (qhv, .inl (cI, 36, .inl mv)), (qbe, .inl (cZ, 36, .inl mb)), (qlo, .inl (cI, 9, .inl ml)), (qhi, .inl (cI, 9, .inl mg)), (qpa, .inl (cI, 6, .inl mp)), (qne, .inl (cI, 6, .inl mx)), (qre, .inl (cI, 6, .inl mr))] [(cI, .int), (cZ, .boolean)])) (QcRead (mJoin mh u v)) 0 0 (fun _ => False) := by
  refine Met.ofW (cc := b_M_joined) (maxL := 3) (ret := (some .boolean)) (by decide) rfl ?_
  intro p e s m args below meth c s₁ B hml hv
  obtain ⟨rfl, hP, hK, hN⟩ := hv
  have hx := B.exec
  have hb := B.bytes
  have hr := B.returns
  have hts := atoms_spec (ws := w_M_joined) B.pre
  have hT : ∀ w ∈ vzB, w.before ([.ref qo, .int u, .int v] : List Value).toArray s = true := fun w h => hts w (List.mem_cons_of_mem _ h)
  have hown : s.vm.findClass "ArrowClassesModel" = some m.cls := findClass_of_methodNamed B.named
  have hlocks := B.notSynchronized
  have hl := lv_entry ([.ref qo, .int u, .int v]) (n := 3) (Nat.le_of_ble_eq_true rfl)
  rw [lg_entry_eq]
  generalize (lg_sl ([.ref qo, .int u, .int v]) ++ List.replicate (3 - (lg_sl ([.ref qo, .int u, .int v])).length) Slot.unset).toArray = ls at hl ⊢
  have hl : lv_has ls 3 [(0, .ref qo), (1, .int u), (2, .int v)] := hl
  refine lv_aload_n hx hb d_M_joined_0 rfl (lv_at hl 0 rfl) ?_
  refine va_get (D := (dC, dI)) (ci := 3) (v := .ref qha) (C := "ArrowClassesModel") (T := TM) (N := 13) hx hb hT inM hown hK hP 0 rfl rfl 1 (by decide) (hT _ wd_fld_M_7) (fun _ h9 => h9) rfl d_M_joined_1 ?_
  refine lv_bipush (v := 6) hx hb d_M_joined_4 (by decide) ?_
  refine lv_iload_n hx hb d_M_joined_6 rfl (lv_at hl 1 rfl) ?_
  refine lv_imul hx hb d_M_joined_7 ?_
  refine lv_iload_n hx hb d_M_joined_8 rfl (lv_at hl 2 rfl) ?_
  refine lv_iadd hx hb d_M_joined_9 ?_
  refine va_zald (D := (dC, dI)) hx hb hK hP 1 1 rfl rfl (vz_ix hn (by assumption) (by assumption)) d_M_joined_10 ?_
  refine lv_if_ne (tgt := 28) hx hb d_M_joined_11 (by decide) (fun h1 => ?_) (fun h1 => ?_)
  ·
    refine lv_iconst (v := 1) hx hb d_M_joined_28 (by decide) ?_
    refine lv_goto (tgt := 33) hx hb d_M_joined_29 (by decide) ?_
    exact W.zret hx hb hr (by decide) (fun t ht hW => ⟨by rw [show (mJoin mh u v) = (1 : Int32) from (by rw [mJoin, if_neg h1])], ht⟩) (fun q h => absurd h List.not_mem_nil) d_M_joined_33
  ·
    refine lv_aload_n hx hb d_M_joined_14 rfl (lv_at hl 0 rfl) ?_
    refine va_get (D := (dC, dI)) (ci := 3) (v := .ref qha) (C := "ArrowClassesModel") (T := TM) (N := 13) hx hb hT inM hown hK hP 0 rfl rfl 1 (by decide) (hT _ wd_fld_M_7) (fun _ h9 => h9) rfl d_M_joined_15 ?_
    refine lv_bipush (v := 6) hx hb d_M_joined_18 (by decide) ?_
    refine lv_iload_n hx hb d_M_joined_20 rfl (lv_at hl 2 rfl) ?_
    refine lv_imul hx hb d_M_joined_21 ?_
    refine lv_iload_n hx hb d_M_joined_22 rfl (lv_at hl 1 rfl) ?_
    refine lv_iadd hx hb d_M_joined_23 ?_
    refine va_zald (D := (dC, dI)) hx hb hK hP 1 1 rfl rfl (vz_ix hn (by assumption) (by assumption)) d_M_joined_24 ?_
    refine lv_if_eq (tgt := 32) hx hb d_M_joined_25 (by decide) (fun h2 => ?_) (fun h2 => ?_)
    ·
      refine lv_iconst (v := 0) hx hb d_M_joined_32 (by decide) ?_
      exact W.zret hx hb hr (by decide) (fun t ht hW => ⟨by rw [show (mJoin mh u v) = (0 : Int32) from (by rw [mJoin, if_pos h1, if_pos h2])], ht⟩) (fun q h => absurd h List.not_mem_nil) d_M_joined_33
    ·
      refine lv_iconst (v := 1) hx hb d_M_joined_28 (by decide) ?_
      refine lv_goto (tgt := 33) hx hb d_M_joined_29 (by decide) ?_
      exact W.zret hx hb hr (by decide) (fun t ht hW => ⟨by rw [show (mJoin mh u v) = (1 : Int32) from (by rw [mJoin, if_pos h1, if_neg h2])], ht⟩) (fun q h => absurd h List.not_mem_nil) d_M_joined_33
set_option maxRecDepth 100000 in
set_option maxHeartbeats 4000000 in
theorem c_M_arrows (l : Launch) (dC : Nat → ClassId) (dI : Nat → Nat → Nat) (cI cZ : ClassId) (qo qha qkn qtr qhv qbe qlo qhi qpa qne qre : Nat) (n : Nat) (mk : Nat → Int32) (mt : Nat → Int32) (mv : Nat → Int32) (mb : Nat → Int32) (ml : Nat → Int32) (mg : Nat → Int32) (mp : Nat → Int32) (mx : Nat → Int32) (mr : Nat → Int32) (mc : Int32) (Q : Nat) (mh : Nat → Int32) : Met l y_M_arrows w_M_arrows rm_M_arrows (va_Pc [.ref qo] (vz_B (dC, dI) vwCl [(qo, .inr (3, [.int (nI n), .ref qha, .ref qkn, .ref qtr, .int mc, .ref qhv, .ref qbe, .int (nI Q), .ref qlo, .ref qhi, .ref qpa, .ref qne, .ref qre])), (qha, .inl (cZ, 36, .inl mh)), (qkn, .inl (cZ, 36, .inl mk)), (qtr, .inl (cZ, 36, .inl mt)), (qhv, .inl (cI, 36, .inl mv)), (qbe, .inl (cZ, 36, .inl mb)), (qlo, .inl (cI, 9, .inl ml)), (qhi, .inl (cI, 9, .inl mg)), (qpa, .inl (cI, 6, .inl mp)), (qne, .inl (cI, 6, .inl mx)), (qre, .inl (cI, 6, .inl mr))] [(cI, .int), (cZ, .boolean)])) (QcRead (mArrows mh)) 0 0 (fun _ => False) := by
  refine Met.ofW (cc := b_M_arrows) (maxL := 3) (ret := (some .int)) (by decide) rfl ?_
  intro p e s m args below meth c s₁ B hml hv
  obtain ⟨rfl, hP, hK, hN⟩ := hv
  have hx := B.exec
  have hb := B.bytes
  have hr := B.returns
  have hts := atoms_spec (ws := w_M_arrows) B.pre
  have hT : ∀ w ∈ vzB, w.before ([.ref qo] : List Value).toArray s = true := fun w h => hts w (List.mem_cons_of_mem _ h)
  have hown : s.vm.findClass "ArrowClassesModel" = some m.cls := findClass_of_methodNamed B.named
  have hlocks := B.notSynchronized
  have hl := lv_entry ([.ref qo]) (n := 3) (Nat.le_of_ble_eq_true rfl)
  rw [lg_entry_eq]
  generalize (lg_sl ([.ref qo]) ++ List.replicate (3 - (lg_sl ([.ref qo])).length) Slot.unset).toArray = ls at hl ⊢
  have hl : lv_has ls 3 [(0, .ref qo)] := hl
  refine lv_iconst (v := 0) hx hb d_M_arrows_0 (by decide) ?_
  refine lv_istore_n hx hb d_M_arrows_1 rfl hl (by decide) rfl (fun ls hl => ?_)
  have hl : lv_has ls 3 [(1, .int 0), (0, .ref qo)] := hl
  refine lv_iconst (v := 0) hx hb d_M_arrows_2 (by decide) ?_
  refine vz_top (y := nI 0) (by decide) ?_
  refine lv_istore_n hx hb d_M_arrows_3 rfl hl (by decide) rfl (fun ls hl => ?_)
  have hl : lv_has ls 3 [(2, .int (nI 0)), (1, .int 0), (0, .ref qo)] := hl
  have lp_4 : ∀ (k_4 i_4 : Nat) (c_4 : Int32) (ls : Array Slot), i_4 + k_4 = 36 → mArrows_L4 mh k_4 i_4 c_4 = (mArrows mh) → lv_has ls 3 [(2, .int (nI i_4)), (1, .int c_4), (0, .ref qo)] → W p l e (headSpec w_M_arrows rm_M_arrows).room s m ([.ref qo] : List Value).toArray below meth c s.heap [] 0 0 (MQ below (QcRead (mArrows mh)) ([.ref qo] : List Value).toArray s 0 0 (fun _ => False)) (F0 m 4 ls []) := by
    intro k_4
    induction k_4 with
    | zero =>
      intro i_4 c_4 ls hik_4 hfin_4 hl
      refine lv_iload_n hx hb d_M_arrows_4 rfl (lv_at hl 0 rfl) ?_
      refine lv_bipush (v := 36) hx hb d_M_arrows_5 (by decide) ?_
      refine vz_top (y := nI 36) (by decide) ?_
      refine lv_icmp_ge (tgt := 33) hx hb d_M_arrows_7 (by decide) (fun _ => ?_) (fun h1 => by rw [nI_leI (by omega) (by omega)] at h1; omega)
      refine lv_iload_n hx hb d_M_arrows_33 rfl (lv_at hl 1 rfl) ?_
      exact W.iret hx hb hr (fun t ht hW => ⟨by rw [show (mArrows mh) = c_4 from (hfin_4.symm.trans (by rw [mArrows_L4]))], ht⟩) (fun q h => absurd h List.not_mem_nil) d_M_arrows_34
    | succ k_4 ih_4 =>
      intro i_4 c_4 ls hik_4 hfin_4 hl
      refine lv_iload_n hx hb d_M_arrows_4 rfl (lv_at hl 0 rfl) ?_
      refine lv_bipush (v := 36) hx hb d_M_arrows_5 (by decide) ?_
      refine vz_top (y := nI 36) (by decide) ?_
      refine lv_icmp_ge (tgt := 33) hx hb d_M_arrows_7 (by decide) (fun h2 => by rw [nI_leI (by omega) (by omega)] at h2; omega) (fun _ => ?_)
      refine lv_aload_n hx hb d_M_arrows_10 rfl (lv_at hl 2 rfl) ?_
      refine va_get (D := (dC, dI)) (ci := 3) (v := .ref qha) (C := "ArrowClassesModel") (T := TM) (N := 13) hx hb hT inM hown hK hP 0 rfl rfl 1 (by decide) (hT _ wd_fld_M_7) (fun _ h9 => h9) rfl d_M_arrows_11 ?_
      refine lv_iload_n hx hb d_M_arrows_14 rfl (lv_at hl 0 rfl) ?_
      refine va_zald (D := (dC, dI)) hx hb hK hP 1 1 rfl rfl (vp_in_nI (by omega) (by omega)) d_M_arrows_15 ?_
      refine lv_if_eq (tgt := 25) hx hb d_M_arrows_16 (by decide) (fun h3 => ?_) (fun h3 => ?_)
      ·
        refine lv_iload_n hx hb d_M_arrows_25 rfl (lv_at hl 1 rfl) ?_
        refine lv_istore_n hx hb d_M_arrows_26 rfl hl (by decide) rfl (fun ls hl => ?_)
        have hl : lv_has ls 3 [(1, .int c_4), (2, .int (nI i_4)), (0, .ref qo)] := hl
        refine lv_iinc (k := 1) (v := nI (i_4 + 1)) hx hb d_M_arrows_27 hl rfl (vz_inc i_4) (by decide) rfl (fun ls hl => ?_)
        have hl : lv_has ls 3 [(2, .int (nI (i_4 + 1))), (1, .int c_4), (0, .ref qo)] := hl
        refine lv_goto (tgt := 4) hx hb d_M_arrows_30 (by decide) ?_
        exact ih_4 (i_4 + 1) c_4 ls (by omega) (by rw [mArrows_L4, if_pos h3] at hfin_4; exact hfin_4) (lv_sub hl [0, 1, 2] rfl)
      ·
        refine lv_iload_n hx hb d_M_arrows_19 rfl (lv_at hl 1 rfl) ?_
        refine lv_iconst (v := 1) hx hb d_M_arrows_20 (by decide) ?_
        refine lv_iadd hx hb d_M_arrows_21 ?_
        refine lv_goto (tgt := 26) hx hb d_M_arrows_22 (by decide) ?_
        refine lv_istore_n hx hb d_M_arrows_26 rfl hl (by decide) rfl (fun ls hl => ?_)
        have hl : lv_has ls 3 [(1, .int (c_4 + 1)), (2, .int (nI i_4)), (0, .ref qo)] := hl
        refine lv_iinc (k := 1) (v := nI (i_4 + 1)) hx hb d_M_arrows_27 hl rfl (vz_inc i_4) (by decide) rfl (fun ls hl => ?_)
        have hl : lv_has ls 3 [(2, .int (nI (i_4 + 1))), (1, .int (c_4 + 1)), (0, .ref qo)] := hl
        refine lv_goto (tgt := 4) hx hb d_M_arrows_30 (by decide) ?_
        exact ih_4 (i_4 + 1) (c_4 + 1) ls (by omega) (by rw [mArrows_L4, if_neg h3] at hfin_4; exact hfin_4) (lv_sub hl [0, 1, 2] rfl)
  exact lp_4 36 0 0 _ (by omega) (by rw [mArrows]) (lv_sub hl [0, 1, 2] rfl)
set_option maxRecDepth 100000 in
set_option maxHeartbeats 4000000 in
theorem c_M_forgetAll (l : Launch) (dC : Nat → ClassId) (dI : Nat → Nat → Nat) (cI cZ : ClassId) (qo qha qkn qtr qhv qbe qlo qhi qpa qne qre : Nat) (n : Nat) (mh : Nat → Int32) (mt : Nat → Int32) (mv : Nat → Int32) (mb : Nat → Int32) (ml : Nat → Int32) (mg : Nat → Int32) (mp : Nat → Int32) (mx : Nat → Int32) (mr : Nat → Int32) (mc : Int32) (Q : Nat) (mk : Nat → Int32) (sz : Nat) : Met l y_M_forgetAll w_M_forgetAll rm_M_forgetAll (va_Pc [.ref qo] (vz_Bw (dC, dI) vwCl [(qo, .inr (3, [.int (nI n), .ref qha, .ref qkn, .ref qtr, .int mc, .ref qhv, .ref qbe, .int (nI Q), .ref qlo, .ref qhi, .ref qpa, .ref qne, .ref qre])), (qha, .inl (cZ, 36, .inl mh)), (qkn, .inl (cZ, 36, .inl mk)), (qtr, .inl (cZ, 36, .inl mt)), (qhv, .inl (cI, 36, .inl mv)), (qbe, .inl (cZ, 36, .inl mb)), (qlo, .inl (cI, 9, .inl ml)), (qhi, .inl (cI, 9, .inl mg)), (qpa, .inl (cI, 6, .inl mp)), (qne, .inl (cI, 6, .inl mx)), (qre, .inl (cI, 6, .inl mr))] [(cI, .int), (cZ, .boolean)] sz)) (va_Qv (fun _ : Unit => True) (fun (_ : Unit) t => va_P (dC, dI) vwCl [(qo, .inr (3, [.int (nI n), .ref qha, .ref qkn, .ref qtr, .int mc, .ref qhv, .ref qbe, .int (nI Q), .ref qlo, .ref qhi, .ref qpa, .ref qne, .ref qre])), (qha, .inl (cZ, 36, .inl mh)), (qkn, .inl (cZ, 36, .inl (mForgetAll mk))), (qtr, .inl (cZ, 36, .inl mt)), (qhv, .inl (cI, 36, .inl mv)), (qbe, .inl (cZ, 36, .inl mb)), (qlo, .inl (cI, 9, .inl ml)), (qhi, .inl (cI, 9, .inl mg)), (qpa, .inl (cI, 6, .inl mp)), (qne, .inl (cI, 6, .inl mx)), (qre, .inl (cI, 6, .inl mr))] t.heap ∧ va_K (dC, dI) vwCl [(cI, .int), (cZ, .boolean)] t ∧ va_D (va_A [(qo, .inr (3, [.int (nI n), .ref qha, .ref qkn, .ref qtr, .int mc, .ref qhv, .ref qbe, .int (nI Q), .ref qlo, .ref qhi, .ref qpa, .ref qne, .ref qre])), (qha, .inl (cZ, 36, .inl mh)), (qkn, .inl (cZ, 36, .inl mk)), (qtr, .inl (cZ, 36, .inl mt)), (qhv, .inl (cI, 36, .inl mv)), (qbe, .inl (cZ, 36, .inl mb)), (qlo, .inl (cI, 9, .inl ml)), (qhi, .inl (cI, 9, .inl mg)), (qpa, .inl (cI, 6, .inl mp)), (qne, .inl (cI, 6, .inl mx)), (qre, .inl (cI, 6, .inl mr))] sz) [(qo, .inr (3, [.int (nI n), .ref qha, .ref qkn, .ref qtr, .int mc, .ref qhv, .ref qbe, .int (nI Q), .ref qlo, .ref qhi, .ref qpa, .ref qne, .ref qre])), (qha, .inl (cZ, 36, .inl mh)), (qkn, .inl (cZ, 36, .inl (mForgetAll mk))), (qtr, .inl (cZ, 36, .inl mt)), (qhv, .inl (cI, 36, .inl mv)), (qbe, .inl (cZ, 36, .inl mb)), (qlo, .inl (cI, 9, .inl ml)), (qhi, .inl (cI, 9, .inl mg)), (qpa, .inl (cI, 6, .inl mp)), (qne, .inl (cI, 6, .inl mx)), (qre, .inl (cI, 6, .inl mr))]) (va_A [(qo, .inr (3, [.int (nI n), .ref qha, .ref qkn, .ref qtr, .int mc, .ref qhv, .ref qbe, .int (nI Q), .ref qlo, .ref qhi, .ref qpa, .ref qne, .ref qre])), (qha, .inl (cZ, 36, .inl mh)), (qkn, .inl (cZ, 36, .inl mk)), (qtr, .inl (cZ, 36, .inl mt)), (qhv, .inl (cI, 36, .inl mv)), (qbe, .inl (cZ, 36, .inl mb)), (qlo, .inl (cI, 9, .inl ml)), (qhi, .inl (cI, 9, .inl mg)), (qpa, .inl (cI, 6, .inl mp)), (qne, .inl (cI, 6, .inl mx)), (qre, .inl (cI, 6, .inl mr))] sz)) 0 0 (va_A [(qo, .inr (3, [.int (nI n), .ref qha, .ref qkn, .ref qtr, .int mc, .ref qhv, .ref qbe, .int (nI Q), .ref qlo, .ref qhi, .ref qpa, .ref qne, .ref qre])), (qha, .inl (cZ, 36, .inl mh)), (qkn, .inl (cZ, 36, .inl mk)), (qtr, .inl (cZ, 36, .inl mt)), (qhv, .inl (cI, 36, .inl mv)), (qbe, .inl (cZ, 36, .inl mb)), (qlo, .inl (cI, 9, .inl ml)), (qhi, .inl (cI, 9, .inl mg)), (qpa, .inl (cI, 6, .inl mp)), (qne, .inl (cI, 6, .inl mx)), (qre, .inl (cI, 6, .inl mr))] sz) := by
  refine Met.ofW (cc := b_M_forgetAll) (maxL := 2) (ret := none) (by decide) rfl ?_
  intro p e s m args below meth c s₁ B hml hv
  obtain ⟨rfl, hsz, hP, hK, hD0, hN⟩ := hv
  have hx := B.exec
  have hb := B.bytes
  have hr := B.returns
  have hts := atoms_spec (ws := w_M_forgetAll) B.pre
  have hT : ∀ w ∈ vzB, w.before ([.ref qo] : List Value).toArray s = true := fun w h => hts w (List.mem_cons_of_mem _ h)
  have hown : s.vm.findClass "ArrowClassesModel" = some m.cls := findClass_of_methodNamed B.named
  have hlocks := B.notSynchronized
  subst hsz
  have hD := hD0.self (sz := s.heap.size)
  have hA : ∀ q : Nat, s.heap.size ≤ q → va_A [(qo, .inr (3, [.int (nI n), .ref qha, .ref qkn, .ref qtr, .int mc, .ref qhv, .ref qbe, .int (nI Q), .ref qlo, .ref qhi, .ref qpa, .ref qne, .ref qre])), (qha, .inl (cZ, 36, .inl mh)), (qkn, .inl (cZ, 36, .inl mk)), (qtr, .inl (cZ, 36, .inl mt)), (qhv, .inl (cI, 36, .inl mv)), (qbe, .inl (cZ, 36, .inl mb)), (qlo, .inl (cI, 9, .inl ml)), (qhi, .inl (cI, 9, .inl mg)), (qpa, .inl (cI, 6, .inl mp)), (qne, .inl (cI, 6, .inl mx)), (qre, .inl (cI, 6, .inl mr))] s.heap.size q := fun q h => Or.inr h
  have hS : va_S (va_A [(qo, .inr (3, [.int (nI n), .ref qha, .ref qkn, .ref qtr, .int mc, .ref qhv, .ref qbe, .int (nI Q), .ref qlo, .ref qhi, .ref qpa, .ref qne, .ref qre])), (qha, .inl (cZ, 36, .inl mh)), (qkn, .inl (cZ, 36, .inl mk)), (qtr, .inl (cZ, 36, .inl mt)), (qhv, .inl (cI, 36, .inl mv)), (qbe, .inl (cZ, 36, .inl mb)), (qlo, .inl (cI, 9, .inl ml)), (qhi, .inl (cI, 9, .inl mg)), (qpa, .inl (cI, 6, .inl mp)), (qne, .inl (cI, 6, .inl mx)), (qre, .inl (cI, 6, .inl mr))] s.heap.size) s.heap s.heap [] := va_S.rf
  have hl := lv_entry ([.ref qo]) (n := 2) (Nat.le_of_ble_eq_true rfl)
  rw [lg_entry_eq]
  generalize (lg_sl ([.ref qo]) ++ List.replicate (2 - (lg_sl ([.ref qo])).length) Slot.unset).toArray = ls at hl ⊢
  have hl : lv_has ls 2 [(0, .ref qo)] := hl
  refine lv_iconst (v := 0) hx hb d_M_forgetAll_0 (by decide) ?_
  refine vz_top (y := nI 0) (by decide) ?_
  refine lv_istore_n hx hb d_M_forgetAll_1 rfl hl (by decide) rfl (fun ls hl => ?_)
  have hl : lv_has ls 2 [(1, .int (nI 0)), (0, .ref qo)] := hl
  have lp_2 : ∀ (k_2 i_2 : Nat) (mk_2 : Nat → Int32) (H : Heap) (locs : List Loc) (ls : Array Slot), i_2 + k_2 = 36 → mForgetAll_L2 mk k_2 i_2 mk_2 = (mForgetAll mk) → va_P (dC, dI) vwCl [(qo, .inr (3, [.int (nI n), .ref qha, .ref qkn, .ref qtr, .int mc, .ref qhv, .ref qbe, .int (nI Q), .ref qlo, .ref qhi, .ref qpa, .ref qne, .ref qre])), (qha, .inl (cZ, 36, .inl mh)), (qkn, .inl (cZ, 36, .inl mk_2)), (qtr, .inl (cZ, 36, .inl mt)), (qhv, .inl (cI, 36, .inl mv)), (qbe, .inl (cZ, 36, .inl mb)), (qlo, .inl (cI, 9, .inl ml)), (qhi, .inl (cI, 9, .inl mg)), (qpa, .inl (cI, 6, .inl mp)), (qne, .inl (cI, 6, .inl mx)), (qre, .inl (cI, 6, .inl mr))] H → va_D (va_A [(qo, .inr (3, [.int (nI n), .ref qha, .ref qkn, .ref qtr, .int mc, .ref qhv, .ref qbe, .int (nI Q), .ref qlo, .ref qhi, .ref qpa, .ref qne, .ref qre])), (qha, .inl (cZ, 36, .inl mh)), (qkn, .inl (cZ, 36, .inl mk)), (qtr, .inl (cZ, 36, .inl mt)), (qhv, .inl (cI, 36, .inl mv)), (qbe, .inl (cZ, 36, .inl mb)), (qlo, .inl (cI, 9, .inl ml)), (qhi, .inl (cI, 9, .inl mg)), (qpa, .inl (cI, 6, .inl mp)), (qne, .inl (cI, 6, .inl mx)), (qre, .inl (cI, 6, .inl mr))] s.heap.size) [(qo, .inr (3, [.int (nI n), .ref qha, .ref qkn, .ref qtr, .int mc, .ref qhv, .ref qbe, .int (nI Q), .ref qlo, .ref qhi, .ref qpa, .ref qne, .ref qre])), (qha, .inl (cZ, 36, .inl mh)), (qkn, .inl (cZ, 36, .inl mk_2)), (qtr, .inl (cZ, 36, .inl mt)), (qhv, .inl (cI, 36, .inl mv)), (qbe, .inl (cZ, 36, .inl mb)), (qlo, .inl (cI, 9, .inl ml)), (qhi, .inl (cI, 9, .inl mg)), (qpa, .inl (cI, 6, .inl mp)), (qne, .inl (cI, 6, .inl mx)), (qre, .inl (cI, 6, .inl mr))] → va_S (va_A [(qo, .inr (3, [.int (nI n), .ref qha, .ref qkn, .ref qtr, .int mc, .ref qhv, .ref qbe, .int (nI Q), .ref qlo, .ref qhi, .ref qpa, .ref qne, .ref qre])), (qha, .inl (cZ, 36, .inl mh)), (qkn, .inl (cZ, 36, .inl mk)), (qtr, .inl (cZ, 36, .inl mt)), (qhv, .inl (cI, 36, .inl mv)), (qbe, .inl (cZ, 36, .inl mb)), (qlo, .inl (cI, 9, .inl ml)), (qhi, .inl (cI, 9, .inl mg)), (qpa, .inl (cI, 6, .inl mp)), (qne, .inl (cI, 6, .inl mx)), (qre, .inl (cI, 6, .inl mr))] s.heap.size) s.heap H locs → lv_has ls 2 [(1, .int (nI i_2)), (0, .ref qo)] → W p l e (headSpec w_M_forgetAll rm_M_forgetAll).room s m ([.ref qo] : List Value).toArray below meth c H locs 0 0 (MQ below (va_Qv (fun _ : Unit => True) (fun (_ : Unit) t => va_P (dC, dI) vwCl [(qo, .inr (3, [.int (nI n), .ref qha, .ref qkn, .ref qtr, .int mc, .ref qhv, .ref qbe, .int (nI Q), .ref qlo, .ref qhi, .ref qpa, .ref qne, .ref qre])), (qha, .inl (cZ, 36, .inl mh)), (qkn, .inl (cZ, 36, .inl (mForgetAll mk))), (qtr, .inl (cZ, 36, .inl mt)), (qhv, .inl (cI, 36, .inl mv)), (qbe, .inl (cZ, 36, .inl mb)), (qlo, .inl (cI, 9, .inl ml)), (qhi, .inl (cI, 9, .inl mg)), (qpa, .inl (cI, 6, .inl mp)), (qne, .inl (cI, 6, .inl mx)), (qre, .inl (cI, 6, .inl mr))] t.heap ∧ va_K (dC, dI) vwCl [(cI, .int), (cZ, .boolean)] t ∧ va_D (va_A [(qo, .inr (3, [.int (nI n), .ref qha, .ref qkn, .ref qtr, .int mc, .ref qhv, .ref qbe, .int (nI Q), .ref qlo, .ref qhi, .ref qpa, .ref qne, .ref qre])), (qha, .inl (cZ, 36, .inl mh)), (qkn, .inl (cZ, 36, .inl mk)), (qtr, .inl (cZ, 36, .inl mt)), (qhv, .inl (cI, 36, .inl mv)), (qbe, .inl (cZ, 36, .inl mb)), (qlo, .inl (cI, 9, .inl ml)), (qhi, .inl (cI, 9, .inl mg)), (qpa, .inl (cI, 6, .inl mp)), (qne, .inl (cI, 6, .inl mx)), (qre, .inl (cI, 6, .inl mr))] s.heap.size) [(qo, .inr (3, [.int (nI n), .ref qha, .ref qkn, .ref qtr, .int mc, .ref qhv, .ref qbe, .int (nI Q), .ref qlo, .ref qhi, .ref qpa, .ref qne, .ref qre])), (qha, .inl (cZ, 36, .inl mh)), (qkn, .inl (cZ, 36, .inl (mForgetAll mk))), (qtr, .inl (cZ, 36, .inl mt)), (qhv, .inl (cI, 36, .inl mv)), (qbe, .inl (cZ, 36, .inl mb)), (qlo, .inl (cI, 9, .inl ml)), (qhi, .inl (cI, 9, .inl mg)), (qpa, .inl (cI, 6, .inl mp)), (qne, .inl (cI, 6, .inl mx)), (qre, .inl (cI, 6, .inl mr))]) (va_A [(qo, .inr (3, [.int (nI n), .ref qha, .ref qkn, .ref qtr, .int mc, .ref qhv, .ref qbe, .int (nI Q), .ref qlo, .ref qhi, .ref qpa, .ref qne, .ref qre])), (qha, .inl (cZ, 36, .inl mh)), (qkn, .inl (cZ, 36, .inl mk)), (qtr, .inl (cZ, 36, .inl mt)), (qhv, .inl (cI, 36, .inl mv)), (qbe, .inl (cZ, 36, .inl mb)), (qlo, .inl (cI, 9, .inl ml)), (qhi, .inl (cI, 9, .inl mg)), (qpa, .inl (cI, 6, .inl mp)), (qne, .inl (cI, 6, .inl mx)), (qre, .inl (cI, 6, .inl mr))] s.heap.size)) ([.ref qo] : List Value).toArray s 0 0 (va_A [(qo, .inr (3, [.int (nI n), .ref qha, .ref qkn, .ref qtr, .int mc, .ref qhv, .ref qbe, .int (nI Q), .ref qlo, .ref qhi, .ref qpa, .ref qne, .ref qre])), (qha, .inl (cZ, 36, .inl mh)), (qkn, .inl (cZ, 36, .inl mk)), (qtr, .inl (cZ, 36, .inl mt)), (qhv, .inl (cI, 36, .inl mv)), (qbe, .inl (cZ, 36, .inl mb)), (qlo, .inl (cI, 9, .inl ml)), (qhi, .inl (cI, 9, .inl mg)), (qpa, .inl (cI, 6, .inl mp)), (qne, .inl (cI, 6, .inl mx)), (qre, .inl (cI, 6, .inl mr))] s.heap.size)) (F0 m 2 ls []) := by
    intro k_2
    induction k_2 with
    | zero =>
      intro i_2 mk_2 H locs ls hik_2 hfin_2 hP hD hS hl
      refine lv_iload_n hx hb d_M_forgetAll_2 rfl (lv_at hl 0 rfl) ?_
      refine lv_bipush (v := 36) hx hb d_M_forgetAll_3 (by decide) ?_
      refine vz_top (y := nI 36) (by decide) ?_
      refine lv_icmp_ge (tgt := 21) hx hb d_M_forgetAll_5 (by decide) (fun _ => ?_) (fun h1 => by rw [nI_leI (by omega) (by omega)] at h1; omega)
      have hF : (mForgetAll mk) = mk_2 := (hfin_2.symm.trans (by rw [mForgetAll_L2]))
      exact W.vret hx hb hr (fun t ht hW => ⟨⟨(), rfl, trivial, by rw [hF, ht]; exact hP, va_K.moved hW.alike hK, by rw [hF]; exact hD⟩, hS.F ht⟩) hS.2.2 d_M_forgetAll_21
    | succ k_2 ih_2 =>
      intro i_2 mk_2 H locs ls hik_2 hfin_2 hP hD hS hl
      refine lv_iload_n hx hb d_M_forgetAll_2 rfl (lv_at hl 0 rfl) ?_
      refine lv_bipush (v := 36) hx hb d_M_forgetAll_3 (by decide) ?_
      refine vz_top (y := nI 36) (by decide) ?_
      refine lv_icmp_ge (tgt := 21) hx hb d_M_forgetAll_5 (by decide) (fun h2 => by rw [nI_leI (by omega) (by omega)] at h2; omega) (fun _ => ?_)
      refine lv_aload_n hx hb d_M_forgetAll_8 rfl (lv_at hl 1 rfl) ?_
      refine va_get (D := (dC, dI)) (ci := 3) (v := .ref qkn) (C := "ArrowClassesModel") (T := TM) (N := 13) hx hb hT inM hown hK hP 0 rfl rfl 2 (by decide) (hT _ wd_fld_M_13) (fun _ h9 => h9) rfl d_M_forgetAll_9 ?_
      refine lv_iload_n hx hb d_M_forgetAll_12 rfl (lv_at hl 0 rfl) ?_
      refine lv_iconst (v := 0) hx hb d_M_forgetAll_13 (by decide) ?_
      refine va_zast (D := (dC, dI)) hx hb hK hP hD hS 2 1 rfl rfl (vp_in_nI (by omega) (by omega)) d_M_forgetAll_14 (fun H locs hP hD hS => ?_)
      have hP : va_P (dC, dI) vwCl [(qo, .inr (3, [.int (nI n), .ref qha, .ref qkn, .ref qtr, .int mc, .ref qhv, .ref qbe, .int (nI Q), .ref qlo, .ref qhi, .ref qpa, .ref qne, .ref qre])), (qha, .inl (cZ, 36, .inl mh)), (qkn, .inl (cZ, 36, .inl (upd mk_2 (nI i_2).toNatClampNeg (vp_nar .boolean 0)))), (qtr, .inl (cZ, 36, .inl mt)), (qhv, .inl (cI, 36, .inl mv)), (qbe, .inl (cZ, 36, .inl mb)), (qlo, .inl (cI, 9, .inl ml)), (qhi, .inl (cI, 9, .inl mg)), (qpa, .inl (cI, 6, .inl mp)), (qne, .inl (cI, 6, .inl mx)), (qre, .inl (cI, 6, .inl mr))] H := hP
      have hD : va_D (va_A [(qo, .inr (3, [.int (nI n), .ref qha, .ref qkn, .ref qtr, .int mc, .ref qhv, .ref qbe, .int (nI Q), .ref qlo, .ref qhi, .ref qpa, .ref qne, .ref qre])), (qha, .inl (cZ, 36, .inl mh)), (qkn, .inl (cZ, 36, .inl mk)), (qtr, .inl (cZ, 36, .inl mt)), (qhv, .inl (cI, 36, .inl mv)), (qbe, .inl (cZ, 36, .inl mb)), (qlo, .inl (cI, 9, .inl ml)), (qhi, .inl (cI, 9, .inl mg)), (qpa, .inl (cI, 6, .inl mp)), (qne, .inl (cI, 6, .inl mx)), (qre, .inl (cI, 6, .inl mr))] s.heap.size) [(qo, .inr (3, [.int (nI n), .ref qha, .ref qkn, .ref qtr, .int mc, .ref qhv, .ref qbe, .int (nI Q), .ref qlo, .ref qhi, .ref qpa, .ref qne, .ref qre])), (qha, .inl (cZ, 36, .inl mh)), (qkn, .inl (cZ, 36, .inl (upd mk_2 (nI i_2).toNatClampNeg (vp_nar .boolean 0)))), (qtr, .inl (cZ, 36, .inl mt)), (qhv, .inl (cI, 36, .inl mv)), (qbe, .inl (cZ, 36, .inl mb)), (qlo, .inl (cI, 9, .inl ml)), (qhi, .inl (cI, 9, .inl mg)), (qpa, .inl (cI, 6, .inl mp)), (qne, .inl (cI, 6, .inl mx)), (qre, .inl (cI, 6, .inl mr))] := hD
      refine lv_iinc (k := 0) (v := nI (i_2 + 1)) hx hb d_M_forgetAll_15 hl rfl (vz_inc i_2) (by decide) rfl (fun ls hl => ?_)
      have hl : lv_has ls 2 [(1, .int (nI (i_2 + 1))), (0, .ref qo)] := hl
      refine lv_goto (tgt := 2) hx hb d_M_forgetAll_18 (by decide) ?_
      exact ih_2 (i_2 + 1) (upd mk_2 (nI i_2).toNatClampNeg (vp_nar .boolean 0)) H locs ls (by omega) (by rw [mForgetAll_L2] at hfin_2; exact hfin_2) hP hD hS (lv_sub hl [0, 1] rfl)
  exact lp_2 36 0 mk _ _ _ (by omega) (by rw [mForgetAll]) hP hD hS (lv_sub hl [0, 1] rfl)
set_option maxRecDepth 100000 in
set_option maxHeartbeats 4000000 in
theorem c_M_reach (l : Launch) (dC : Nat → ClassId) (dI : Nat → Nat → Nat) (cI cZ : ClassId) (qo qha qkn qtr qhv qbe qlo qhi qpa qne qre : Nat) (mk : Nat → Int32) (mt : Nat → Int32) (mv : Nat → Int32) (mb : Nat → Int32) (ml : Nat → Int32) (mg : Nat → Int32) (mp : Nat → Int32) (mx : Nat → Int32) (mr : Nat → Int32) (mc : Int32) (Q : Nat) (n : Nat) (mh : Nat → Int32) (u : Int32) (hn : n ≤ 6) : Met l y_M_reach w_M_reach rm_M_reach (va_Pc [.ref qo, .int u] (vz_B (dC, dI) vwCl [(qo, .inr (3, [.int (nI n), .ref qha, .ref qkn, .ref qtr, .int mc, .ref qhv, .ref qbe, .int (nI Q), .ref qlo, .ref qhi, .ref qpa, .ref qne, .ref qre])), (qha, .inl (cZ, 36, .inl mh)), (qkn, .inl (cZ, 36, .inl mk)), (qtr, .inl (cZ, 36, .inl mt)), (qhv, .inl (cI, 36, .inl mv)), (qbe, .inl (cZ, 36, .inl mb)), (qlo, .inl (cI, 9, .inl ml)), (qhi, .inl (cI, 9, .inl mg)), (qpa, .inl (cI, 6, .inl mp)), (qne, .inl (cI, 6, .inl mx)), (qre, .inl (cI, 6, .inl mr))] [(cI, .int), (cZ, .boolean)])) (QcRead (mReach n mh u)) 0 0 (fun _ => False) := by
  refine Met.ofW (cc := b_M_reach) (maxL := 6) (ret := (some .int)) (by decide) rfl ?_
  intro p e s m args below meth c s₁ B hml hv
  obtain ⟨rfl, hP, hK, hN⟩ := hv
  have hx := B.exec
  have hb := B.bytes
  have hr := B.returns
  have hts := atoms_spec (ws := w_M_reach) B.pre
  have hT : ∀ w ∈ vzB, w.before ([.ref qo, .int u] : List Value).toArray s = true := fun w h => hts w (List.mem_cons_of_mem _ h)
  have hown : s.vm.findClass "ArrowClassesModel" = some m.cls := findClass_of_methodNamed B.named
  have hlocks := B.notSynchronized
  have hl := lv_entry ([.ref qo, .int u]) (n := 6) (Nat.le_of_ble_eq_true rfl)
  rw [lg_entry_eq]
  generalize (lg_sl ([.ref qo, .int u]) ++ List.replicate (6 - (lg_sl ([.ref qo, .int u])).length) Slot.unset).toArray = ls at hl ⊢
  have hl : lv_has ls 6 [(0, .ref qo), (1, .int u)] := hl
  refine lv_iconst (v := 1) hx hb d_M_reach_0 (by decide) ?_
  refine lv_iload_n hx hb d_M_reach_1 rfl (lv_at hl 1 rfl) ?_
  refine lv_ishl hx hb d_M_reach_2 ?_
  refine lv_istore_n hx hb d_M_reach_3 rfl hl (by decide) rfl (fun ls hl => ?_)
  have hl : lv_has ls 6 [(2, .int (1 <<< (u &&& 31))), (0, .ref qo), (1, .int u)] := hl
  refine lv_iconst (v := 0) hx hb d_M_reach_4 (by decide) ?_
  refine vz_top (y := nI 0) (by decide) ?_
  refine lv_istore_n hx hb d_M_reach_5 rfl hl (by decide) rfl (fun ls hl => ?_)
  have hl : lv_has ls 6 [(3, .int (nI 0)), (2, .int (1 <<< (u &&& 31))), (0, .ref qo), (1, .int u)] := hl
  have lp_6 : ∀ (k_6 i_6 : Nat) (st_6 : Int32) (ls : Array Slot), i_6 + k_6 = 6 → mReach_L6 n mh u k_6 i_6 st_6 = (mReach n mh u) → lv_has ls 6 [(3, .int (nI i_6)), (2, .int st_6), (0, .ref qo), (1, .int u)] → W p l e (headSpec w_M_reach rm_M_reach).room s m ([.ref qo, .int u] : List Value).toArray below meth c s.heap [] 0 0 (MQ below (QcRead (mReach n mh u)) ([.ref qo, .int u] : List Value).toArray s 0 0 (fun _ => False)) (F0 m 6 ls []) := by
    intro k_6
    induction k_6 with
    | zero =>
      intro i_6 st_6 ls hik_6 hfin_6 hl
      refine lv_iload_n hx hb d_M_reach_6 rfl (lv_at hl 0 rfl) ?_
      refine lv_bipush (v := 6) hx hb d_M_reach_7 (by decide) ?_
      refine vz_top (y := nI 6) (by decide) ?_
      refine lv_icmp_ge (tgt := 91) hx hb d_M_reach_9 (by decide) (fun _ => ?_) (fun h1 => by rw [nI_leI (by omega) (by omega)] at h1; omega)
      refine lv_iload_n hx hb d_M_reach_91 rfl (lv_at hl 1 rfl) ?_
      exact W.iret hx hb hr (fun t ht hW => ⟨by rw [show (mReach n mh u) = st_6 from (hfin_6.symm.trans (by rw [mReach_L6]))], ht⟩) (fun q h => absurd h List.not_mem_nil) d_M_reach_92
    | succ k_6 ih_6 =>
      intro i_6 st_6 ls hik_6 hfin_6 hl
      refine lv_iload_n hx hb d_M_reach_6 rfl (lv_at hl 0 rfl) ?_
      refine lv_bipush (v := 6) hx hb d_M_reach_7 (by decide) ?_
      refine vz_top (y := nI 6) (by decide) ?_
      refine lv_icmp_ge (tgt := 91) hx hb d_M_reach_9 (by decide) (fun h2 => by rw [nI_leI (by omega) (by omega)] at h2; omega) (fun _ => ?_)
      refine lv_iconst (v := 0) hx hb d_M_reach_12 (by decide) ?_
      refine vz_top (y := nI 0) (by decide) ?_
      refine lv_istore hx hb d_M_reach_13 hl (by decide) rfl (fun ls hl => ?_)
      have hl : lv_has ls 6 [(4, .int (nI 0)), (3, .int (nI i_6)), (2, .int st_6), (0, .ref qo), (1, .int u)] := hl
      have lp_15 : ∀ (k_15 i_15 : Nat) (st_15 : Int32) (ls : Array Slot), i_15 + k_15 = n → mReach_L15 n mh u i_6 st_6 (fun w0 => mReach_L6 n mh u k_6 (i_6 + 1) w0) k_15 i_15 st_15 = (mReach n mh u) → lv_has ls 6 [(4, .int (nI i_15)), (3, .int (nI i_6)), (2, .int st_15), (0, .ref qo), (1, .int u)] → W p l e (headSpec w_M_reach rm_M_reach).room s m ([.ref qo, .int u] : List Value).toArray below meth c s.heap [] 0 0 (MQ below (QcRead (mReach n mh u)) ([.ref qo, .int u] : List Value).toArray s 0 0 (fun _ => False)) (F0 m 15 ls []) := by
        intro k_15
        induction k_15 with
        | zero =>
          intro i_15 st_15 ls hik_15 hfin_15 hl
          refine lv_iload hx hb d_M_reach_15 (lv_at hl 0 rfl) ?_
          refine lv_aload_n hx hb d_M_reach_17 rfl (lv_at hl 3 rfl) ?_
          refine va_get (D := (dC, dI)) (ci := 3) (v := .int (nI n)) (C := "ArrowClassesModel") (T := TM) (N := 13) hx hb hT inM hown hK hP 0 rfl rfl 0 (by decide) (hT _ wd_fld_M_41) (fun _ h9 => h9) rfl d_M_reach_18 ?_
          refine lv_icmp_ge (tgt := 85) hx hb d_M_reach_21 (by decide) (fun _ => ?_) (fun h3 => by rw [nI_leI (by omega) (by omega)] at h3; omega)
          refine lv_iinc (k := 1) (v := nI (i_6 + 1)) hx hb d_M_reach_85 hl rfl (vz_inc i_6) (by decide) rfl (fun ls hl => ?_)
          have hl : lv_has ls 6 [(3, .int (nI (i_6 + 1))), (4, .int (nI i_15)), (2, .int st_15), (0, .ref qo), (1, .int u)] := hl
          refine lv_goto (tgt := 6) hx hb d_M_reach_88 (by decide) ?_
          exact ih_6 (i_6 + 1) st_15 ls (by omega) (by rw [mReach_L15] at hfin_15; exact hfin_15) (lv_sub hl [0, 2, 3, 4] rfl)
        | succ k_15 ih_15 =>
          intro i_15 st_15 ls hik_15 hfin_15 hl
          refine lv_iload hx hb d_M_reach_15 (lv_at hl 0 rfl) ?_
          refine lv_aload_n hx hb d_M_reach_17 rfl (lv_at hl 3 rfl) ?_
          refine va_get (D := (dC, dI)) (ci := 3) (v := .int (nI n)) (C := "ArrowClassesModel") (T := TM) (N := 13) hx hb hT inM hown hK hP 0 rfl rfl 0 (by decide) (hT _ wd_fld_M_41) (fun _ h9 => h9) rfl d_M_reach_18 ?_
          refine lv_icmp_ge (tgt := 85) hx hb d_M_reach_21 (by decide) (fun h4 => by rw [nI_leI (by omega) (by omega)] at h4; omega) (fun _ => ?_)
          refine lv_iconst (v := 0) hx hb d_M_reach_24 (by decide) ?_
          refine vz_top (y := nI 0) (by decide) ?_
          refine lv_istore hx hb d_M_reach_25 hl (by decide) rfl (fun ls hl => ?_)
          have hl : lv_has ls 6 [(5, .int (nI 0)), (4, .int (nI i_15)), (3, .int (nI i_6)), (2, .int st_15), (0, .ref qo), (1, .int u)] := hl
          have lp_27 : ∀ (k_27 i_27 : Nat) (st_27 : Int32) (ls : Array Slot), i_27 + k_27 = n → mReach_L27 n mh u i_6 st_6 i_15 st_15 (fun w0 => mReach_L15 n mh u i_6 st_6 (fun w0 => mReach_L6 n mh u k_6 (i_6 + 1) w0) k_15 (i_15 + 1) w0) k_27 i_27 st_27 = (mReach n mh u) → lv_has ls 6 [(5, .int (nI i_27)), (4, .int (nI i_15)), (3, .int (nI i_6)), (2, .int st_27), (0, .ref qo), (1, .int u)] → W p l e (headSpec w_M_reach rm_M_reach).room s m ([.ref qo, .int u] : List Value).toArray below meth c s.heap [] 0 0 (MQ below (QcRead (mReach n mh u)) ([.ref qo, .int u] : List Value).toArray s 0 0 (fun _ => False)) (F0 m 27 ls []) := by
            intro k_27
            induction k_27 with
            | zero =>
              intro i_27 st_27 ls hik_27 hfin_27 hl
              refine lv_iload hx hb d_M_reach_27 (lv_at hl 0 rfl) ?_
              refine lv_aload_n hx hb d_M_reach_29 rfl (lv_at hl 4 rfl) ?_
              refine va_get (D := (dC, dI)) (ci := 3) (v := .int (nI n)) (C := "ArrowClassesModel") (T := TM) (N := 13) hx hb hT inM hown hK hP 0 rfl rfl 0 (by decide) (hT _ wd_fld_M_41) (fun _ h9 => h9) rfl d_M_reach_30 ?_
              refine lv_icmp_ge (tgt := 79) hx hb d_M_reach_33 (by decide) (fun _ => ?_) (fun h5 => by rw [nI_leI (by omega) (by omega)] at h5; omega)
              refine lv_iinc (k := 1) (v := nI (i_15 + 1)) hx hb d_M_reach_79 hl rfl (vz_inc i_15) (by decide) rfl (fun ls hl => ?_)
              have hl : lv_has ls 6 [(4, .int (nI (i_15 + 1))), (5, .int (nI i_27)), (3, .int (nI i_6)), (2, .int st_27), (0, .ref qo), (1, .int u)] := hl
              refine lv_goto (tgt := 15) hx hb d_M_reach_82 (by decide) ?_
              exact ih_15 (i_15 + 1) st_27 ls (by omega) (by rw [mReach_L27] at hfin_27; exact hfin_27) (lv_sub hl [0, 2, 3, 4, 5] rfl)
            | succ k_27 ih_27 =>
              intro i_27 st_27 ls hik_27 hfin_27 hl
              refine lv_iload hx hb d_M_reach_27 (lv_at hl 0 rfl) ?_
              refine lv_aload_n hx hb d_M_reach_29 rfl (lv_at hl 4 rfl) ?_
              refine va_get (D := (dC, dI)) (ci := 3) (v := .int (nI n)) (C := "ArrowClassesModel") (T := TM) (N := 13) hx hb hT inM hown hK hP 0 rfl rfl 0 (by decide) (hT _ wd_fld_M_41) (fun _ h9 => h9) rfl d_M_reach_30 ?_
              refine lv_icmp_ge (tgt := 79) hx hb d_M_reach_33 (by decide) (fun h6 => by rw [nI_leI (by omega) (by omega)] at h6; omega) (fun _ => ?_)
              refine lv_iload_n hx hb d_M_reach_36 rfl (lv_at hl 3 rfl) ?_
              refine lv_iload hx hb d_M_reach_37 (lv_at hl 1 rfl) ?_
              refine lv_ishr hx hb d_M_reach_39 ?_
              refine lv_iconst (v := 1) hx hb d_M_reach_40 (by decide) ?_
              refine lv_iand hx hb d_M_reach_41 ?_
              refine lv_iconst (v := 1) hx hb d_M_reach_42 (by decide) ?_
              refine lv_icmp_ne (tgt := 79) hx hb d_M_reach_43 (by decide) (fun h7 => ?_) (fun h7 => ?_)
              ·
                refine lv_iinc (k := 1) (v := nI (i_15 + 1)) hx hb d_M_reach_79 hl rfl (vz_inc i_15) (by decide) rfl (fun ls hl => ?_)
                have hl : lv_has ls 6 [(4, .int (nI (i_15 + 1))), (5, .int (nI i_27)), (3, .int (nI i_6)), (2, .int st_27), (0, .ref qo), (1, .int u)] := hl
                refine lv_goto (tgt := 15) hx hb d_M_reach_82 (by decide) ?_
                exact ih_15 (i_15 + 1) st_27 ls (by omega) (by rw [mReach_L27, if_neg h7] at hfin_27; exact hfin_27) (lv_sub hl [0, 2, 3, 4, 5] rfl)
              ·
                refine lv_aload_n hx hb d_M_reach_46 rfl (lv_at hl 4 rfl) ?_
                refine va_get (D := (dC, dI)) (ci := 3) (v := .ref qha) (C := "ArrowClassesModel") (T := TM) (N := 13) hx hb hT inM hown hK hP 0 rfl rfl 1 (by decide) (hT _ wd_fld_M_7) (fun _ h9 => h9) rfl d_M_reach_47 ?_
                refine lv_bipush (v := 6) hx hb d_M_reach_50 (by decide) ?_
                refine lv_iload hx hb d_M_reach_52 (lv_at hl 1 rfl) ?_
                refine lv_imul hx hb d_M_reach_54 ?_
                refine lv_iload hx hb d_M_reach_55 (lv_at hl 0 rfl) ?_
                refine lv_iadd hx hb d_M_reach_57 ?_
                refine va_zald (D := (dC, dI)) hx hb hK hP 1 1 rfl rfl (vz_ix hn (vp_in_nI (by omega) (by omega)) (vp_in_nI (by omega) (by omega))) d_M_reach_58 ?_
                refine lv_if_eq (tgt := 71) hx hb d_M_reach_59 (by decide) (fun h8 => ?_) (fun h8 => ?_)
                ·
                  refine lv_iload_n hx hb d_M_reach_71 rfl (lv_at hl 3 rfl) ?_
                  refine lv_istore_n hx hb d_M_reach_72 rfl hl (by decide) rfl (fun ls hl => ?_)
                  have hl : lv_has ls 6 [(2, .int st_27), (5, .int (nI i_27)), (4, .int (nI i_15)), (3, .int (nI i_6)), (0, .ref qo), (1, .int u)] := hl
                  refine lv_iinc (k := 1) (v := nI (i_27 + 1)) hx hb d_M_reach_73 hl rfl (vz_inc i_27) (by decide) rfl (fun ls hl => ?_)
                  have hl : lv_has ls 6 [(5, .int (nI (i_27 + 1))), (2, .int st_27), (4, .int (nI i_15)), (3, .int (nI i_6)), (0, .ref qo), (1, .int u)] := hl
                  refine lv_goto (tgt := 27) hx hb d_M_reach_76 (by decide) ?_
                  exact ih_27 (i_27 + 1) st_27 ls (by omega) (by rw [mReach_L27, if_pos h7, if_pos h8] at hfin_27; exact hfin_27) (lv_sub hl [0, 2, 3, 1, 4, 5] rfl)
                ·
                  refine lv_iload_n hx hb d_M_reach_62 rfl (lv_at hl 3 rfl) ?_
                  refine lv_iconst (v := 1) hx hb d_M_reach_63 (by decide) ?_
                  refine lv_iload hx hb d_M_reach_64 (lv_at hl 0 rfl) ?_
                  refine lv_ishl hx hb d_M_reach_66 ?_
                  refine lv_ior hx hb d_M_reach_67 ?_
                  refine lv_goto (tgt := 72) hx hb d_M_reach_68 (by decide) ?_
                  refine lv_istore_n hx hb d_M_reach_72 rfl hl (by decide) rfl (fun ls hl => ?_)
                  have hl : lv_has ls 6 [(2, .int (st_27 ||| (1 <<< ((nI i_27) &&& 31)))), (5, .int (nI i_27)), (4, .int (nI i_15)), (3, .int (nI i_6)), (0, .ref qo), (1, .int u)] := hl
                  refine lv_iinc (k := 1) (v := nI (i_27 + 1)) hx hb d_M_reach_73 hl rfl (vz_inc i_27) (by decide) rfl (fun ls hl => ?_)
                  have hl : lv_has ls 6 [(5, .int (nI (i_27 + 1))), (2, .int (st_27 ||| (1 <<< ((nI i_27) &&& 31)))), (4, .int (nI i_15)), (3, .int (nI i_6)), (0, .ref qo), (1, .int u)] := hl
                  refine lv_goto (tgt := 27) hx hb d_M_reach_76 (by decide) ?_
                  exact ih_27 (i_27 + 1) (st_27 ||| (1 <<< ((nI i_27) &&& 31))) ls (by omega) (by rw [mReach_L27, if_pos h7, if_neg h8] at hfin_27; exact hfin_27) (lv_sub hl [0, 2, 3, 1, 4, 5] rfl)
          exact lp_27 n 0 st_15 _ (by omega) (by rw [mReach_L15] at hfin_15; exact hfin_15) (lv_sub hl [0, 1, 2, 3, 4, 5] rfl)
      exact lp_15 n 0 st_6 _ (by omega) (by rw [mReach_L6] at hfin_6; exact hfin_6) (lv_sub hl [0, 1, 2, 3, 4] rfl)
  exact lp_6 6 0 (1 <<< (u &&& 31)) _ (by omega) (by rw [mReach]) (lv_sub hl [0, 1, 2, 3] rfl)
set_option maxRecDepth 100000 in
set_option maxHeartbeats 4000000 in
theorem c_M_arrow (l : Launch) (dC : Nat → ClassId) (dI : Nat → Nat → Nat) (cI cZ : ClassId) (qo qha qkn qtr qhv qbe qlo qhi qpa qne qre : Nat) (mt : Nat → Int32) (mv : Nat → Int32) (mb : Nat → Int32) (ml : Nat → Int32) (mg : Nat → Int32) (mp : Nat → Int32) (mx : Nat → Int32) (mr : Nat → Int32) (mc : Int32) (Q : Nat) (n : Nat) (mh : Nat → Int32) (mk : Nat → Int32) (u : Int32) (v : Int32) (hn : n ≤ 6) (sz : Nat) : Met l y_M_arrow w_M_arrow rm_M_arrow (va_Pc [.ref qo, .int u, .int v] (vz_Bw (dC, dI) vwCl [(qo, .inr (3, [.int (nI n), .ref qha, .ref qkn, .ref qtr, .int mc, .ref qhv, .ref qbe, .int (nI Q), .ref qlo, .ref qhi, .ref qpa, .ref qne, .ref qre])), (qha, .inl (cZ, 36, .inl mh)), (qkn, .inl (cZ, 36, .inl mk)), (qtr, .inl (cZ, 36, .inl mt)), (qhv, .inl (cI, 36, .inl mv)), (qbe, .inl (cZ, 36, .inl mb)), (qlo, .inl (cI, 9, .inl ml)), (qhi, .inl (cI, 9, .inl mg)), (qpa, .inl (cI, 6, .inl mp)), (qne, .inl (cI, 6, .inl mx)), (qre, .inl (cI, 6, .inl mr))] [(cI, .int), (cZ, .boolean)] sz)) (va_Qi (fun r (_ : Unit) => r = ((mArrow n mh mk u v).1)) (fun (_ : Unit) t => va_P (dC, dI) vwCl [(qo, .inr (3, [.int (nI n), .ref qha, .ref qkn, .ref qtr, .int mc, .ref qhv, .ref qbe, .int (nI Q), .ref qlo, .ref qhi, .ref qpa, .ref qne, .ref qre])), (qha, .inl (cZ, 36, .inl ((mArrow n mh mk u v).2.1))), (qkn, .inl (cZ, 36, .inl ((mArrow n mh mk u v).2.2))), (qtr, .inl (cZ, 36, .inl mt)), (qhv, .inl (cI, 36, .inl mv)), (qbe, .inl (cZ, 36, .inl mb)), (qlo, .inl (cI, 9, .inl ml)), (qhi, .inl (cI, 9, .inl mg)), (qpa, .inl (cI, 6, .inl mp)), (qne, .inl (cI, 6, .inl mx)), (qre, .inl (cI, 6, .inl mr))] t.heap ∧ va_K (dC, dI) vwCl [(cI, .int), (cZ, .boolean)] t ∧ va_D (va_A [(qo, .inr (3, [.int (nI n), .ref qha, .ref qkn, .ref qtr, .int mc, .ref qhv, .ref qbe, .int (nI Q), .ref qlo, .ref qhi, .ref qpa, .ref qne, .ref qre])), (qha, .inl (cZ, 36, .inl mh)), (qkn, .inl (cZ, 36, .inl mk)), (qtr, .inl (cZ, 36, .inl mt)), (qhv, .inl (cI, 36, .inl mv)), (qbe, .inl (cZ, 36, .inl mb)), (qlo, .inl (cI, 9, .inl ml)), (qhi, .inl (cI, 9, .inl mg)), (qpa, .inl (cI, 6, .inl mp)), (qne, .inl (cI, 6, .inl mx)), (qre, .inl (cI, 6, .inl mr))] sz) [(qo, .inr (3, [.int (nI n), .ref qha, .ref qkn, .ref qtr, .int mc, .ref qhv, .ref qbe, .int (nI Q), .ref qlo, .ref qhi, .ref qpa, .ref qne, .ref qre])), (qha, .inl (cZ, 36, .inl ((mArrow n mh mk u v).2.1))), (qkn, .inl (cZ, 36, .inl ((mArrow n mh mk u v).2.2))), (qtr, .inl (cZ, 36, .inl mt)), (qhv, .inl (cI, 36, .inl mv)), (qbe, .inl (cZ, 36, .inl mb)), (qlo, .inl (cI, 9, .inl ml)), (qhi, .inl (cI, 9, .inl mg)), (qpa, .inl (cI, 6, .inl mp)), (qne, .inl (cI, 6, .inl mx)), (qre, .inl (cI, 6, .inl mr))]) (va_A [(qo, .inr (3, [.int (nI n), .ref qha, .ref qkn, .ref qtr, .int mc, .ref qhv, .ref qbe, .int (nI Q), .ref qlo, .ref qhi, .ref qpa, .ref qne, .ref qre])), (qha, .inl (cZ, 36, .inl mh)), (qkn, .inl (cZ, 36, .inl mk)), (qtr, .inl (cZ, 36, .inl mt)), (qhv, .inl (cI, 36, .inl mv)), (qbe, .inl (cZ, 36, .inl mb)), (qlo, .inl (cI, 9, .inl ml)), (qhi, .inl (cI, 9, .inl mg)), (qpa, .inl (cI, 6, .inl mp)), (qne, .inl (cI, 6, .inl mx)), (qre, .inl (cI, 6, .inl mr))] sz)) 0 0 (va_A [(qo, .inr (3, [.int (nI n), .ref qha, .ref qkn, .ref qtr, .int mc, .ref qhv, .ref qbe, .int (nI Q), .ref qlo, .ref qhi, .ref qpa, .ref qne, .ref qre])), (qha, .inl (cZ, 36, .inl mh)), (qkn, .inl (cZ, 36, .inl mk)), (qtr, .inl (cZ, 36, .inl mt)), (qhv, .inl (cI, 36, .inl mv)), (qbe, .inl (cZ, 36, .inl mb)), (qlo, .inl (cI, 9, .inl ml)), (qhi, .inl (cI, 9, .inl mg)), (qpa, .inl (cI, 6, .inl mp)), (qne, .inl (cI, 6, .inl mx)), (qre, .inl (cI, 6, .inl mr))] sz) := by
  refine Met.ofW (cc := b_M_arrow) (maxL := 3) (ret := (some .boolean)) (by decide) rfl ?_
  intro p e s m args below meth c s₁ B hml hv
  obtain ⟨rfl, hsz, hP, hK, hD0, hN⟩ := hv
  have hx := B.exec
  have hb := B.bytes
  have hr := B.returns
  have hts := atoms_spec (ws := w_M_arrow) B.pre
  have hT : ∀ w ∈ vzB, w.before ([.ref qo, .int u, .int v] : List Value).toArray s = true := fun w h => hts w (List.mem_cons_of_mem _ h)
  have hown : s.vm.findClass "ArrowClassesModel" = some m.cls := findClass_of_methodNamed B.named
  have hlocks := B.notSynchronized
  subst hsz
  have hD := hD0.self (sz := s.heap.size)
  have hA : ∀ q : Nat, s.heap.size ≤ q → va_A [(qo, .inr (3, [.int (nI n), .ref qha, .ref qkn, .ref qtr, .int mc, .ref qhv, .ref qbe, .int (nI Q), .ref qlo, .ref qhi, .ref qpa, .ref qne, .ref qre])), (qha, .inl (cZ, 36, .inl mh)), (qkn, .inl (cZ, 36, .inl mk)), (qtr, .inl (cZ, 36, .inl mt)), (qhv, .inl (cI, 36, .inl mv)), (qbe, .inl (cZ, 36, .inl mb)), (qlo, .inl (cI, 9, .inl ml)), (qhi, .inl (cI, 9, .inl mg)), (qpa, .inl (cI, 6, .inl mp)), (qne, .inl (cI, 6, .inl mx)), (qre, .inl (cI, 6, .inl mr))] s.heap.size q := fun q h => Or.inr h
  have hS : va_S (va_A [(qo, .inr (3, [.int (nI n), .ref qha, .ref qkn, .ref qtr, .int mc, .ref qhv, .ref qbe, .int (nI Q), .ref qlo, .ref qhi, .ref qpa, .ref qne, .ref qre])), (qha, .inl (cZ, 36, .inl mh)), (qkn, .inl (cZ, 36, .inl mk)), (qtr, .inl (cZ, 36, .inl mt)), (qhv, .inl (cI, 36, .inl mv)), (qbe, .inl (cZ, 36, .inl mb)), (qlo, .inl (cI, 9, .inl ml)), (qhi, .inl (cI, 9, .inl mg)), (qpa, .inl (cI, 6, .inl mp)), (qne, .inl (cI, 6, .inl mx)), (qre, .inl (cI, 6, .inl mr))] s.heap.size) s.heap s.heap [] := va_S.rf
  have hl := lv_entry ([.ref qo, .int u, .int v]) (n := 3) (Nat.le_of_ble_eq_true rfl)
  rw [lg_entry_eq]
  generalize (lg_sl ([.ref qo, .int u, .int v]) ++ List.replicate (3 - (lg_sl ([.ref qo, .int u, .int v])).length) Slot.unset).toArray = ls at hl ⊢
  have hl : lv_has ls 3 [(0, .ref qo), (1, .int u), (2, .int v)] := hl
  refine lv_aload_n hx hb d_M_arrow_0 rfl (lv_at hl 0 rfl) ?_
  refine lv_iload_n hx hb d_M_arrow_1 rfl (lv_at hl 1 rfl) ?_
  refine lv_iload_n hx hb d_M_arrow_2 rfl (lv_at hl 2 rfl) ?_
  refine vz_ro (va_runV (As := [.int u, .int v]) (rest := []) ⟨hx, hb, hml, hown, hT⟩ (c_M_areNodes l dC dI cI cZ qo qha qkn qtr qhv qbe qlo qhi qpa qne qre mh mk mt mv mb ml mg mp mx mr mc Q n u v) (vz_cwV (n := 2) hT wd_link_M_49 wd_inst_M_areNodes wd_sel_M_areNodes wd_ini_M wd_code_M_areNodes (by decide +kernel) ⟨Nat.le_of_ble_eq_true rfl, Nat.le_of_ble_eq_true rfl⟩) (vz_pv (q0 := 0) (ci := 3) (q := ("ArrowClassesModel", TM, 13)) hN hK hP [0, 1, 2, 3, 4, 5, 6, 7, 8, 9, 10] rfl rfl rfl) rfl rfl hl.1 rfl (lv_room (Nat.le_of_ble_eq_true rfl)) d_M_arrow_3 ⟨Nat.zero_le _, Nat.zero_le _⟩) ?_
  refine lv_if_eq (tgt := 40) hx hb d_M_arrow_6 (by decide) (fun h1 => ?_) (fun h1 => ?_)
  ·
    refine lv_iconst (v := 0) hx hb d_M_arrow_40 (by decide) ?_
    have hF : (mArrow n mh mk u v) = (0, mh, mk) := (by rw [mArrow, if_pos h1])
    exact W.zret hx hb hr (by decide) (fun t ht hW => ⟨⟨(0 : Int32), (), rfl, by rw [hF], by rw [hF, ht]; exact hP, va_K.moved hW.alike hK, by rw [hF]; exact hD⟩, hS.F ht⟩) hS.2.2 d_M_arrow_41
  ·
    obtain ⟨hvu, hvv, huv⟩ := mPair_in hn h1
    refine lv_aload_n hx hb d_M_arrow_9 rfl (lv_at hl 0 rfl) ?_
    refine lv_iload_n hx hb d_M_arrow_10 rfl (lv_at hl 1 rfl) ?_
    refine lv_iload_n hx hb d_M_arrow_11 rfl (lv_at hl 2 rfl) ?_
    refine vz_ro (va_runV (As := [.int u, .int v]) (rest := []) ⟨hx, hb, hml, hown, hT⟩ (c_M_joined l dC dI cI cZ qo qha qkn qtr qhv qbe qlo qhi qpa qne qre n mk mt mv mb ml mg mp mx mr mc Q mh u v (by omega) (by assumption) (by assumption)) (vz_cwV (n := 2) hT wd_link_M_53 wd_inst_M_joined wd_sel_M_joined wd_ini_M wd_code_M_joined (by decide +kernel) ⟨Nat.le_of_ble_eq_true rfl, Nat.le_of_ble_eq_true rfl⟩) (vz_pv (q0 := 0) (ci := 3) (q := ("ArrowClassesModel", TM, 13)) hN hK hP [0, 1, 2, 3, 4, 5, 6, 7, 8, 9, 10] rfl rfl rfl) rfl rfl hl.1 rfl (lv_room (Nat.le_of_ble_eq_true rfl)) d_M_arrow_12 ⟨Nat.zero_le _, Nat.zero_le _⟩) ?_
    refine lv_if_ne (tgt := 40) hx hb d_M_arrow_15 (by decide) (fun h2 => ?_) (fun h2 => ?_)
    ·
      refine lv_iconst (v := 0) hx hb d_M_arrow_40 (by decide) ?_
      have hF : (mArrow n mh mk u v) = (0, mh, mk) := (by rw [mArrow, if_neg h1, if_neg h2])
      exact W.zret hx hb hr (by decide) (fun t ht hW => ⟨⟨(0 : Int32), (), rfl, by rw [hF], by rw [hF, ht]; exact hP, va_K.moved hW.alike hK, by rw [hF]; exact hD⟩, hS.F ht⟩) hS.2.2 d_M_arrow_41
    ·
      refine lv_aload_n hx hb d_M_arrow_18 rfl (lv_at hl 0 rfl) ?_
      refine vz_ro (va_runV (As := []) (rest := []) ⟨hx, hb, hml, hown, hT⟩ (c_M_arrows l dC dI cI cZ qo qha qkn qtr qhv qbe qlo qhi qpa qne qre n mk mt mv mb ml mg mp mx mr mc Q mh) (vz_cwV (n := 0) hT wd_link_M_56 wd_inst_M_arrows wd_sel_M_arrows wd_ini_M wd_code_M_arrows (by decide +kernel) ⟨Nat.le_of_ble_eq_true rfl, Nat.le_of_ble_eq_true rfl⟩) (vz_pv (q0 := 0) (ci := 3) (q := ("ArrowClassesModel", TM, 13)) hN hK hP [0, 1, 2, 3, 4, 5, 6, 7, 8, 9, 10] rfl rfl rfl) rfl rfl hl.1 rfl (lv_room (Nat.le_of_ble_eq_true rfl)) d_M_arrow_19 ⟨Nat.zero_le _, Nat.zero_le _⟩) ?_
      refine lv_bipush (v := 9) hx hb d_M_arrow_22 (by decide) ?_
      refine lv_icmp_ge (tgt := 40) hx hb d_M_arrow_24 (by decide) (fun h3 => ?_) (fun h3 => ?_)
      ·
        refine lv_iconst (v := 0) hx hb d_M_arrow_40 (by decide) ?_
        have hF : (mArrow n mh mk u v) = (0, mh, mk) := (by rw [mArrow, if_neg h1, if_pos h2, if_pos h3])
        exact W.zret hx hb hr (by decide) (fun t ht hW => ⟨⟨(0 : Int32), (), rfl, by rw [hF], by rw [hF, ht]; exact hP, va_K.moved hW.alike hK, by rw [hF]; exact hD⟩, hS.F ht⟩) hS.2.2 d_M_arrow_41
      ·
        refine lv_aload_n hx hb d_M_arrow_27 rfl (lv_at hl 0 rfl) ?_
        refine lv_iload_n hx hb d_M_arrow_28 rfl (lv_at hl 2 rfl) ?_
        refine vz_ro (va_runV (As := [.int v]) (rest := []) ⟨hx, hb, hml, hown, hT⟩ (c_M_reach l dC dI cI cZ qo qha qkn qtr qhv qbe qlo qhi qpa qne qre mk mt mv mb ml mg mp mx mr mc Q n mh v (by omega)) (vz_cwV (n := 1) hT wd_link_M_60 wd_inst_M_reach wd_sel_M_reach wd_ini_M wd_code_M_reach (by decide +kernel) ⟨Nat.le_of_ble_eq_true rfl, Nat.le_of_ble_eq_true rfl⟩) (vz_pv (q0 := 0) (ci := 3) (q := ("ArrowClassesModel", TM, 13)) hN hK hP [0, 1, 2, 3, 4, 5, 6, 7, 8, 9, 10] rfl rfl rfl) rfl rfl hl.1 rfl (lv_room (Nat.le_of_ble_eq_true rfl)) d_M_arrow_29 ⟨Nat.zero_le _, Nat.zero_le _⟩) ?_
        refine lv_iload_n hx hb d_M_arrow_32 rfl (lv_at hl 1 rfl) ?_
        refine lv_ishr hx hb d_M_arrow_33 ?_
        refine lv_iconst (v := 1) hx hb d_M_arrow_34 (by decide) ?_
        refine lv_iand hx hb d_M_arrow_35 ?_
        refine lv_iconst (v := 1) hx hb d_M_arrow_36 (by decide) ?_
        refine lv_icmp_ne (tgt := 42) hx hb d_M_arrow_37 (by decide) (fun h4 => ?_) (fun h4 => ?_)
        ·
          refine lv_aload_n hx hb d_M_arrow_42 rfl (lv_at hl 0 rfl) ?_
          refine va_get (D := (dC, dI)) (ci := 3) (v := .ref qha) (C := "ArrowClassesModel") (T := TM) (N := 13) hx hb hT inM hown hK hP 0 rfl rfl 1 (by decide) (hT _ wd_fld_M_7) (fun _ h9 => h9) rfl d_M_arrow_43 ?_
          refine lv_bipush (v := 6) hx hb d_M_arrow_46 (by decide) ?_
          refine lv_iload_n hx hb d_M_arrow_48 rfl (lv_at hl 1 rfl) ?_
          refine lv_imul hx hb d_M_arrow_49 ?_
          refine lv_iload_n hx hb d_M_arrow_50 rfl (lv_at hl 2 rfl) ?_
          refine lv_iadd hx hb d_M_arrow_51 ?_
          refine lv_iconst (v := 1) hx hb d_M_arrow_52 (by decide) ?_
          refine va_zast (D := (dC, dI)) hx hb hK hP hD hS 1 1 rfl rfl (vz_ix hn (by assumption) (by assumption)) d_M_arrow_53 (fun H locs hP hD hS => ?_)
          have hP : va_P (dC, dI) vwCl [(qo, .inr (3, [.int (nI n), .ref qha, .ref qkn, .ref qtr, .int mc, .ref qhv, .ref qbe, .int (nI Q), .ref qlo, .ref qhi, .ref qpa, .ref qne, .ref qre])), (qha, .inl (cZ, 36, .inl (upd mh ((6 * u) + v).toNatClampNeg (vp_nar .boolean 1)))), (qkn, .inl (cZ, 36, .inl mk)), (qtr, .inl (cZ, 36, .inl mt)), (qhv, .inl (cI, 36, .inl mv)), (qbe, .inl (cZ, 36, .inl mb)), (qlo, .inl (cI, 9, .inl ml)), (qhi, .inl (cI, 9, .inl mg)), (qpa, .inl (cI, 6, .inl mp)), (qne, .inl (cI, 6, .inl mx)), (qre, .inl (cI, 6, .inl mr))] H := hP
          have hD : va_D (va_A [(qo, .inr (3, [.int (nI n), .ref qha, .ref qkn, .ref qtr, .int mc, .ref qhv, .ref qbe, .int (nI Q), .ref qlo, .ref qhi, .ref qpa, .ref qne, .ref qre])), (qha, .inl (cZ, 36, .inl mh)), (qkn, .inl (cZ, 36, .inl mk)), (qtr, .inl (cZ, 36, .inl mt)), (qhv, .inl (cI, 36, .inl mv)), (qbe, .inl (cZ, 36, .inl mb)), (qlo, .inl (cI, 9, .inl ml)), (qhi, .inl (cI, 9, .inl mg)), (qpa, .inl (cI, 6, .inl mp)), (qne, .inl (cI, 6, .inl mx)), (qre, .inl (cI, 6, .inl mr))] s.heap.size) [(qo, .inr (3, [.int (nI n), .ref qha, .ref qkn, .ref qtr, .int mc, .ref qhv, .ref qbe, .int (nI Q), .ref qlo, .ref qhi, .ref qpa, .ref qne, .ref qre])), (qha, .inl (cZ, 36, .inl (upd mh ((6 * u) + v).toNatClampNeg (vp_nar .boolean 1)))), (qkn, .inl (cZ, 36, .inl mk)), (qtr, .inl (cZ, 36, .inl mt)), (qhv, .inl (cI, 36, .inl mv)), (qbe, .inl (cZ, 36, .inl mb)), (qlo, .inl (cI, 9, .inl ml)), (qhi, .inl (cI, 9, .inl mg)), (qpa, .inl (cI, 6, .inl mp)), (qne, .inl (cI, 6, .inl mx)), (qre, .inl (cI, 6, .inl mr))] := hD
          refine lv_aload_n hx hb d_M_arrow_54 rfl (lv_at hl 0 rfl) ?_
          refine vz_rv (wr := []) (w1 := [(qo, .inr (3, [.int (nI n), .ref qha, .ref qkn, .ref qtr, .int mc, .ref qhv, .ref qbe, .int (nI Q), .ref qlo, .ref qhi, .ref qpa, .ref qne, .ref qre])), (qha, .inl (cZ, 36, .inl (upd mh ((6 * u) + v).toNatClampNeg (vp_nar .boolean 1)))), (qkn, .inl (cZ, 36, .inl (mForgetAll mk))), (qtr, .inl (cZ, 36, .inl mt)), (qhv, .inl (cI, 36, .inl mv)), (qbe, .inl (cZ, 36, .inl mb)), (qlo, .inl (cI, 9, .inl ml)), (qhi, .inl (cI, 9, .inl mg)), (qpa, .inl (cI, 6, .inl mp)), (qne, .inl (cI, 6, .inl mx)), (qre, .inl (cI, 6, .inl mr))]) (va_runV (As := []) (rest := []) ⟨hx, hb, hml, hown, hT⟩ (c_M_forgetAll l dC dI cI cZ qo qha qkn qtr qhv qbe qlo qhi qpa qne qre n (upd mh ((6 * u) + v).toNatClampNeg (vp_nar .boolean 1)) mt mv mb ml mg mp mx mr mc Q mk H.size) (vz_cwV (n := 0) hT wd_link_M_64 wd_inst_M_forgetAll wd_sel_M_forgetAll wd_ini_M wd_code_M_forgetAll (by decide +kernel) ⟨Nat.le_of_ble_eq_true rfl, Nat.le_of_ble_eq_true rfl⟩) (vz_pvw (q0 := 0) (ci := 3) (q := ("ArrowClassesModel", TM, 13)) hN hK hP hD [0, 1, 2, 3, 4, 5, 6, 7, 8, 9, 10] rfl (by decide) rfl rfl rfl) rfl rfl hl.1 rfl (lv_room (Nat.le_of_ble_eq_true rfl)) d_M_arrow_55 ⟨Nat.zero_le _, Nat.zero_le _⟩) hP hD hS hA [0, 1, 2, 3, 4, 5, 6, 7, 8, 9, 10] [] rfl rfl (by decide) (by decide) (fun H locs hP hD hS => ?_)
          have hP : va_P (dC, dI) vwCl [(qo, .inr (3, [.int (nI n), .ref qha, .ref qkn, .ref qtr, .int mc, .ref qhv, .ref qbe, .int (nI Q), .ref qlo, .ref qhi, .ref qpa, .ref qne, .ref qre])), (qha, .inl (cZ, 36, .inl (upd mh ((6 * u) + v).toNatClampNeg (vp_nar .boolean 1)))), (qkn, .inl (cZ, 36, .inl (mForgetAll mk))), (qtr, .inl (cZ, 36, .inl mt)), (qhv, .inl (cI, 36, .inl mv)), (qbe, .inl (cZ, 36, .inl mb)), (qlo, .inl (cI, 9, .inl ml)), (qhi, .inl (cI, 9, .inl mg)), (qpa, .inl (cI, 6, .inl mp)), (qne, .inl (cI, 6, .inl mx)), (qre, .inl (cI, 6, .inl mr))] H := hP.sub [0, 1, 2, 3, 4, 5, 6, 7, 8, 9, 10] rfl
          have hD : va_D (va_A [(qo, .inr (3, [.int (nI n), .ref qha, .ref qkn, .ref qtr, .int mc, .ref qhv, .ref qbe, .int (nI Q), .ref qlo, .ref qhi, .ref qpa, .ref qne, .ref qre])), (qha, .inl (cZ, 36, .inl mh)), (qkn, .inl (cZ, 36, .inl mk)), (qtr, .inl (cZ, 36, .inl mt)), (qhv, .inl (cI, 36, .inl mv)), (qbe, .inl (cZ, 36, .inl mb)), (qlo, .inl (cI, 9, .inl ml)), (qhi, .inl (cI, 9, .inl mg)), (qpa, .inl (cI, 6, .inl mp)), (qne, .inl (cI, 6, .inl mx)), (qre, .inl (cI, 6, .inl mr))] s.heap.size) [(qo, .inr (3, [.int (nI n), .ref qha, .ref qkn, .ref qtr, .int mc, .ref qhv, .ref qbe, .int (nI Q), .ref qlo, .ref qhi, .ref qpa, .ref qne, .ref qre])), (qha, .inl (cZ, 36, .inl (upd mh ((6 * u) + v).toNatClampNeg (vp_nar .boolean 1)))), (qkn, .inl (cZ, 36, .inl (mForgetAll mk))), (qtr, .inl (cZ, 36, .inl mt)), (qhv, .inl (cI, 36, .inl mv)), (qbe, .inl (cZ, 36, .inl mb)), (qlo, .inl (cI, 9, .inl ml)), (qhi, .inl (cI, 9, .inl mg)), (qpa, .inl (cI, 6, .inl mp)), (qne, .inl (cI, 6, .inl mx)), (qre, .inl (cI, 6, .inl mr))] := hD.sub [0, 1, 2, 3, 4, 5, 6, 7, 8, 9, 10] (by decide) rfl
          refine lv_iconst (v := 1) hx hb d_M_arrow_58 (by decide) ?_
          have hF : (mArrow n mh mk u v) = (1, upd mh ((6 * u) + v).toNatClampNeg (vp_nar .boolean 1), (mForgetAll mk)) := (by rw [mArrow, if_neg h1, if_pos h2, if_neg h3, if_neg h4])
          exact W.zret hx hb hr (by decide) (fun t ht hW => ⟨⟨(1 : Int32), (), rfl, by rw [hF], by rw [hF, ht]; exact hP, va_K.moved hW.alike hK, by rw [hF]; exact hD⟩, hS.F ht⟩) hS.2.2 d_M_arrow_59
        ·
          refine lv_iconst (v := 0) hx hb d_M_arrow_40 (by decide) ?_
          have hF : (mArrow n mh mk u v) = (0, mh, mk) := (by rw [mArrow, if_neg h1, if_pos h2, if_neg h3, if_pos h4])
          exact W.zret hx hb hr (by decide) (fun t ht hW => ⟨⟨(0 : Int32), (), rfl, by rw [hF], by rw [hF, ht]; exact hP, va_K.moved hW.alike hK, by rw [hF]; exact hD⟩, hS.F ht⟩) hS.2.2 d_M_arrow_41
set_option maxRecDepth 100000 in
set_option maxHeartbeats 4000000 in
theorem c_M_erase (l : Launch) (dC : Nat → ClassId) (dI : Nat → Nat → Nat) (cI cZ : ClassId) (qo qha qkn qtr qhv qbe qlo qhi qpa qne qre : Nat) (mt : Nat → Int32) (mv : Nat → Int32) (mb : Nat → Int32) (ml : Nat → Int32) (mg : Nat → Int32) (mp : Nat → Int32) (mx : Nat → Int32) (mr : Nat → Int32) (mc : Int32) (Q : Nat) (n : Nat) (mh : Nat → Int32) (mk : Nat → Int32) (u : Int32) (v : Int32) (hn : n ≤ 6) (sz : Nat) : Met l y_M_erase w_M_erase rm_M_erase (va_Pc [.ref qo, .int u, .int v] (vz_Bw (dC, dI) vwCl [(qo, .inr (3, [.int (nI n), .ref qha, .ref qkn, .ref qtr, .int mc, .ref qhv, .ref qbe, .int (nI Q), .ref qlo, .ref qhi, .ref qpa, .ref qne, .ref qre])), (qha, .inl (cZ, 36, .inl mh)), (qkn, .inl (cZ, 36, .inl mk)), (qtr, .inl (cZ, 36, .inl mt)), (qhv, .inl (cI, 36, .inl mv)), (qbe, .inl (cZ, 36, .inl mb)), (qlo, .inl (cI, 9, .inl ml)), (qhi, .inl (cI, 9, .inl mg)), (qpa, .inl (cI, 6, .inl mp)), (qne, .inl (cI, 6, .inl mx)), (qre, .inl (cI, 6, .inl mr))] [(cI, .int), (cZ, .boolean)] sz)) (va_Qi (fun r (_ : Unit) => r = ((mErase n mh mk u v).1)) (fun (_ : Unit) t => va_P (dC, dI) vwCl [(qo, .inr (3, [.int (nI n), .ref qha, .ref qkn, .ref qtr, .int mc, .ref qhv, .ref qbe, .int (nI Q), .ref qlo, .ref qhi, .ref qpa, .ref qne, .ref qre])), (qha, .inl (cZ, 36, .inl ((mErase n mh mk u v).2.1))), (qkn, .inl (cZ, 36, .inl ((mErase n mh mk u v).2.2))), (qtr, .inl (cZ, 36, .inl mt)), (qhv, .inl (cI, 36, .inl mv)), (qbe, .inl (cZ, 36, .inl mb)), (qlo, .inl (cI, 9, .inl ml)), (qhi, .inl (cI, 9, .inl mg)), (qpa, .inl (cI, 6, .inl mp)), (qne, .inl (cI, 6, .inl mx)), (qre, .inl (cI, 6, .inl mr))] t.heap ∧ va_K (dC, dI) vwCl [(cI, .int), (cZ, .boolean)] t ∧ va_D (va_A [(qo, .inr (3, [.int (nI n), .ref qha, .ref qkn, .ref qtr, .int mc, .ref qhv, .ref qbe, .int (nI Q), .ref qlo, .ref qhi, .ref qpa, .ref qne, .ref qre])), (qha, .inl (cZ, 36, .inl mh)), (qkn, .inl (cZ, 36, .inl mk)), (qtr, .inl (cZ, 36, .inl mt)), (qhv, .inl (cI, 36, .inl mv)), (qbe, .inl (cZ, 36, .inl mb)), (qlo, .inl (cI, 9, .inl ml)), (qhi, .inl (cI, 9, .inl mg)), (qpa, .inl (cI, 6, .inl mp)), (qne, .inl (cI, 6, .inl mx)), (qre, .inl (cI, 6, .inl mr))] sz) [(qo, .inr (3, [.int (nI n), .ref qha, .ref qkn, .ref qtr, .int mc, .ref qhv, .ref qbe, .int (nI Q), .ref qlo, .ref qhi, .ref qpa, .ref qne, .ref qre])), (qha, .inl (cZ, 36, .inl ((mErase n mh mk u v).2.1))), (qkn, .inl (cZ, 36, .inl ((mErase n mh mk u v).2.2))), (qtr, .inl (cZ, 36, .inl mt)), (qhv, .inl (cI, 36, .inl mv)), (qbe, .inl (cZ, 36, .inl mb)), (qlo, .inl (cI, 9, .inl ml)), (qhi, .inl (cI, 9, .inl mg)), (qpa, .inl (cI, 6, .inl mp)), (qne, .inl (cI, 6, .inl mx)), (qre, .inl (cI, 6, .inl mr))]) (va_A [(qo, .inr (3, [.int (nI n), .ref qha, .ref qkn, .ref qtr, .int mc, .ref qhv, .ref qbe, .int (nI Q), .ref qlo, .ref qhi, .ref qpa, .ref qne, .ref qre])), (qha, .inl (cZ, 36, .inl mh)), (qkn, .inl (cZ, 36, .inl mk)), (qtr, .inl (cZ, 36, .inl mt)), (qhv, .inl (cI, 36, .inl mv)), (qbe, .inl (cZ, 36, .inl mb)), (qlo, .inl (cI, 9, .inl ml)), (qhi, .inl (cI, 9, .inl mg)), (qpa, .inl (cI, 6, .inl mp)), (qne, .inl (cI, 6, .inl mx)), (qre, .inl (cI, 6, .inl mr))] sz)) 0 0 (va_A [(qo, .inr (3, [.int (nI n), .ref qha, .ref qkn, .ref qtr, .int mc, .ref qhv, .ref qbe, .int (nI Q), .ref qlo, .ref qhi, .ref qpa, .ref qne, .ref qre])), (qha, .inl (cZ, 36, .inl mh)), (qkn, .inl (cZ, 36, .inl mk)), (qtr, .inl (cZ, 36, .inl mt)), (qhv, .inl (cI, 36, .inl mv)), (qbe, .inl (cZ, 36, .inl mb)), (qlo, .inl (cI, 9, .inl ml)), (qhi, .inl (cI, 9, .inl mg)), (qpa, .inl (cI, 6, .inl mp)), (qne, .inl (cI, 6, .inl mx)), (qre, .inl (cI, 6, .inl mr))] sz) := by
  refine Met.ofW (cc := b_M_erase) (maxL := 3) (ret := (some .boolean)) (by decide) rfl ?_
  intro p e s m args below meth c s₁ B hml hv
  obtain ⟨rfl, hsz, hP, hK, hD0, hN⟩ := hv
  have hx := B.exec
  have hb := B.bytes
  have hr := B.returns
  have hts := atoms_spec (ws := w_M_erase) B.pre
  have hT : ∀ w ∈ vzB, w.before ([.ref qo, .int u, .int v] : List Value).toArray s = true := fun w h => hts w (List.mem_cons_of_mem _ h)
  have hown : s.vm.findClass "ArrowClassesModel" = some m.cls := findClass_of_methodNamed B.named
  have hlocks := B.notSynchronized
  subst hsz
  have hD := hD0.self (sz := s.heap.size)
  have hA : ∀ q : Nat, s.heap.size ≤ q → va_A [(qo, .inr (3, [.int (nI n), .ref qha, .ref qkn, .ref qtr, .int mc, .ref qhv, .ref qbe, .int (nI Q), .ref qlo, .ref qhi, .ref qpa, .ref qne, .ref qre])), (qha, .inl (cZ, 36, .inl mh)), (qkn, .inl (cZ, 36, .inl mk)), (qtr, .inl (cZ, 36, .inl mt)), (qhv, .inl (cI, 36, .inl mv)), (qbe, .inl (cZ, 36, .inl mb)), (qlo, .inl (cI, 9, .inl ml)), (qhi, .inl (cI, 9, .inl mg)), (qpa, .inl (cI, 6, .inl mp)), (qne, .inl (cI, 6, .inl mx)), (qre, .inl (cI, 6, .inl mr))] s.heap.size q := fun q h => Or.inr h
  have hS : va_S (va_A [(qo, .inr (3, [.int (nI n), .ref qha, .ref qkn, .ref qtr, .int mc, .ref qhv, .ref qbe, .int (nI Q), .ref qlo, .ref qhi, .ref qpa, .ref qne, .ref qre])), (qha, .inl (cZ, 36, .inl mh)), (qkn, .inl (cZ, 36, .inl mk)), (qtr, .inl (cZ, 36, .inl mt)), (qhv, .inl (cI, 36, .inl mv)), (qbe, .inl (cZ, 36, .inl mb)), (qlo, .inl (cI, 9, .inl ml)), (qhi, .inl (cI, 9, .inl mg)), (qpa, .inl (cI, 6, .inl mp)), (qne, .inl (cI, 6, .inl mx)), (qre, .inl (cI, 6, .inl mr))] s.heap.size) s.heap s.heap [] := va_S.rf
  have hl := lv_entry ([.ref qo, .int u, .int v]) (n := 3) (Nat.le_of_ble_eq_true rfl)
  rw [lg_entry_eq]
  generalize (lg_sl ([.ref qo, .int u, .int v]) ++ List.replicate (3 - (lg_sl ([.ref qo, .int u, .int v])).length) Slot.unset).toArray = ls at hl ⊢
  have hl : lv_has ls 3 [(0, .ref qo), (1, .int u), (2, .int v)] := hl
  refine lv_aload_n hx hb d_M_erase_0 rfl (lv_at hl 0 rfl) ?_
  refine lv_iload_n hx hb d_M_erase_1 rfl (lv_at hl 1 rfl) ?_
  refine lv_iload_n hx hb d_M_erase_2 rfl (lv_at hl 2 rfl) ?_
  refine vz_ro (va_runV (As := [.int u, .int v]) (rest := []) ⟨hx, hb, hml, hown, hT⟩ (c_M_areNodes l dC dI cI cZ qo qha qkn qtr qhv qbe qlo qhi qpa qne qre mh mk mt mv mb ml mg mp mx mr mc Q n u v) (vz_cwV (n := 2) hT wd_link_M_49 wd_inst_M_areNodes wd_sel_M_areNodes wd_ini_M wd_code_M_areNodes (by decide +kernel) ⟨Nat.le_of_ble_eq_true rfl, Nat.le_of_ble_eq_true rfl⟩) (vz_pv (q0 := 0) (ci := 3) (q := ("ArrowClassesModel", TM, 13)) hN hK hP [0, 1, 2, 3, 4, 5, 6, 7, 8, 9, 10] rfl rfl rfl) rfl rfl hl.1 rfl (lv_room (Nat.le_of_ble_eq_true rfl)) d_M_erase_3 ⟨Nat.zero_le _, Nat.zero_le _⟩) ?_
  refine lv_if_eq (tgt := 23) hx hb d_M_erase_6 (by decide) (fun h1 => ?_) (fun h1 => ?_)
  ·
    refine lv_iconst (v := 0) hx hb d_M_erase_23 (by decide) ?_
    have hF : (mErase n mh mk u v) = (0, mh, mk) := (by rw [mErase, if_pos h1])
    exact W.zret hx hb hr (by decide) (fun t ht hW => ⟨⟨(0 : Int32), (), rfl, by rw [hF], by rw [hF, ht]; exact hP, va_K.moved hW.alike hK, by rw [hF]; exact hD⟩, hS.F ht⟩) hS.2.2 d_M_erase_24
  ·
    obtain ⟨hvu, hvv, huv⟩ := mPair_in hn h1
    refine lv_aload_n hx hb d_M_erase_9 rfl (lv_at hl 0 rfl) ?_
    refine va_get (D := (dC, dI)) (ci := 3) (v := .ref qha) (C := "ArrowClassesModel") (T := TM) (N := 13) hx hb hT inM hown hK hP 0 rfl rfl 1 (by decide) (hT _ wd_fld_M_7) (fun _ h9 => h9) rfl d_M_erase_10 ?_
    refine lv_bipush (v := 6) hx hb d_M_erase_13 (by decide) ?_
    refine lv_iload_n hx hb d_M_erase_15 rfl (lv_at hl 1 rfl) ?_
    refine lv_imul hx hb d_M_erase_16 ?_
    refine lv_iload_n hx hb d_M_erase_17 rfl (lv_at hl 2 rfl) ?_
    refine lv_iadd hx hb d_M_erase_18 ?_
    refine va_zald (D := (dC, dI)) hx hb hK hP 1 1 rfl rfl (vz_ix hn (by assumption) (by assumption)) d_M_erase_19 ?_
    refine lv_if_ne (tgt := 25) hx hb d_M_erase_20 (by decide) (fun h2 => ?_) (fun h2 => ?_)
    ·
      refine lv_aload_n hx hb d_M_erase_25 rfl (lv_at hl 0 rfl) ?_
      refine va_get (D := (dC, dI)) (ci := 3) (v := .ref qha) (C := "ArrowClassesModel") (T := TM) (N := 13) hx hb hT inM hown hK hP 0 rfl rfl 1 (by decide) (hT _ wd_fld_M_7) (fun _ h9 => h9) rfl d_M_erase_26 ?_
      refine lv_bipush (v := 6) hx hb d_M_erase_29 (by decide) ?_
      refine lv_iload_n hx hb d_M_erase_31 rfl (lv_at hl 1 rfl) ?_
      refine lv_imul hx hb d_M_erase_32 ?_
      refine lv_iload_n hx hb d_M_erase_33 rfl (lv_at hl 2 rfl) ?_
      refine lv_iadd hx hb d_M_erase_34 ?_
      refine lv_iconst (v := 0) hx hb d_M_erase_35 (by decide) ?_
      refine va_zast (D := (dC, dI)) hx hb hK hP hD hS 1 1 rfl rfl (vz_ix hn (by assumption) (by assumption)) d_M_erase_36 (fun H locs hP hD hS => ?_)
      have hP : va_P (dC, dI) vwCl [(qo, .inr (3, [.int (nI n), .ref qha, .ref qkn, .ref qtr, .int mc, .ref qhv, .ref qbe, .int (nI Q), .ref qlo, .ref qhi, .ref qpa, .ref qne, .ref qre])), (qha, .inl (cZ, 36, .inl (upd mh ((6 * u) + v).toNatClampNeg (vp_nar .boolean 0)))), (qkn, .inl (cZ, 36, .inl mk)), (qtr, .inl (cZ, 36, .inl mt)), (qhv, .inl (cI, 36, .inl mv)), (qbe, .inl (cZ, 36, .inl mb)), (qlo, .inl (cI, 9, .inl ml)), (qhi, .inl (cI, 9, .inl mg)), (qpa, .inl (cI, 6, .inl mp)), (qne, .inl (cI, 6, .inl mx)), (qre, .inl (cI, 6, .inl mr))] H := hP
      have hD : va_D (va_A [(qo, .inr (3, [.int (nI n), .ref qha, .ref qkn, .ref qtr, .int mc, .ref qhv, .ref qbe, .int (nI Q), .ref qlo, .ref qhi, .ref qpa, .ref qne, .ref qre])), (qha, .inl (cZ, 36, .inl mh)), (qkn, .inl (cZ, 36, .inl mk)), (qtr, .inl (cZ, 36, .inl mt)), (qhv, .inl (cI, 36, .inl mv)), (qbe, .inl (cZ, 36, .inl mb)), (qlo, .inl (cI, 9, .inl ml)), (qhi, .inl (cI, 9, .inl mg)), (qpa, .inl (cI, 6, .inl mp)), (qne, .inl (cI, 6, .inl mx)), (qre, .inl (cI, 6, .inl mr))] s.heap.size) [(qo, .inr (3, [.int (nI n), .ref qha, .ref qkn, .ref qtr, .int mc, .ref qhv, .ref qbe, .int (nI Q), .ref qlo, .ref qhi, .ref qpa, .ref qne, .ref qre])), (qha, .inl (cZ, 36, .inl (upd mh ((6 * u) + v).toNatClampNeg (vp_nar .boolean 0)))), (qkn, .inl (cZ, 36, .inl mk)), (qtr, .inl (cZ, 36, .inl mt)), (qhv, .inl (cI, 36, .inl mv)), (qbe, .inl (cZ, 36, .inl mb)), (qlo, .inl (cI, 9, .inl ml)), (qhi, .inl (cI, 9, .inl mg)), (qpa, .inl (cI, 6, .inl mp)), (qne, .inl (cI, 6, .inl mx)), (qre, .inl (cI, 6, .inl mr))] := hD
      refine lv_aload_n hx hb d_M_erase_37 rfl (lv_at hl 0 rfl) ?_
      refine vz_rv (wr := []) (w1 := [(qo, .inr (3, [.int (nI n), .ref qha, .ref qkn, .ref qtr, .int mc, .ref qhv, .ref qbe, .int (nI Q), .ref qlo, .ref qhi, .ref qpa, .ref qne, .ref qre])), (qha, .inl (cZ, 36, .inl (upd mh ((6 * u) + v).toNatClampNeg (vp_nar .boolean 0)))), (qkn, .inl (cZ, 36, .inl (mForgetAll mk))), (qtr, .inl (cZ, 36, .inl mt)), (qhv, .inl (cI, 36, .inl mv)), (qbe, .inl (cZ, 36, .inl mb)), (qlo, .inl (cI, 9, .inl ml)), (qhi, .inl (cI, 9, .inl mg)), (qpa, .inl (cI, 6, .inl mp)), (qne, .inl (cI, 6, .inl mx)), (qre, .inl (cI, 6, .inl mr))]) (va_runV (As := []) (rest := []) ⟨hx, hb, hml, hown, hT⟩ (c_M_forgetAll l dC dI cI cZ qo qha qkn qtr qhv qbe qlo qhi qpa qne qre n (upd mh ((6 * u) + v).toNatClampNeg (vp_nar .boolean 0)) mt mv mb ml mg mp mx mr mc Q mk H.size) (vz_cwV (n := 0) hT wd_link_M_64 wd_inst_M_forgetAll wd_sel_M_forgetAll wd_ini_M wd_code_M_forgetAll (by decide +kernel) ⟨Nat.le_of_ble_eq_true rfl, Nat.le_of_ble_eq_true rfl⟩) (vz_pvw (q0 := 0) (ci := 3) (q := ("ArrowClassesModel", TM, 13)) hN hK hP hD [0, 1, 2, 3, 4, 5, 6, 7, 8, 9, 10] rfl (by decide) rfl rfl rfl) rfl rfl hl.1 rfl (lv_room (Nat.le_of_ble_eq_true rfl)) d_M_erase_38 ⟨Nat.zero_le _, Nat.zero_le _⟩) hP hD hS hA [0, 1, 2, 3, 4, 5, 6, 7, 8, 9, 10] [] rfl rfl (by decide) (by decide) (fun H locs hP hD hS => ?_)
      have hP : va_P (dC, dI) vwCl [(qo, .inr (3, [.int (nI n), .ref qha, .ref qkn, .ref qtr, .int mc, .ref qhv, .ref qbe, .int (nI Q), .ref qlo, .ref qhi, .ref qpa, .ref qne, .ref qre])), (qha, .inl (cZ, 36, .inl (upd mh ((6 * u) + v).toNatClampNeg (vp_nar .boolean 0)))), (qkn, .inl (cZ, 36, .inl (mForgetAll mk))), (qtr, .inl (cZ, 36, .inl mt)), (qhv, .inl (cI, 36, .inl mv)), (qbe, .inl (cZ, 36, .inl mb)), (qlo, .inl (cI, 9, .inl ml)), (qhi, .inl (cI, 9, .inl mg)), (qpa, .inl (cI, 6, .inl mp)), (qne, .inl (cI, 6, .inl mx)), (qre, .inl (cI, 6, .inl mr))] H := hP.sub [0, 1, 2, 3, 4, 5, 6, 7, 8, 9, 10] rfl
      have hD : va_D (va_A [(qo, .inr (3, [.int (nI n), .ref qha, .ref qkn, .ref qtr, .int mc, .ref qhv, .ref qbe, .int (nI Q), .ref qlo, .ref qhi, .ref qpa, .ref qne, .ref qre])), (qha, .inl (cZ, 36, .inl mh)), (qkn, .inl (cZ, 36, .inl mk)), (qtr, .inl (cZ, 36, .inl mt)), (qhv, .inl (cI, 36, .inl mv)), (qbe, .inl (cZ, 36, .inl mb)), (qlo, .inl (cI, 9, .inl ml)), (qhi, .inl (cI, 9, .inl mg)), (qpa, .inl (cI, 6, .inl mp)), (qne, .inl (cI, 6, .inl mx)), (qre, .inl (cI, 6, .inl mr))] s.heap.size) [(qo, .inr (3, [.int (nI n), .ref qha, .ref qkn, .ref qtr, .int mc, .ref qhv, .ref qbe, .int (nI Q), .ref qlo, .ref qhi, .ref qpa, .ref qne, .ref qre])), (qha, .inl (cZ, 36, .inl (upd mh ((6 * u) + v).toNatClampNeg (vp_nar .boolean 0)))), (qkn, .inl (cZ, 36, .inl (mForgetAll mk))), (qtr, .inl (cZ, 36, .inl mt)), (qhv, .inl (cI, 36, .inl mv)), (qbe, .inl (cZ, 36, .inl mb)), (qlo, .inl (cI, 9, .inl ml)), (qhi, .inl (cI, 9, .inl mg)), (qpa, .inl (cI, 6, .inl mp)), (qne, .inl (cI, 6, .inl mx)), (qre, .inl (cI, 6, .inl mr))] := hD.sub [0, 1, 2, 3, 4, 5, 6, 7, 8, 9, 10] (by decide) rfl
      refine lv_iconst (v := 1) hx hb d_M_erase_41 (by decide) ?_
      have hF : (mErase n mh mk u v) = (1, upd mh ((6 * u) + v).toNatClampNeg (vp_nar .boolean 0), (mForgetAll mk)) := (by rw [mErase, if_neg h1, if_neg h2])
      exact W.zret hx hb hr (by decide) (fun t ht hW => ⟨⟨(1 : Int32), (), rfl, by rw [hF], by rw [hF, ht]; exact hP, va_K.moved hW.alike hK, by rw [hF]; exact hD⟩, hS.F ht⟩) hS.2.2 d_M_erase_42
    ·
      refine lv_iconst (v := 0) hx hb d_M_erase_23 (by decide) ?_
      have hF : (mErase n mh mk u v) = (0, mh, mk) := (by rw [mErase, if_neg h1, if_pos h2])
      exact W.zret hx hb hr (by decide) (fun t ht hW => ⟨⟨(0 : Int32), (), rfl, by rw [hF], by rw [hF, ht]; exact hP, va_K.moved hW.alike hK, by rw [hF]; exact hD⟩, hS.F ht⟩) hS.2.2 d_M_erase_24
set_option maxRecDepth 100000 in
set_option maxHeartbeats 4000000 in
theorem c_M_turn (l : Launch) (dC : Nat → ClassId) (dI : Nat → Nat → Nat) (cI cZ : ClassId) (qo qha qkn qtr qhv qbe qlo qhi qpa qne qre : Nat) (mt : Nat → Int32) (mv : Nat → Int32) (mb : Nat → Int32) (ml : Nat → Int32) (mg : Nat → Int32) (mp : Nat → Int32) (mx : Nat → Int32) (mr : Nat → Int32) (mc : Int32) (Q : Nat) (n : Nat) (mh : Nat → Int32) (mk : Nat → Int32) (u : Int32) (v : Int32) (hn : n ≤ 6) (sz : Nat) : Met l y_M_turn w_M_turn rm_M_turn (va_Pc [.ref qo, .int u, .int v] (vz_Bw (dC, dI) vwCl [(qo, .inr (3, [.int (nI n), .ref qha, .ref qkn, .ref qtr, .int mc, .ref qhv, .ref qbe, .int (nI Q), .ref qlo, .ref qhi, .ref qpa, .ref qne, .ref qre])), (qha, .inl (cZ, 36, .inl mh)), (qkn, .inl (cZ, 36, .inl mk)), (qtr, .inl (cZ, 36, .inl mt)), (qhv, .inl (cI, 36, .inl mv)), (qbe, .inl (cZ, 36, .inl mb)), (qlo, .inl (cI, 9, .inl ml)), (qhi, .inl (cI, 9, .inl mg)), (qpa, .inl (cI, 6, .inl mp)), (qne, .inl (cI, 6, .inl mx)), (qre, .inl (cI, 6, .inl mr))] [(cI, .int), (cZ, .boolean)] sz)) (va_Qi (fun r (_ : Unit) => r = ((mTurn n mh mk u v).1)) (fun (_ : Unit) t => va_P (dC, dI) vwCl [(qo, .inr (3, [.int (nI n), .ref qha, .ref qkn, .ref qtr, .int mc, .ref qhv, .ref qbe, .int (nI Q), .ref qlo, .ref qhi, .ref qpa, .ref qne, .ref qre])), (qha, .inl (cZ, 36, .inl ((mTurn n mh mk u v).2.1))), (qkn, .inl (cZ, 36, .inl ((mTurn n mh mk u v).2.2))), (qtr, .inl (cZ, 36, .inl mt)), (qhv, .inl (cI, 36, .inl mv)), (qbe, .inl (cZ, 36, .inl mb)), (qlo, .inl (cI, 9, .inl ml)), (qhi, .inl (cI, 9, .inl mg)), (qpa, .inl (cI, 6, .inl mp)), (qne, .inl (cI, 6, .inl mx)), (qre, .inl (cI, 6, .inl mr))] t.heap ∧ va_K (dC, dI) vwCl [(cI, .int), (cZ, .boolean)] t ∧ va_D (va_A [(qo, .inr (3, [.int (nI n), .ref qha, .ref qkn, .ref qtr, .int mc, .ref qhv, .ref qbe, .int (nI Q), .ref qlo, .ref qhi, .ref qpa, .ref qne, .ref qre])), (qha, .inl (cZ, 36, .inl mh)), (qkn, .inl (cZ, 36, .inl mk)), (qtr, .inl (cZ, 36, .inl mt)), (qhv, .inl (cI, 36, .inl mv)), (qbe, .inl (cZ, 36, .inl mb)), (qlo, .inl (cI, 9, .inl ml)), (qhi, .inl (cI, 9, .inl mg)), (qpa, .inl (cI, 6, .inl mp)), (qne, .inl (cI, 6, .inl mx)), (qre, .inl (cI, 6, .inl mr))] sz) [(qo, .inr (3, [.int (nI n), .ref qha, .ref qkn, .ref qtr, .int mc, .ref qhv, .ref qbe, .int (nI Q), .ref qlo, .ref qhi, .ref qpa, .ref qne, .ref qre])), (qha, .inl (cZ, 36, .inl ((mTurn n mh mk u v).2.1))), (qkn, .inl (cZ, 36, .inl ((mTurn n mh mk u v).2.2))), (qtr, .inl (cZ, 36, .inl mt)), (qhv, .inl (cI, 36, .inl mv)), (qbe, .inl (cZ, 36, .inl mb)), (qlo, .inl (cI, 9, .inl ml)), (qhi, .inl (cI, 9, .inl mg)), (qpa, .inl (cI, 6, .inl mp)), (qne, .inl (cI, 6, .inl mx)), (qre, .inl (cI, 6, .inl mr))]) (va_A [(qo, .inr (3, [.int (nI n), .ref qha, .ref qkn, .ref qtr, .int mc, .ref qhv, .ref qbe, .int (nI Q), .ref qlo, .ref qhi, .ref qpa, .ref qne, .ref qre])), (qha, .inl (cZ, 36, .inl mh)), (qkn, .inl (cZ, 36, .inl mk)), (qtr, .inl (cZ, 36, .inl mt)), (qhv, .inl (cI, 36, .inl mv)), (qbe, .inl (cZ, 36, .inl mb)), (qlo, .inl (cI, 9, .inl ml)), (qhi, .inl (cI, 9, .inl mg)), (qpa, .inl (cI, 6, .inl mp)), (qne, .inl (cI, 6, .inl mx)), (qre, .inl (cI, 6, .inl mr))] sz)) 0 0 (va_A [(qo, .inr (3, [.int (nI n), .ref qha, .ref qkn, .ref qtr, .int mc, .ref qhv, .ref qbe, .int (nI Q), .ref qlo, .ref qhi, .ref qpa, .ref qne, .ref qre])), (qha, .inl (cZ, 36, .inl mh)), (qkn, .inl (cZ, 36, .inl mk)), (qtr, .inl (cZ, 36, .inl mt)), (qhv, .inl (cI, 36, .inl mv)), (qbe, .inl (cZ, 36, .inl mb)), (qlo, .inl (cI, 9, .inl ml)), (qhi, .inl (cI, 9, .inl mg)), (qpa, .inl (cI, 6, .inl mp)), (qne, .inl (cI, 6, .inl mx)), (qre, .inl (cI, 6, .inl mr))] sz) := by
  refine Met.ofW (cc := b_M_turn) (maxL := 3) (ret := (some .boolean)) (by decide) rfl ?_
  intro p e s m args below meth c s₁ B hml hv
  obtain ⟨rfl, hsz, hP, hK, hD0, hN⟩ := hv
  have hx := B.exec
  have hb := B.bytes
  have hr := B.returns
  have hts := atoms_spec (ws := w_M_turn) B.pre
  have hT : ∀ w ∈ vzB, w.before ([.ref qo, .int u, .int v] : List Value).toArray s = true := fun w h => hts w (List.mem_cons_of_mem _ h)
  have hown : s.vm.findClass "ArrowClassesModel" = some m.cls := findClass_of_methodNamed B.named
  have hlocks := B.notSynchronized
  subst hsz
  have hD := hD0.self (sz := s.heap.size)
  have hA : ∀ q : Nat, s.heap.size ≤ q → va_A [(qo, .inr (3, [.int (nI n), .ref qha, .ref qkn, .ref qtr, .int mc, .ref qhv, .ref qbe, .int (nI Q), .ref qlo, .ref qhi, .ref qpa, .ref qne, .ref qre])), (qha, .inl (cZ, 36, .inl mh)), (qkn, .inl (cZ, 36, .inl mk)), (qtr, .inl (cZ, 36, .inl mt)), (qhv, .inl (cI, 36, .inl mv)), (qbe, .inl (cZ, 36, .inl mb)), (qlo, .inl (cI, 9, .inl ml)), (qhi, .inl (cI, 9, .inl mg)), (qpa, .inl (cI, 6, .inl mp)), (qne, .inl (cI, 6, .inl mx)), (qre, .inl (cI, 6, .inl mr))] s.heap.size q := fun q h => Or.inr h
  have hS : va_S (va_A [(qo, .inr (3, [.int (nI n), .ref qha, .ref qkn, .ref qtr, .int mc, .ref qhv, .ref qbe, .int (nI Q), .ref qlo, .ref qhi, .ref qpa, .ref qne, .ref qre])), (qha, .inl (cZ, 36, .inl mh)), (qkn, .inl (cZ, 36, .inl mk)), (qtr, .inl (cZ, 36, .inl mt)), (qhv, .inl (cI, 36, .inl mv)), (qbe, .inl (cZ, 36, .inl mb)), (qlo, .inl (cI, 9, .inl ml)), (qhi, .inl (cI, 9, .inl mg)), (qpa, .inl (cI, 6, .inl mp)), (qne, .inl (cI, 6, .inl mx)), (qre, .inl (cI, 6, .inl mr))] s.heap.size) s.heap s.heap [] := va_S.rf
  have hl := lv_entry ([.ref qo, .int u, .int v]) (n := 3) (Nat.le_of_ble_eq_true rfl)
  rw [lg_entry_eq]
  generalize (lg_sl ([.ref qo, .int u, .int v]) ++ List.replicate (3 - (lg_sl ([.ref qo, .int u, .int v])).length) Slot.unset).toArray = ls at hl ⊢
  have hl : lv_has ls 3 [(0, .ref qo), (1, .int u), (2, .int v)] := hl
  refine lv_aload_n hx hb d_M_turn_0 rfl (lv_at hl 0 rfl) ?_
  refine lv_iload_n hx hb d_M_turn_1 rfl (lv_at hl 1 rfl) ?_
  refine lv_iload_n hx hb d_M_turn_2 rfl (lv_at hl 2 rfl) ?_
  refine vz_ro (va_runV (As := [.int u, .int v]) (rest := []) ⟨hx, hb, hml, hown, hT⟩ (c_M_areNodes l dC dI cI cZ qo qha qkn qtr qhv qbe qlo qhi qpa qne qre mh mk mt mv mb ml mg mp mx mr mc Q n u v) (vz_cwV (n := 2) hT wd_link_M_49 wd_inst_M_areNodes wd_sel_M_areNodes wd_ini_M wd_code_M_areNodes (by decide +kernel) ⟨Nat.le_of_ble_eq_true rfl, Nat.le_of_ble_eq_true rfl⟩) (vz_pv (q0 := 0) (ci := 3) (q := ("ArrowClassesModel", TM, 13)) hN hK hP [0, 1, 2, 3, 4, 5, 6, 7, 8, 9, 10] rfl rfl rfl) rfl rfl hl.1 rfl (lv_room (Nat.le_of_ble_eq_true rfl)) d_M_turn_3 ⟨Nat.zero_le _, Nat.zero_le _⟩) ?_
  refine lv_if_eq (tgt := 23) hx hb d_M_turn_6 (by decide) (fun h1 => ?_) (fun h1 => ?_)
  ·
    refine lv_iconst (v := 0) hx hb d_M_turn_23 (by decide) ?_
    have hF : (mTurn n mh mk u v) = (0, mh, mk) := (by rw [mTurn, if_pos h1])
    exact W.zret hx hb hr (by decide) (fun t ht hW => ⟨⟨(0 : Int32), (), rfl, by rw [hF], by rw [hF, ht]; exact hP, va_K.moved hW.alike hK, by rw [hF]; exact hD⟩, hS.F ht⟩) hS.2.2 d_M_turn_24
  ·
    obtain ⟨hvu, hvv, huv⟩ := mPair_in hn h1
    refine lv_aload_n hx hb d_M_turn_9 rfl (lv_at hl 0 rfl) ?_
    refine va_get (D := (dC, dI)) (ci := 3) (v := .ref qha) (C := "ArrowClassesModel") (T := TM) (N := 13) hx hb hT inM hown hK hP 0 rfl rfl 1 (by decide) (hT _ wd_fld_M_7) (fun _ h9 => h9) rfl d_M_turn_10 ?_
    refine lv_bipush (v := 6) hx hb d_M_turn_13 (by decide) ?_
    refine lv_iload_n hx hb d_M_turn_15 rfl (lv_at hl 1 rfl) ?_
    refine lv_imul hx hb d_M_turn_16 ?_
    refine lv_iload_n hx hb d_M_turn_17 rfl (lv_at hl 2 rfl) ?_
    refine lv_iadd hx hb d_M_turn_18 ?_
    refine va_zald (D := (dC, dI)) hx hb hK hP 1 1 rfl rfl (vz_ix hn (by assumption) (by assumption)) d_M_turn_19 ?_
    refine lv_if_ne (tgt := 25) hx hb d_M_turn_20 (by decide) (fun h2 => ?_) (fun h2 => ?_)
    ·
      refine lv_aload_n hx hb d_M_turn_25 rfl (lv_at hl 0 rfl) ?_
      refine va_get (D := (dC, dI)) (ci := 3) (v := .ref qha) (C := "ArrowClassesModel") (T := TM) (N := 13) hx hb hT inM hown hK hP 0 rfl rfl 1 (by decide) (hT _ wd_fld_M_7) (fun _ h9 => h9) rfl d_M_turn_26 ?_
      refine lv_bipush (v := 6) hx hb d_M_turn_29 (by decide) ?_
      refine lv_iload_n hx hb d_M_turn_31 rfl (lv_at hl 1 rfl) ?_
      refine lv_imul hx hb d_M_turn_32 ?_
      refine lv_iload_n hx hb d_M_turn_33 rfl (lv_at hl 2 rfl) ?_
      refine lv_iadd hx hb d_M_turn_34 ?_
      refine lv_iconst (v := 0) hx hb d_M_turn_35 (by decide) ?_
      refine va_zast (D := (dC, dI)) hx hb hK hP hD hS 1 1 rfl rfl (vz_ix hn (by assumption) (by assumption)) d_M_turn_36 (fun H locs hP hD hS => ?_)
      have hP : va_P (dC, dI) vwCl [(qo, .inr (3, [.int (nI n), .ref qha, .ref qkn, .ref qtr, .int mc, .ref qhv, .ref qbe, .int (nI Q), .ref qlo, .ref qhi, .ref qpa, .ref qne, .ref qre])), (qha, .inl (cZ, 36, .inl (upd mh ((6 * u) + v).toNatClampNeg (vp_nar .boolean 0)))), (qkn, .inl (cZ, 36, .inl mk)), (qtr, .inl (cZ, 36, .inl mt)), (qhv, .inl (cI, 36, .inl mv)), (qbe, .inl (cZ, 36, .inl mb)), (qlo, .inl (cI, 9, .inl ml)), (qhi, .inl (cI, 9, .inl mg)), (qpa, .inl (cI, 6, .inl mp)), (qne, .inl (cI, 6, .inl mx)), (qre, .inl (cI, 6, .inl mr))] H := hP
      have hD : va_D (va_A [(qo, .inr (3, [.int (nI n), .ref qha, .ref qkn, .ref qtr, .int mc, .ref qhv, .ref qbe, .int (nI Q), .ref qlo, .ref qhi, .ref qpa, .ref qne, .ref qre])), (qha, .inl (cZ, 36, .inl mh)), (qkn, .inl (cZ, 36, .inl mk)), (qtr, .inl (cZ, 36, .inl mt)), (qhv, .inl (cI, 36, .inl mv)), (qbe, .inl (cZ, 36, .inl mb)), (qlo, .inl (cI, 9, .inl ml)), (qhi, .inl (cI, 9, .inl mg)), (qpa, .inl (cI, 6, .inl mp)), (qne, .inl (cI, 6, .inl mx)), (qre, .inl (cI, 6, .inl mr))] s.heap.size) [(qo, .inr (3, [.int (nI n), .ref qha, .ref qkn, .ref qtr, .int mc, .ref qhv, .ref qbe, .int (nI Q), .ref qlo, .ref qhi, .ref qpa, .ref qne, .ref qre])), (qha, .inl (cZ, 36, .inl (upd mh ((6 * u) + v).toNatClampNeg (vp_nar .boolean 0)))), (qkn, .inl (cZ, 36, .inl mk)), (qtr, .inl (cZ, 36, .inl mt)), (qhv, .inl (cI, 36, .inl mv)), (qbe, .inl (cZ, 36, .inl mb)), (qlo, .inl (cI, 9, .inl ml)), (qhi, .inl (cI, 9, .inl mg)), (qpa, .inl (cI, 6, .inl mp)), (qne, .inl (cI, 6, .inl mx)), (qre, .inl (cI, 6, .inl mr))] := hD
      refine lv_aload_n hx hb d_M_turn_37 rfl (lv_at hl 0 rfl) ?_
      refine lv_iload_n hx hb d_M_turn_38 rfl (lv_at hl 1 rfl) ?_
      refine vz_ro (va_runV (As := [.int u]) (rest := []) ⟨hx, hb, hml, hown, hT⟩ (c_M_reach l dC dI cI cZ qo qha qkn qtr qhv qbe qlo qhi qpa qne qre mk mt mv mb ml mg mp mx mr mc Q n (upd mh ((6 * u) + v).toNatClampNeg (vp_nar .boolean 0)) u (by omega)) (vz_cwV (n := 1) hT wd_link_M_60 wd_inst_M_reach wd_sel_M_reach wd_ini_M wd_code_M_reach (by decide +kernel) ⟨Nat.le_of_ble_eq_true rfl, Nat.le_of_ble_eq_true rfl⟩) (vz_pv (q0 := 0) (ci := 3) (q := ("ArrowClassesModel", TM, 13)) hN hK hP [0, 1, 2, 3, 4, 5, 6, 7, 8, 9, 10] rfl rfl rfl) rfl rfl hl.1 rfl (lv_room (Nat.le_of_ble_eq_true rfl)) d_M_turn_39 ⟨Nat.zero_le _, Nat.zero_le _⟩) ?_
      refine lv_iload_n hx hb d_M_turn_42 rfl (lv_at hl 2 rfl) ?_
      refine lv_ishr hx hb d_M_turn_43 ?_
      refine lv_iconst (v := 1) hx hb d_M_turn_44 (by decide) ?_
      refine lv_iand hx hb d_M_turn_45 ?_
      refine lv_iconst (v := 1) hx hb d_M_turn_46 (by decide) ?_
      refine lv_icmp_ne (tgt := 64) hx hb d_M_turn_47 (by decide) (fun h3 => ?_) (fun h3 => ?_)
      ·
        refine lv_aload_n hx hb d_M_turn_64 rfl (lv_at hl 0 rfl) ?_
        refine va_get (D := (dC, dI)) (ci := 3) (v := .ref qha) (C := "ArrowClassesModel") (T := TM) (N := 13) hx hb hT inM hown hK hP 0 rfl rfl 1 (by decide) (hT _ wd_fld_M_7) (fun _ h9 => h9) rfl d_M_turn_65 ?_
        refine lv_bipush (v := 6) hx hb d_M_turn_68 (by decide) ?_
        refine lv_iload_n hx hb d_M_turn_70 rfl (lv_at hl 2 rfl) ?_
        refine lv_imul hx hb d_M_turn_71 ?_
        refine lv_iload_n hx hb d_M_turn_72 rfl (lv_at hl 1 rfl) ?_
        refine lv_iadd hx hb d_M_turn_73 ?_
        refine lv_iconst (v := 1) hx hb d_M_turn_74 (by decide) ?_
        refine va_zast (D := (dC, dI)) hx hb hK hP hD hS 1 1 rfl rfl (vz_ix hn (by assumption) (by assumption)) d_M_turn_75 (fun H locs hP hD hS => ?_)
        have hP : va_P (dC, dI) vwCl [(qo, .inr (3, [.int (nI n), .ref qha, .ref qkn, .ref qtr, .int mc, .ref qhv, .ref qbe, .int (nI Q), .ref qlo, .ref qhi, .ref qpa, .ref qne, .ref qre])), (qha, .inl (cZ, 36, .inl (upd (upd mh ((6 * u) + v).toNatClampNeg (vp_nar .boolean 0)) ((6 * v) + u).toNatClampNeg (vp_nar .boolean 1)))), (qkn, .inl (cZ, 36, .inl mk)), (qtr, .inl (cZ, 36, .inl mt)), (qhv, .inl (cI, 36, .inl mv)), (qbe, .inl (cZ, 36, .inl mb)), (qlo, .inl (cI, 9, .inl ml)), (qhi, .inl (cI, 9, .inl mg)), (qpa, .inl (cI, 6, .inl mp)), (qne, .inl (cI, 6, .inl mx)), (qre, .inl (cI, 6, .inl mr))] H := hP
        have hD : va_D (va_A [(qo, .inr (3, [.int (nI n), .ref qha, .ref qkn, .ref qtr, .int mc, .ref qhv, .ref qbe, .int (nI Q), .ref qlo, .ref qhi, .ref qpa, .ref qne, .ref qre])), (qha, .inl (cZ, 36, .inl mh)), (qkn, .inl (cZ, 36, .inl mk)), (qtr, .inl (cZ, 36, .inl mt)), (qhv, .inl (cI, 36, .inl mv)), (qbe, .inl (cZ, 36, .inl mb)), (qlo, .inl (cI, 9, .inl ml)), (qhi, .inl (cI, 9, .inl mg)), (qpa, .inl (cI, 6, .inl mp)), (qne, .inl (cI, 6, .inl mx)), (qre, .inl (cI, 6, .inl mr))] s.heap.size) [(qo, .inr (3, [.int (nI n), .ref qha, .ref qkn, .ref qtr, .int mc, .ref qhv, .ref qbe, .int (nI Q), .ref qlo, .ref qhi, .ref qpa, .ref qne, .ref qre])), (qha, .inl (cZ, 36, .inl (upd (upd mh ((6 * u) + v).toNatClampNeg (vp_nar .boolean 0)) ((6 * v) + u).toNatClampNeg (vp_nar .boolean 1)))), (qkn, .inl (cZ, 36, .inl mk)), (qtr, .inl (cZ, 36, .inl mt)), (qhv, .inl (cI, 36, .inl mv)), (qbe, .inl (cZ, 36, .inl mb)), (qlo, .inl (cI, 9, .inl ml)), (qhi, .inl (cI, 9, .inl mg)), (qpa, .inl (cI, 6, .inl mp)), (qne, .inl (cI, 6, .inl mx)), (qre, .inl (cI, 6, .inl mr))] := hD
        refine lv_aload_n hx hb d_M_turn_76 rfl (lv_at hl 0 rfl) ?_
        refine vz_rv (wr := []) (w1 := [(qo, .inr (3, [.int (nI n), .ref qha, .ref qkn, .ref qtr, .int mc, .ref qhv, .ref qbe, .int (nI Q), .ref qlo, .ref qhi, .ref qpa, .ref qne, .ref qre])), (qha, .inl (cZ, 36, .inl (upd (upd mh ((6 * u) + v).toNatClampNeg (vp_nar .boolean 0)) ((6 * v) + u).toNatClampNeg (vp_nar .boolean 1)))), (qkn, .inl (cZ, 36, .inl (mForgetAll mk))), (qtr, .inl (cZ, 36, .inl mt)), (qhv, .inl (cI, 36, .inl mv)), (qbe, .inl (cZ, 36, .inl mb)), (qlo, .inl (cI, 9, .inl ml)), (qhi, .inl (cI, 9, .inl mg)), (qpa, .inl (cI, 6, .inl mp)), (qne, .inl (cI, 6, .inl mx)), (qre, .inl (cI, 6, .inl mr))]) (va_runV (As := []) (rest := []) ⟨hx, hb, hml, hown, hT⟩ (c_M_forgetAll l dC dI cI cZ qo qha qkn qtr qhv qbe qlo qhi qpa qne qre n (upd (upd mh ((6 * u) + v).toNatClampNeg (vp_nar .boolean 0)) ((6 * v) + u).toNatClampNeg (vp_nar .boolean 1)) mt mv mb ml mg mp mx mr mc Q mk H.size) (vz_cwV (n := 0) hT wd_link_M_64 wd_inst_M_forgetAll wd_sel_M_forgetAll wd_ini_M wd_code_M_forgetAll (by decide +kernel) ⟨Nat.le_of_ble_eq_true rfl, Nat.le_of_ble_eq_true rfl⟩) (vz_pvw (q0 := 0) (ci := 3) (q := ("ArrowClassesModel", TM, 13)) hN hK hP hD [0, 1, 2, 3, 4, 5, 6, 7, 8, 9, 10] rfl (by decide) rfl rfl rfl) rfl rfl hl.1 rfl (lv_room (Nat.le_of_ble_eq_true rfl)) d_M_turn_77 ⟨Nat.zero_le _, Nat.zero_le _⟩) hP hD hS hA [0, 1, 2, 3, 4, 5, 6, 7, 8, 9, 10] [] rfl rfl (by decide) (by decide) (fun H locs hP hD hS => ?_)
        have hP : va_P (dC, dI) vwCl [(qo, .inr (3, [.int (nI n), .ref qha, .ref qkn, .ref qtr, .int mc, .ref qhv, .ref qbe, .int (nI Q), .ref qlo, .ref qhi, .ref qpa, .ref qne, .ref qre])), (qha, .inl (cZ, 36, .inl (upd (upd mh ((6 * u) + v).toNatClampNeg (vp_nar .boolean 0)) ((6 * v) + u).toNatClampNeg (vp_nar .boolean 1)))), (qkn, .inl (cZ, 36, .inl (mForgetAll mk))), (qtr, .inl (cZ, 36, .inl mt)), (qhv, .inl (cI, 36, .inl mv)), (qbe, .inl (cZ, 36, .inl mb)), (qlo, .inl (cI, 9, .inl ml)), (qhi, .inl (cI, 9, .inl mg)), (qpa, .inl (cI, 6, .inl mp)), (qne, .inl (cI, 6, .inl mx)), (qre, .inl (cI, 6, .inl mr))] H := hP.sub [0, 1, 2, 3, 4, 5, 6, 7, 8, 9, 10] rfl
        have hD : va_D (va_A [(qo, .inr (3, [.int (nI n), .ref qha, .ref qkn, .ref qtr, .int mc, .ref qhv, .ref qbe, .int (nI Q), .ref qlo, .ref qhi, .ref qpa, .ref qne, .ref qre])), (qha, .inl (cZ, 36, .inl mh)), (qkn, .inl (cZ, 36, .inl mk)), (qtr, .inl (cZ, 36, .inl mt)), (qhv, .inl (cI, 36, .inl mv)), (qbe, .inl (cZ, 36, .inl mb)), (qlo, .inl (cI, 9, .inl ml)), (qhi, .inl (cI, 9, .inl mg)), (qpa, .inl (cI, 6, .inl mp)), (qne, .inl (cI, 6, .inl mx)), (qre, .inl (cI, 6, .inl mr))] s.heap.size) [(qo, .inr (3, [.int (nI n), .ref qha, .ref qkn, .ref qtr, .int mc, .ref qhv, .ref qbe, .int (nI Q), .ref qlo, .ref qhi, .ref qpa, .ref qne, .ref qre])), (qha, .inl (cZ, 36, .inl (upd (upd mh ((6 * u) + v).toNatClampNeg (vp_nar .boolean 0)) ((6 * v) + u).toNatClampNeg (vp_nar .boolean 1)))), (qkn, .inl (cZ, 36, .inl (mForgetAll mk))), (qtr, .inl (cZ, 36, .inl mt)), (qhv, .inl (cI, 36, .inl mv)), (qbe, .inl (cZ, 36, .inl mb)), (qlo, .inl (cI, 9, .inl ml)), (qhi, .inl (cI, 9, .inl mg)), (qpa, .inl (cI, 6, .inl mp)), (qne, .inl (cI, 6, .inl mx)), (qre, .inl (cI, 6, .inl mr))] := hD.sub [0, 1, 2, 3, 4, 5, 6, 7, 8, 9, 10] (by decide) rfl
        refine lv_iconst (v := 1) hx hb d_M_turn_80 (by decide) ?_
        have hF : (mTurn n mh mk u v) = (1, upd (upd mh ((6 * u) + v).toNatClampNeg (vp_nar .boolean 0)) ((6 * v) + u).toNatClampNeg (vp_nar .boolean 1), (mForgetAll mk)) := (by rw [mTurn, if_neg h1, if_neg h2, if_neg h3])
        exact W.zret hx hb hr (by decide) (fun t ht hW => ⟨⟨(1 : Int32), (), rfl, by rw [hF], by rw [hF, ht]; exact hP, va_K.moved hW.alike hK, by rw [hF]; exact hD⟩, hS.F ht⟩) hS.2.2 d_M_turn_81
      ·
        refine lv_aload_n hx hb d_M_turn_50 rfl (lv_at hl 0 rfl) ?_
        refine va_get (D := (dC, dI)) (ci := 3) (v := .ref qha) (C := "ArrowClassesModel") (T := TM) (N := 13) hx hb hT inM hown hK hP 0 rfl rfl 1 (by decide) (hT _ wd_fld_M_7) (fun _ h9 => h9) rfl d_M_turn_51 ?_
        refine lv_bipush (v := 6) hx hb d_M_turn_54 (by decide) ?_
        refine lv_iload_n hx hb d_M_turn_56 rfl (lv_at hl 1 rfl) ?_
        refine lv_imul hx hb d_M_turn_57 ?_
        refine lv_iload_n hx hb d_M_turn_58 rfl (lv_at hl 2 rfl) ?_
        refine lv_iadd hx hb d_M_turn_59 ?_
        refine lv_iconst (v := 1) hx hb d_M_turn_60 (by decide) ?_
        refine va_zast (D := (dC, dI)) hx hb hK hP hD hS 1 1 rfl rfl (vz_ix hn (by assumption) (by assumption)) d_M_turn_61 (fun H locs hP hD hS => ?_)
        have hP : va_P (dC, dI) vwCl [(qo, .inr (3, [.int (nI n), .ref qha, .ref qkn, .ref qtr, .int mc, .ref qhv, .ref qbe, .int (nI Q), .ref qlo, .ref qhi, .ref qpa, .ref qne, .ref qre])), (qha, .inl (cZ, 36, .inl (upd (upd mh ((6 * u) + v).toNatClampNeg (vp_nar .boolean 0)) ((6 * u) + v).toNatClampNeg (vp_nar .boolean 1)))), (qkn, .inl (cZ, 36, .inl mk)), (qtr, .inl (cZ, 36, .inl mt)), (qhv, .inl (cI, 36, .inl mv)), (qbe, .inl (cZ, 36, .inl mb)), (qlo, .inl (cI, 9, .inl ml)), (qhi, .inl (cI, 9, .inl mg)), (qpa, .inl (cI, 6, .inl mp)), (qne, .inl (cI, 6, .inl mx)), (qre, .inl (cI, 6, .inl mr))] H := hP
        have hD : va_D (va_A [(qo, .inr (3, [.int (nI n), .ref qha, .ref qkn, .ref qtr, .int mc, .ref qhv, .ref qbe, .int (nI Q), .ref qlo, .ref qhi, .ref qpa, .ref qne, .ref qre])), (qha, .inl (cZ, 36, .inl mh)), (qkn, .inl (cZ, 36, .inl mk)), (qtr, .inl (cZ, 36, .inl mt)), (qhv, .inl (cI, 36, .inl mv)), (qbe, .inl (cZ, 36, .inl mb)), (qlo, .inl (cI, 9, .inl ml)), (qhi, .inl (cI, 9, .inl mg)), (qpa, .inl (cI, 6, .inl mp)), (qne, .inl (cI, 6, .inl mx)), (qre, .inl (cI, 6, .inl mr))] s.heap.size) [(qo, .inr (3, [.int (nI n), .ref qha, .ref qkn, .ref qtr, .int mc, .ref qhv, .ref qbe, .int (nI Q), .ref qlo, .ref qhi, .ref qpa, .ref qne, .ref qre])), (qha, .inl (cZ, 36, .inl (upd (upd mh ((6 * u) + v).toNatClampNeg (vp_nar .boolean 0)) ((6 * u) + v).toNatClampNeg (vp_nar .boolean 1)))), (qkn, .inl (cZ, 36, .inl mk)), (qtr, .inl (cZ, 36, .inl mt)), (qhv, .inl (cI, 36, .inl mv)), (qbe, .inl (cZ, 36, .inl mb)), (qlo, .inl (cI, 9, .inl ml)), (qhi, .inl (cI, 9, .inl mg)), (qpa, .inl (cI, 6, .inl mp)), (qne, .inl (cI, 6, .inl mx)), (qre, .inl (cI, 6, .inl mr))] := hD
        refine lv_iconst (v := 0) hx hb d_M_turn_62 (by decide) ?_
        have hF : (mTurn n mh mk u v) = (0, upd (upd mh ((6 * u) + v).toNatClampNeg (vp_nar .boolean 0)) ((6 * u) + v).toNatClampNeg (vp_nar .boolean 1), mk) := (by rw [mTurn, if_neg h1, if_neg h2, if_pos h3])
        exact W.zret hx hb hr (by decide) (fun t ht hW => ⟨⟨(0 : Int32), (), rfl, by rw [hF], by rw [hF, ht]; exact hP, va_K.moved hW.alike hK, by rw [hF]; exact hD⟩, hS.F ht⟩) hS.2.2 d_M_turn_63
    ·
      refine lv_iconst (v := 0) hx hb d_M_turn_23 (by decide) ?_
      have hF : (mTurn n mh mk u v) = (0, mh, mk) := (by rw [mTurn, if_neg h1, if_pos h2])
      exact W.zret hx hb hr (by decide) (fun t ht hW => ⟨⟨(0 : Int32), (), rfl, by rw [hF], by rw [hF, ht]; exact hP, va_K.moved hW.alike hK, by rw [hF]; exact hD⟩, hS.F ht⟩) hS.2.2 d_M_turn_24
set_option maxRecDepth 100000 in
set_option maxHeartbeats 4000000 in
theorem c_M_drawn (l : Launch) (dC : Nat → ClassId) (dI : Nat → Nat → Nat) (cI cZ : ClassId) (qo qha qkn qtr qhv qbe qlo qhi qpa qne qre : Nat) (mk : Nat → Int32) (mt : Nat → Int32) (mv : Nat → Int32) (mb : Nat → Int32) (ml : Nat → Int32) (mg : Nat → Int32) (mp : Nat → Int32) (mx : Nat → Int32) (mr : Nat → Int32) (mc : Int32) (Q : Nat) (n : Nat) (mh : Nat → Int32) (u : Int32) (v : Int32) (hn : n ≤ 6) : Met l y_M_drawn w_M_drawn rm_M_drawn (va_Pc [.ref qo, .int u, .int v] (vz_B (dC, dI) vwCl [(qo, .inr (3, [.int (nI n), .ref qha, .ref qkn, .ref qtr, .int mc, .ref qhv, .ref qbe, .int (nI Q), .ref qlo, .ref qhi, .ref qpa, .ref qne, .ref qre])), (qha, .inl (cZ, 36, .inl mh)), (qkn, .inl (cZ, 36, .inl mk)), (qtr, .inl (cZ, 36, .inl mt)), (qhv, .inl (cI, 36, .inl mv)), (qbe, .inl (cZ, 36, .inl mb)), (qlo, .inl (cI, 9, .inl ml)), (qhi, .inl (cI, 9, .inl mg)), (qpa, .inl (cI, 6, .inl mp)), (qne, .inl (cI, 6, .inl mx)), (qre, .inl (cI, 6, .inl mr))] [(cI, .int), (cZ, .boolean)])) (QcRead (mDrawn n mh u v)) 0 0 (fun _ => False) := by
  refine Met.ofW (cc := b_M_drawn) (maxL := 3) (ret := (some .boolean)) (by decide) rfl ?_
  intro p e s m args below meth c s₁ B hml hv
  obtain ⟨rfl, hP, hK, hN⟩ := hv
  have hx := B.exec
  have hb := B.bytes
  have hr := B.returns
  have hts := atoms_spec (ws := w_M_drawn) B.pre
  have hT : ∀ w ∈ vzB, w.before ([.ref qo, .int u, .int v] : List Value).toArray s = true := fun w h => hts w (List.mem_cons_of_mem _ h)
  have hown : s.vm.findClass "ArrowClassesModel" = some m.cls := findClass_of_methodNamed B.named
  have hlocks := B.notSynchronized
  have hl := lv_entry ([.ref qo, .int u, .int v]) (n := 3) (Nat.le_of_ble_eq_true rfl)
  rw [lg_entry_eq]
  generalize (lg_sl ([.ref qo, .int u, .int v]) ++ List.replicate (3 - (lg_sl ([.ref qo, .int u, .int v])).length) Slot.unset).toArray = ls at hl ⊢
  have hl : lv_has ls 3 [(0, .ref qo), (1, .int u), (2, .int v)] := hl
  refine lv_aload_n hx hb d_M_drawn_0 rfl (lv_at hl 0 rfl) ?_
  refine lv_iload_n hx hb d_M_drawn_1 rfl (lv_at hl 1 rfl) ?_
  refine lv_iload_n hx hb d_M_drawn_2 rfl (lv_at hl 2 rfl) ?_
  refine vz_ro (va_runV (As := [.int u, .int v]) (rest := []) ⟨hx, hb, hml, hown, hT⟩ (c_M_areNodes l dC dI cI cZ qo qha qkn qtr qhv qbe qlo qhi qpa qne qre mh mk mt mv mb ml mg mp mx mr mc Q n u v) (vz_cwV (n := 2) hT wd_link_M_49 wd_inst_M_areNodes wd_sel_M_areNodes wd_ini_M wd_code_M_areNodes (by decide +kernel) ⟨Nat.le_of_ble_eq_true rfl, Nat.le_of_ble_eq_true rfl⟩) (vz_pv (q0 := 0) (ci := 3) (q := ("ArrowClassesModel", TM, 13)) hN hK hP [0, 1, 2, 3, 4, 5, 6, 7, 8, 9, 10] rfl rfl rfl) rfl rfl hl.1 rfl (lv_room (Nat.le_of_ble_eq_true rfl)) d_M_drawn_3 ⟨Nat.zero_le _, Nat.zero_le _⟩) ?_
  refine lv_if_eq (tgt := 27) hx hb d_M_drawn_6 (by decide) (fun h1 => ?_) (fun h1 => ?_)
  ·
    refine lv_iconst (v := 0) hx hb d_M_drawn_27 (by decide) ?_
    exact W.zret hx hb hr (by decide) (fun t ht hW => ⟨by rw [show (mDrawn n mh u v) = (0 : Int32) from (by rw [mDrawn, if_pos h1])], ht⟩) (fun q h => absurd h List.not_mem_nil) d_M_drawn_28
  ·
    obtain ⟨hvu, hvv, huv⟩ := mPair_in hn h1
    refine lv_aload_n hx hb d_M_drawn_9 rfl (lv_at hl 0 rfl) ?_
    refine va_get (D := (dC, dI)) (ci := 3) (v := .ref qha) (C := "ArrowClassesModel") (T := TM) (N := 13) hx hb hT inM hown hK hP 0 rfl rfl 1 (by decide) (hT _ wd_fld_M_7) (fun _ h9 => h9) rfl d_M_drawn_10 ?_
    refine lv_bipush (v := 6) hx hb d_M_drawn_13 (by decide) ?_
    refine lv_iload_n hx hb d_M_drawn_15 rfl (lv_at hl 1 rfl) ?_
    refine lv_imul hx hb d_M_drawn_16 ?_
    refine lv_iload_n hx hb d_M_drawn_17 rfl (lv_at hl 2 rfl) ?_
    refine lv_iadd hx hb d_M_drawn_18 ?_
    refine va_zald (D := (dC, dI)) hx hb hK hP 1 1 rfl rfl (vz_ix hn (by assumption) (by assumption)) d_M_drawn_19 ?_
    refine lv_if_eq (tgt := 27) hx hb d_M_drawn_20 (by decide) (fun h2 => ?_) (fun h2 => ?_)
    ·
      refine lv_iconst (v := 0) hx hb d_M_drawn_27 (by decide) ?_
      exact W.zret hx hb hr (by decide) (fun t ht hW => ⟨by rw [show (mDrawn n mh u v) = (0 : Int32) from (by rw [mDrawn, if_neg h1, if_pos h2])], ht⟩) (fun q h => absurd h List.not_mem_nil) d_M_drawn_28
    ·
      refine lv_iconst (v := 1) hx hb d_M_drawn_23 (by decide) ?_
      refine lv_goto (tgt := 28) hx hb d_M_drawn_24 (by decide) ?_
      exact W.zret hx hb hr (by decide) (fun t ht hW => ⟨by rw [show (mDrawn n mh u v) = (1 : Int32) from (by rw [mDrawn, if_neg h1, if_neg h2])], ht⟩) (fun q h => absurd h List.not_mem_nil) d_M_drawn_28
set_option maxRecDepth 100000 in
set_option maxHeartbeats 4000000 in
theorem c_M_parents (l : Launch) (dC : Nat → ClassId) (dI : Nat → Nat → Nat) (cI cZ : ClassId) (qo qha qkn qtr qhv qbe qlo qhi qpa qne qre : Nat) (mk : Nat → Int32) (mt : Nat → Int32) (mv : Nat → Int32) (mb : Nat → Int32) (ml : Nat → Int32) (mg : Nat → Int32) (mp : Nat → Int32) (mx : Nat → Int32) (mr : Nat → Int32) (mc : Int32) (Q : Nat) (n : Nat) (mh : Nat → Int32) (v : Int32) (hn : n ≤ 6) : Met l y_M_parents w_M_parents rm_M_parents (va_Pc [.ref qo, .int v] (vz_B (dC, dI) vwCl [(qo, .inr (3, [.int (nI n), .ref qha, .ref qkn, .ref qtr, .int mc, .ref qhv, .ref qbe, .int (nI Q), .ref qlo, .ref qhi, .ref qpa, .ref qne, .ref qre])), (qha, .inl (cZ, 36, .inl mh)), (qkn, .inl (cZ, 36, .inl mk)), (qtr, .inl (cZ, 36, .inl mt)), (qhv, .inl (cI, 36, .inl mv)), (qbe, .inl (cZ, 36, .inl mb)), (qlo, .inl (cI, 9, .inl ml)), (qhi, .inl (cI, 9, .inl mg)), (qpa, .inl (cI, 6, .inl mp)), (qne, .inl (cI, 6, .inl mx)), (qre, .inl (cI, 6, .inl mr))] [(cI, .int), (cZ, .boolean)])) (QcRead (mParents n mh v)) 0 0 (fun _ => False) := by
  refine Met.ofW (cc := b_M_parents) (maxL := 4) (ret := (some .int)) (by decide) rfl ?_
  intro p e s m args below meth c s₁ B hml hv
  obtain ⟨rfl, hP, hK, hN⟩ := hv
  have hx := B.exec
  have hb := B.bytes
  have hr := B.returns
  have hts := atoms_spec (ws := w_M_parents) B.pre
  have hT : ∀ w ∈ vzB, w.before ([.ref qo, .int v] : List Value).toArray s = true := fun w h => hts w (List.mem_cons_of_mem _ h)
  have hown : s.vm.findClass "ArrowClassesModel" = some m.cls := findClass_of_methodNamed B.named
  have hlocks := B.notSynchronized
  have hl := lv_entry ([.ref qo, .int v]) (n := 4) (Nat.le_of_ble_eq_true rfl)
  rw [lg_entry_eq]
  generalize (lg_sl ([.ref qo, .int v]) ++ List.replicate (4 - (lg_sl ([.ref qo, .int v])).length) Slot.unset).toArray = ls at hl ⊢
  have hl : lv_has ls 4 [(0, .ref qo), (1, .int v)] := hl
  refine lv_aload_n hx hb d_M_parents_0 rfl (lv_at hl 0 rfl) ?_
  refine lv_iload_n hx hb d_M_parents_1 rfl (lv_at hl 1 rfl) ?_
  refine vz_ro (va_runV (As := [.int v]) (rest := []) ⟨hx, hb, hml, hown, hT⟩ (c_M_isNode l dC dI cI cZ qo qha qkn qtr qhv qbe qlo qhi qpa qne qre mh mk mt mv mb ml mg mp mx mr mc Q n v) (vz_cwV (n := 1) hT wd_link_M_45 wd_inst_M_isNode wd_sel_M_isNode wd_ini_M wd_code_M_isNode (by decide +kernel) ⟨Nat.le_of_ble_eq_true rfl, Nat.le_of_ble_eq_true rfl⟩) (vz_pv (q0 := 0) (ci := 3) (q := ("ArrowClassesModel", TM, 13)) hN hK hP [0, 1, 2, 3, 4, 5, 6, 7, 8, 9, 10] rfl rfl rfl) rfl rfl hl.1 rfl (lv_room (Nat.le_of_ble_eq_true rfl)) d_M_parents_2 ⟨Nat.zero_le _, Nat.zero_le _⟩) ?_
  refine lv_if_ne (tgt := 10) hx hb d_M_parents_5 (by decide) (fun h1 => ?_) (fun h1 => ?_)
  ·
    have hvv := mNode_in hn h1
    refine lv_iconst (v := 0) hx hb d_M_parents_10 (by decide) ?_
    refine lv_istore_n hx hb d_M_parents_11 rfl hl (by decide) rfl (fun ls hl => ?_)
    have hl : lv_has ls 4 [(2, .int 0), (0, .ref qo), (1, .int v)] := hl
    refine lv_iconst (v := 0) hx hb d_M_parents_12 (by decide) ?_
    refine vz_top (y := nI 0) (by decide) ?_
    refine lv_istore_n hx hb d_M_parents_13 rfl hl (by decide) rfl (fun ls hl => ?_)
    have hl : lv_has ls 4 [(3, .int (nI 0)), (2, .int 0), (0, .ref qo), (1, .int v)] := hl
    have lp_14 : ∀ (k_14 i_14 : Nat) (st_14 : Int32) (ls : Array Slot), i_14 + k_14 = n → mParents_L14 n mh v k_14 i_14 st_14 = (mParents n mh v) → lv_has ls 4 [(3, .int (nI i_14)), (2, .int st_14), (0, .ref qo), (1, .int v)] → W p l e (headSpec w_M_parents rm_M_parents).room s m ([.ref qo, .int v] : List Value).toArray below meth c s.heap [] 0 0 (MQ below (QcRead (mParents n mh v)) ([.ref qo, .int v] : List Value).toArray s 0 0 (fun _ => False)) (F0 m 14 ls []) := by
      intro k_14
      induction k_14 with
      | zero =>
        intro i_14 st_14 ls hik_14 hfin_14 hl
        refine lv_iload_n hx hb d_M_parents_14 rfl (lv_at hl 0 rfl) ?_
        refine lv_aload_n hx hb d_M_parents_15 rfl (lv_at hl 2 rfl) ?_
        refine va_get (D := (dC, dI)) (ci := 3) (v := .int (nI n)) (C := "ArrowClassesModel") (T := TM) (N := 13) hx hb hT inM hown hK hP 0 rfl rfl 0 (by decide) (hT _ wd_fld_M_41) (fun _ h9 => h9) rfl d_M_parents_16 ?_
        refine lv_icmp_ge (tgt := 52) hx hb d_M_parents_19 (by decide) (fun _ => ?_) (fun h2 => by rw [nI_leI (by omega) (by omega)] at h2; omega)
        refine lv_iload_n hx hb d_M_parents_52 rfl (lv_at hl 1 rfl) ?_
        exact W.iret hx hb hr (fun t ht hW => ⟨by rw [show (mParents n mh v) = st_14 from (hfin_14.symm.trans (by rw [mParents_L14]))], ht⟩) (fun q h => absurd h List.not_mem_nil) d_M_parents_53
      | succ k_14 ih_14 =>
        intro i_14 st_14 ls hik_14 hfin_14 hl
        refine lv_iload_n hx hb d_M_parents_14 rfl (lv_at hl 0 rfl) ?_
        refine lv_aload_n hx hb d_M_parents_15 rfl (lv_at hl 2 rfl) ?_
        refine va_get (D := (dC, dI)) (ci := 3) (v := .int (nI n)) (C := "ArrowClassesModel") (T := TM) (N := 13) hx hb hT inM hown hK hP 0 rfl rfl 0 (by decide) (hT _ wd_fld_M_41) (fun _ h9 => h9) rfl d_M_parents_16 ?_
        refine lv_icmp_ge (tgt := 52) hx hb d_M_parents_19 (by decide) (fun h3 => by rw [nI_leI (by omega) (by omega)] at h3; omega) (fun _ => ?_)
        refine lv_aload_n hx hb d_M_parents_22 rfl (lv_at hl 2 rfl) ?_
        refine va_get (D := (dC, dI)) (ci := 3) (v := .ref qha) (C := "ArrowClassesModel") (T := TM) (N := 13) hx hb hT inM hown hK hP 0 rfl rfl 1 (by decide) (hT _ wd_fld_M_7) (fun _ h9 => h9) rfl d_M_parents_23 ?_
        refine lv_bipush (v := 6) hx hb d_M_parents_26 (by decide) ?_
        refine lv_iload_n hx hb d_M_parents_28 rfl (lv_at hl 0 rfl) ?_
        refine lv_imul hx hb d_M_parents_29 ?_
        refine lv_iload_n hx hb d_M_parents_30 rfl (lv_at hl 3 rfl) ?_
        refine lv_iadd hx hb d_M_parents_31 ?_
        refine va_zald (D := (dC, dI)) hx hb hK hP 1 1 rfl rfl (vz_ix hn (vp_in_nI (by omega) (by omega)) (by assumption)) d_M_parents_32 ?_
        refine lv_if_eq (tgt := 44) hx hb d_M_parents_33 (by decide) (fun h4 => ?_) (fun h4 => ?_)
        ·
          refine lv_iload_n hx hb d_M_parents_44 rfl (lv_at hl 1 rfl) ?_
          refine lv_istore_n hx hb d_M_parents_45 rfl hl (by decide) rfl (fun ls hl => ?_)
          have hl : lv_has ls 4 [(2, .int st_14), (3, .int (nI i_14)), (0, .ref qo), (1, .int v)] := hl
          refine lv_iinc (k := 1) (v := nI (i_14 + 1)) hx hb d_M_parents_46 hl rfl (vz_inc i_14) (by decide) rfl (fun ls hl => ?_)
          have hl : lv_has ls 4 [(3, .int (nI (i_14 + 1))), (2, .int st_14), (0, .ref qo), (1, .int v)] := hl
          refine lv_goto (tgt := 14) hx hb d_M_parents_49 (by decide) ?_
          exact ih_14 (i_14 + 1) st_14 ls (by omega) (by rw [mParents_L14, if_pos h4] at hfin_14; exact hfin_14) (lv_sub hl [0, 1, 2, 3] rfl)
        ·
          refine lv_iload_n hx hb d_M_parents_36 rfl (lv_at hl 1 rfl) ?_
          refine lv_iconst (v := 1) hx hb d_M_parents_37 (by decide) ?_
          refine lv_iload_n hx hb d_M_parents_38 rfl (lv_at hl 0 rfl) ?_
          refine lv_ishl hx hb d_M_parents_39 ?_
          refine lv_iadd hx hb d_M_parents_40 ?_
          refine lv_goto (tgt := 45) hx hb d_M_parents_41 (by decide) ?_
          refine lv_istore_n hx hb d_M_parents_45 rfl hl (by decide) rfl (fun ls hl => ?_)
          have hl : lv_has ls 4 [(2, .int (st_14 + (1 <<< ((nI i_14) &&& 31)))), (3, .int (nI i_14)), (0, .ref qo), (1, .int v)] := hl
          refine lv_iinc (k := 1) (v := nI (i_14 + 1)) hx hb d_M_parents_46 hl rfl (vz_inc i_14) (by decide) rfl (fun ls hl => ?_)
          have hl : lv_has ls 4 [(3, .int (nI (i_14 + 1))), (2, .int (st_14 + (1 <<< ((nI i_14) &&& 31)))), (0, .ref qo), (1, .int v)] := hl
          refine lv_goto (tgt := 14) hx hb d_M_parents_49 (by decide) ?_
          exact ih_14 (i_14 + 1) (st_14 + (1 <<< ((nI i_14) &&& 31))) ls (by omega) (by rw [mParents_L14, if_neg h4] at hfin_14; exact hfin_14) (lv_sub hl [0, 1, 2, 3] rfl)
    exact lp_14 n 0 0 _ (by omega) (by rw [mParents, if_neg h1]) (lv_sub hl [0, 1, 2, 3] rfl)
  ·
    refine lv_iconst (v := -1) hx hb d_M_parents_8 (by decide) ?_
    exact W.iret hx hb hr (fun t ht hW => ⟨by rw [show (mParents n mh v) = (-1 : Int32) from (by rw [mParents, if_pos h1])], ht⟩) (fun q h => absurd h List.not_mem_nil) d_M_parents_9
set_option maxRecDepth 100000 in
set_option maxHeartbeats 4000000 in
theorem c_M_reached (l : Launch) (dC : Nat → ClassId) (dI : Nat → Nat → Nat) (cI cZ : ClassId) (qo qha qkn qtr qhv qbe qlo qhi qpa qne qre : Nat) (mk : Nat → Int32) (mt : Nat → Int32) (mv : Nat → Int32) (mb : Nat → Int32) (ml : Nat → Int32) (mg : Nat → Int32) (mp : Nat → Int32) (mx : Nat → Int32) (mr : Nat → Int32) (mc : Int32) (Q : Nat) (n : Nat) (mh : Nat → Int32) (u : Int32) (hn : n ≤ 6) : Met l y_M_reached w_M_reached rm_M_reached (va_Pc [.ref qo, .int u] (vz_B (dC, dI) vwCl [(qo, .inr (3, [.int (nI n), .ref qha, .ref qkn, .ref qtr, .int mc, .ref qhv, .ref qbe, .int (nI Q), .ref qlo, .ref qhi, .ref qpa, .ref qne, .ref qre])), (qha, .inl (cZ, 36, .inl mh)), (qkn, .inl (cZ, 36, .inl mk)), (qtr, .inl (cZ, 36, .inl mt)), (qhv, .inl (cI, 36, .inl mv)), (qbe, .inl (cZ, 36, .inl mb)), (qlo, .inl (cI, 9, .inl ml)), (qhi, .inl (cI, 9, .inl mg)), (qpa, .inl (cI, 6, .inl mp)), (qne, .inl (cI, 6, .inl mx)), (qre, .inl (cI, 6, .inl mr))] [(cI, .int), (cZ, .boolean)])) (QcRead (mReached n mh u)) 0 0 (fun _ => False) := by
  refine Met.ofW (cc := b_M_reached) (maxL := 2) (ret := (some .int)) (by decide) rfl ?_
  intro p e s m args below meth c s₁ B hml hv
  obtain ⟨rfl, hP, hK, hN⟩ := hv
  have hx := B.exec
  have hb := B.bytes
  have hr := B.returns
  have hts := atoms_spec (ws := w_M_reached) B.pre
  have hT : ∀ w ∈ vzB, w.before ([.ref qo, .int u] : List Value).toArray s = true := fun w h => hts w (List.mem_cons_of_mem _ h)
  have hown : s.vm.findClass "ArrowClassesModel" = some m.cls := findClass_of_methodNamed B.named
  have hlocks := B.notSynchronized
  have hl := lv_entry ([.ref qo, .int u]) (n := 2) (Nat.le_of_ble_eq_true rfl)
  rw [lg_entry_eq]
  generalize (lg_sl ([.ref qo, .int u]) ++ List.replicate (2 - (lg_sl ([.ref qo, .int u])).length) Slot.unset).toArray = ls at hl ⊢
  have hl : lv_has ls 2 [(0, .ref qo), (1, .int u)] := hl
  refine lv_aload_n hx hb d_M_reached_0 rfl (lv_at hl 0 rfl) ?_
  refine lv_iload_n hx hb d_M_reached_1 rfl (lv_at hl 1 rfl) ?_
  refine vz_ro (va_runV (As := [.int u]) (rest := []) ⟨hx, hb, hml, hown, hT⟩ (c_M_isNode l dC dI cI cZ qo qha qkn qtr qhv qbe qlo qhi qpa qne qre mh mk mt mv mb ml mg mp mx mr mc Q n u) (vz_cwV (n := 1) hT wd_link_M_45 wd_inst_M_isNode wd_sel_M_isNode wd_ini_M wd_code_M_isNode (by decide +kernel) ⟨Nat.le_of_ble_eq_true rfl, Nat.le_of_ble_eq_true rfl⟩) (vz_pv (q0 := 0) (ci := 3) (q := ("ArrowClassesModel", TM, 13)) hN hK hP [0, 1, 2, 3, 4, 5, 6, 7, 8, 9, 10] rfl rfl rfl) rfl rfl hl.1 rfl (lv_room (Nat.le_of_ble_eq_true rfl)) d_M_reached_2 ⟨Nat.zero_le _, Nat.zero_le _⟩) ?_
  refine lv_if_eq (tgt := 16) hx hb d_M_reached_5 (by decide) (fun h1 => ?_) (fun h1 => ?_)
  ·
    refine lv_iconst (v := -1) hx hb d_M_reached_16 (by decide) ?_
    exact W.iret hx hb hr (fun t ht hW => ⟨by rw [show (mReached n mh u) = (-1 : Int32) from (by rw [mReached, if_pos h1])], ht⟩) (fun q h => absurd h List.not_mem_nil) d_M_reached_17
  ·
    refine lv_aload_n hx hb d_M_reached_8 rfl (lv_at hl 0 rfl) ?_
    refine lv_iload_n hx hb d_M_reached_9 rfl (lv_at hl 1 rfl) ?_
    refine vz_ro (va_runV (As := [.int u]) (rest := []) ⟨hx, hb, hml, hown, hT⟩ (c_M_reach l dC dI cI cZ qo qha qkn qtr qhv qbe qlo qhi qpa qne qre mk mt mv mb ml mg mp mx mr mc Q n mh u (by omega)) (vz_cwV (n := 1) hT wd_link_M_60 wd_inst_M_reach wd_sel_M_reach wd_ini_M wd_code_M_reach (by decide +kernel) ⟨Nat.le_of_ble_eq_true rfl, Nat.le_of_ble_eq_true rfl⟩) (vz_pv (q0 := 0) (ci := 3) (q := ("ArrowClassesModel", TM, 13)) hN hK hP [0, 1, 2, 3, 4, 5, 6, 7, 8, 9, 10] rfl rfl rfl) rfl rfl hl.1 rfl (lv_room (Nat.le_of_ble_eq_true rfl)) d_M_reached_10 ⟨Nat.zero_le _, Nat.zero_le _⟩) ?_
    refine lv_goto (tgt := 17) hx hb d_M_reached_13 (by decide) ?_
    exact W.iret hx hb hr (fun t ht hW => ⟨by rw [show (mReached n mh u) = (mReach n mh u) from (by rw [mReached, if_neg h1])], ht⟩) (fun q h => absurd h List.not_mem_nil) d_M_reached_17
set_option maxRecDepth 100000 in
set_option maxHeartbeats 4000000 in
theorem c_M_around (l : Launch) (dC : Nat → ClassId) (dI : Nat → Nat → Nat) (cI cZ : ClassId) (qo qha qkn qtr qhv qbe qlo qhi qpa qne qre : Nat) (mk : Nat → Int32) (mt : Nat → Int32) (mv : Nat → Int32) (mb : Nat → Int32) (ml : Nat → Int32) (mg : Nat → Int32) (mp : Nat → Int32) (mx : Nat → Int32) (mr : Nat → Int32) (mc : Int32) (Q : Nat) (n : Nat) (mh : Nat → Int32) (u : Int32) (hn : n ≤ 6) : Met l y_M_around w_M_around rm_M_around (va_Pc [.ref qo, .int u] (vz_B (dC, dI) vwCl [(qo, .inr (3, [.int (nI n), .ref qha, .ref qkn, .ref qtr, .int mc, .ref qhv, .ref qbe, .int (nI Q), .ref qlo, .ref qhi, .ref qpa, .ref qne, .ref qre])), (qha, .inl (cZ, 36, .inl mh)), (qkn, .inl (cZ, 36, .inl mk)), (qtr, .inl (cZ, 36, .inl mt)), (qhv, .inl (cI, 36, .inl mv)), (qbe, .inl (cZ, 36, .inl mb)), (qlo, .inl (cI, 9, .inl ml)), (qhi, .inl (cI, 9, .inl mg)), (qpa, .inl (cI, 6, .inl mp)), (qne, .inl (cI, 6, .inl mx)), (qre, .inl (cI, 6, .inl mr))] [(cI, .int), (cZ, .boolean)])) (QcRead (mAround n mh u)) 0 0 (fun _ => False) := by
  refine Met.ofW (cc := b_M_around) (maxL := 4) (ret := (some .int)) (by decide) rfl ?_
  intro p e s m args below meth c s₁ B hml hv
  obtain ⟨rfl, hP, hK, hN⟩ := hv
  have hx := B.exec
  have hb := B.bytes
  have hr := B.returns
  have hts := atoms_spec (ws := w_M_around) B.pre
  have hT : ∀ w ∈ vzB, w.before ([.ref qo, .int u] : List Value).toArray s = true := fun w h => hts w (List.mem_cons_of_mem _ h)
  have hown : s.vm.findClass "ArrowClassesModel" = some m.cls := findClass_of_methodNamed B.named
  have hlocks := B.notSynchronized
  have hl := lv_entry ([.ref qo, .int u]) (n := 4) (Nat.le_of_ble_eq_true rfl)
  rw [lg_entry_eq]
  generalize (lg_sl ([.ref qo, .int u]) ++ List.replicate (4 - (lg_sl ([.ref qo, .int u])).length) Slot.unset).toArray = ls at hl ⊢
  have hl : lv_has ls 4 [(0, .ref qo), (1, .int u)] := hl
  refine lv_aload_n hx hb d_M_around_0 rfl (lv_at hl 0 rfl) ?_
  refine lv_iload_n hx hb d_M_around_1 rfl (lv_at hl 1 rfl) ?_
  refine vz_ro (va_runV (As := [.int u]) (rest := []) ⟨hx, hb, hml, hown, hT⟩ (c_M_isNode l dC dI cI cZ qo qha qkn qtr qhv qbe qlo qhi qpa qne qre mh mk mt mv mb ml mg mp mx mr mc Q n u) (vz_cwV (n := 1) hT wd_link_M_45 wd_inst_M_isNode wd_sel_M_isNode wd_ini_M wd_code_M_isNode (by decide +kernel) ⟨Nat.le_of_ble_eq_true rfl, Nat.le_of_ble_eq_true rfl⟩) (vz_pv (q0 := 0) (ci := 3) (q := ("ArrowClassesModel", TM, 13)) hN hK hP [0, 1, 2, 3, 4, 5, 6, 7, 8, 9, 10] rfl rfl rfl) rfl rfl hl.1 rfl (lv_room (Nat.le_of_ble_eq_true rfl)) d_M_around_2 ⟨Nat.zero_le _, Nat.zero_le _⟩) ?_
  refine lv_if_ne (tgt := 10) hx hb d_M_around_5 (by decide) (fun h1 => ?_) (fun h1 => ?_)
  ·
    have hvu := mNode_in hn h1
    refine lv_aload_n hx hb d_M_around_10 rfl (lv_at hl 0 rfl) ?_
    refine lv_iload_n hx hb d_M_around_11 rfl (lv_at hl 1 rfl) ?_
    refine vz_ro (va_runV (As := [.int u]) (rest := []) ⟨hx, hb, hml, hown, hT⟩ (c_M_parents l dC dI cI cZ qo qha qkn qtr qhv qbe qlo qhi qpa qne qre mk mt mv mb ml mg mp mx mr mc Q n mh u (by omega)) (vz_cwV (n := 1) hT wd_link_M_67 wd_inst_M_parents wd_sel_M_parents wd_ini_M wd_code_M_parents (by decide +kernel) ⟨Nat.le_of_ble_eq_true rfl, Nat.le_of_ble_eq_true rfl⟩) (vz_pv (q0 := 0) (ci := 3) (q := ("ArrowClassesModel", TM, 13)) hN hK hP [0, 1, 2, 3, 4, 5, 6, 7, 8, 9, 10] rfl rfl rfl) rfl rfl hl.1 rfl (lv_room (Nat.le_of_ble_eq_true rfl)) d_M_around_12 ⟨Nat.zero_le _, Nat.zero_le _⟩) ?_
    refine lv_istore_n hx hb d_M_around_15 rfl hl (by decide) rfl (fun ls hl => ?_)
    have hl : lv_has ls 4 [(2, .int (mParents n mh u)), (0, .ref qo), (1, .int u)] := hl
    refine lv_iconst (v := 0) hx hb d_M_around_16 (by decide) ?_
    refine vz_top (y := nI 0) (by decide) ?_
    refine lv_istore_n hx hb d_M_around_17 rfl hl (by decide) rfl (fun ls hl => ?_)
    have hl : lv_has ls 4 [(3, .int (nI 0)), (2, .int (mParents n mh u)), (0, .ref qo), (1, .int u)] := hl
    have lp_18 : ∀ (k_18 i_18 : Nat) (st_18 : Int32) (ls : Array Slot), i_18 + k_18 = n → mAround_L18 n mh u k_18 i_18 st_18 = (mAround n mh u) → lv_has ls 4 [(3, .int (nI i_18)), (2, .int st_18), (0, .ref qo), (1, .int u)] → W p l e (headSpec w_M_around rm_M_around).room s m ([.ref qo, .int u] : List Value).toArray below meth c s.heap [] 0 0 (MQ below (QcRead (mAround n mh u)) ([.ref qo, .int u] : List Value).toArray s 0 0 (fun _ => False)) (F0 m 18 ls []) := by
      intro k_18
      induction k_18 with
      | zero =>
        intro i_18 st_18 ls hik_18 hfin_18 hl
        refine lv_iload_n hx hb d_M_around_18 rfl (lv_at hl 0 rfl) ?_
        refine lv_aload_n hx hb d_M_around_19 rfl (lv_at hl 2 rfl) ?_
        refine va_get (D := (dC, dI)) (ci := 3) (v := .int (nI n)) (C := "ArrowClassesModel") (T := TM) (N := 13) hx hb hT inM hown hK hP 0 rfl rfl 0 (by decide) (hT _ wd_fld_M_41) (fun _ h9 => h9) rfl d_M_around_20 ?_
        refine lv_icmp_ge (tgt := 58) hx hb d_M_around_23 (by decide) (fun _ => ?_) (fun h2 => by rw [nI_leI (by omega) (by omega)] at h2; omega)
        refine lv_iload_n hx hb d_M_around_58 rfl (lv_at hl 1 rfl) ?_
        refine lv_iconst (v := 1) hx hb d_M_around_59 (by decide) ?_
        refine lv_iload_n hx hb d_M_around_60 rfl (lv_at hl 3 rfl) ?_
        refine lv_ishl hx hb d_M_around_61 ?_
        refine lv_iconst (v := -1) hx hb d_M_around_62 (by decide) ?_
        refine lv_ixor hx hb d_M_around_63 ?_
        refine lv_iand hx hb d_M_around_64 ?_
        exact W.iret hx hb hr (fun t ht hW => ⟨by rw [show (mAround n mh u) = st_18 &&& ((1 <<< (u &&& 31)) ^^^ (-1)) from (hfin_18.symm.trans (by rw [mAround_L18]))], ht⟩) (fun q h => absurd h List.not_mem_nil) d_M_around_65
      | succ k_18 ih_18 =>
        intro i_18 st_18 ls hik_18 hfin_18 hl
        refine lv_iload_n hx hb d_M_around_18 rfl (lv_at hl 0 rfl) ?_
        refine lv_aload_n hx hb d_M_around_19 rfl (lv_at hl 2 rfl) ?_
        refine va_get (D := (dC, dI)) (ci := 3) (v := .int (nI n)) (C := "ArrowClassesModel") (T := TM) (N := 13) hx hb hT inM hown hK hP 0 rfl rfl 0 (by decide) (hT _ wd_fld_M_41) (fun _ h9 => h9) rfl d_M_around_20 ?_
        refine lv_icmp_ge (tgt := 58) hx hb d_M_around_23 (by decide) (fun h3 => by rw [nI_leI (by omega) (by omega)] at h3; omega) (fun _ => ?_)
        refine lv_aload_n hx hb d_M_around_26 rfl (lv_at hl 2 rfl) ?_
        refine va_get (D := (dC, dI)) (ci := 3) (v := .ref qha) (C := "ArrowClassesModel") (T := TM) (N := 13) hx hb hT inM hown hK hP 0 rfl rfl 1 (by decide) (hT _ wd_fld_M_7) (fun _ h9 => h9) rfl d_M_around_27 ?_
        refine lv_bipush (v := 6) hx hb d_M_around_30 (by decide) ?_
        refine lv_iload_n hx hb d_M_around_32 rfl (lv_at hl 3 rfl) ?_
        refine lv_imul hx hb d_M_around_33 ?_
        refine lv_iload_n hx hb d_M_around_34 rfl (lv_at hl 0 rfl) ?_
        refine lv_iadd hx hb d_M_around_35 ?_
        refine va_zald (D := (dC, dI)) hx hb hK hP 1 1 rfl rfl (vz_ix hn (by assumption) (vp_in_nI (by omega) (by omega))) d_M_around_36 ?_
        refine lv_if_eq (tgt := 52) hx hb d_M_around_37 (by decide) (fun h4 => ?_) (fun h4 => ?_)
        ·
          refine lv_iinc (k := 0) (v := nI (i_18 + 1)) hx hb d_M_around_52 hl rfl (vz_inc i_18) (by decide) rfl (fun ls hl => ?_)
          have hl : lv_has ls 4 [(3, .int (nI (i_18 + 1))), (2, .int st_18), (0, .ref qo), (1, .int u)] := hl
          refine lv_goto (tgt := 18) hx hb d_M_around_55 (by decide) ?_
          exact ih_18 (i_18 + 1) st_18 ls (by omega) (by rw [mAround_L18, if_pos h4] at hfin_18; exact hfin_18) (lv_sub hl [0, 1, 2, 3] rfl)
        ·
          refine lv_iload_n hx hb d_M_around_40 rfl (lv_at hl 1 rfl) ?_
          refine lv_iconst (v := 1) hx hb d_M_around_41 (by decide) ?_
          refine lv_iload_n hx hb d_M_around_42 rfl (lv_at hl 0 rfl) ?_
          refine lv_ishl hx hb d_M_around_43 ?_
          refine lv_ior hx hb d_M_around_44 ?_
          refine lv_aload_n hx hb d_M_around_45 rfl (lv_at hl 2 rfl) ?_
          refine lv_iload_n hx hb d_M_around_46 rfl (lv_at hl 0 rfl) ?_
          refine vz_ro (va_runV (As := [.int (nI i_18)]) (rest := [.int (st_18 ||| (1 <<< ((nI i_18) &&& 31)))]) ⟨hx, hb, hml, hown, hT⟩ (c_M_parents l dC dI cI cZ qo qha qkn qtr qhv qbe qlo qhi qpa qne qre mk mt mv mb ml mg mp mx mr mc Q n mh (nI i_18) (by omega)) (vz_cwV (n := 1) hT wd_link_M_67 wd_inst_M_parents wd_sel_M_parents wd_ini_M wd_code_M_parents (by decide +kernel) ⟨Nat.le_of_ble_eq_true rfl, Nat.le_of_ble_eq_true rfl⟩) (vz_pv (q0 := 0) (ci := 3) (q := ("ArrowClassesModel", TM, 13)) hN hK hP [0, 1, 2, 3, 4, 5, 6, 7, 8, 9, 10] rfl rfl rfl) rfl rfl hl.1 rfl (lv_room (Nat.le_of_ble_eq_true rfl)) d_M_around_47 ⟨Nat.zero_le _, Nat.zero_le _⟩) ?_
          refine lv_ior hx hb d_M_around_50 ?_
          refine lv_istore_n hx hb d_M_around_51 rfl hl (by decide) rfl (fun ls hl => ?_)
          have hl : lv_has ls 4 [(2, .int ((st_18 ||| (1 <<< ((nI i_18) &&& 31))) ||| (mParents n mh (nI i_18)))), (3, .int (nI i_18)), (0, .ref qo), (1, .int u)] := hl
          refine lv_iinc (k := 1) (v := nI (i_18 + 1)) hx hb d_M_around_52 hl rfl (vz_inc i_18) (by decide) rfl (fun ls hl => ?_)
          have hl : lv_has ls 4 [(3, .int (nI (i_18 + 1))), (2, .int ((st_18 ||| (1 <<< ((nI i_18) &&& 31))) ||| (mParents n mh (nI i_18)))), (0, .ref qo), (1, .int u)] := hl
          refine lv_goto (tgt := 18) hx hb d_M_around_55 (by decide) ?_
          exact ih_18 (i_18 + 1) ((st_18 ||| (1 <<< ((nI i_18) &&& 31))) ||| (mParents n mh (nI i_18))) ls (by omega) (by rw [mAround_L18, if_neg h4] at hfin_18; exact hfin_18) (lv_sub hl [0, 1, 2, 3] rfl)
    exact lp_18 n 0 (mParents n mh u) _ (by omega) (by rw [mAround, if_neg h1]) (lv_sub hl [0, 1, 2, 3] rfl)
  ·
    refine lv_iconst (v := -1) hx hb d_M_around_8 (by decide) ?_
    exact W.iret hx hb hr (fun t ht hW => ⟨by rw [show (mAround n mh u) = (-1 : Int32) from (by rw [mAround, if_pos h1])], ht⟩) (fun q h => absurd h List.not_mem_nil) d_M_around_9
set_option maxRecDepth 100000 in
set_option maxHeartbeats 4000000 in
theorem c_M_collides (l : Launch) (dC : Nat → ClassId) (dI : Nat → Nat → Nat) (cI cZ : ClassId) (qg : Nat) (n : Nat) (fg : Nat → Int32) (a : Int32) (b : Int32) (d : Int32) (hn : n ≤ 6) (h_a : vp_in a n) (h_b : vp_in b n) (h_d : vp_in d n) : Met l y_M_collides w_M_collides rm_M_collides (va_Pc [.ref qg, .int a, .int b, .int d] (vz_B (dC, dI) vwCl [(qg, .inl (cZ, 36, .inl fg))] [(cI, .int), (cZ, .boolean)])) (QcRead (mColl1 fg a b d)) 0 0 (fun _ => False) := by
  refine Met.ofW (cc := b_M_collides) (maxL := 4) (ret := (some .boolean)) (by decide) rfl ?_
  intro p e s m args below meth c s₁ B hml hv
  obtain ⟨rfl, hP, hK, hN⟩ := hv
  have hx := B.exec
  have hb := B.bytes
  have hr := B.returns
  have hts := atoms_spec (ws := w_M_collides) B.pre
  have hT : ∀ w ∈ vzB, w.before ([.ref qg, .int a, .int b, .int d] : List Value).toArray s = true := fun w h => hts w (List.mem_cons_of_mem _ h)
  have hown : s.vm.findClass "ArrowClassesModel" = some m.cls := findClass_of_methodNamed B.named
  have hlocks := B.notSynchronized
  have hl := lv_entry ([.ref qg, .int a, .int b, .int d]) (n := 4) (Nat.le_of_ble_eq_true rfl)
  rw [lg_entry_eq]
  generalize (lg_sl ([.ref qg, .int a, .int b, .int d]) ++ List.replicate (4 - (lg_sl ([.ref qg, .int a, .int b, .int d])).length) Slot.unset).toArray = ls at hl ⊢
  have hl : lv_has ls 4 [(0, .ref qg), (1, .int a), (2, .int b), (3, .int d)] := hl
  refine lv_aload_n hx hb d_M_collides_0 rfl (lv_at hl 0 rfl) ?_
  refine lv_bipush (v := 6) hx hb d_M_collides_1 (by decide) ?_
  refine lv_iload_n hx hb d_M_collides_3 rfl (lv_at hl 1 rfl) ?_
  refine lv_imul hx hb d_M_collides_4 ?_
  refine lv_iload_n hx hb d_M_collides_5 rfl (lv_at hl 2 rfl) ?_
  refine lv_iadd hx hb d_M_collides_6 ?_
  refine va_zald (D := (dC, dI)) hx hb hK hP 0 1 rfl rfl (vz_ix hn (by assumption) (by assumption)) d_M_collides_7 ?_
  refine lv_if_eq (tgt := 48) hx hb d_M_collides_8 (by decide) (fun h1 => ?_) (fun h1 => ?_)
  ·
    refine lv_iconst (v := 0) hx hb d_M_collides_48 (by decide) ?_
    exact W.zret hx hb hr (by decide) (fun t ht hW => ⟨by rw [show (mColl1 fg a b d) = (0 : Int32) from (by rw [mColl1, if_pos h1])], ht⟩) (fun q h => absurd h List.not_mem_nil) d_M_collides_49
  ·
    refine lv_aload_n hx hb d_M_collides_11 rfl (lv_at hl 0 rfl) ?_
    refine lv_bipush (v := 6) hx hb d_M_collides_12 (by decide) ?_
    refine lv_iload_n hx hb d_M_collides_14 rfl (lv_at hl 3 rfl) ?_
    refine lv_imul hx hb d_M_collides_15 ?_
    refine lv_iload_n hx hb d_M_collides_16 rfl (lv_at hl 2 rfl) ?_
    refine lv_iadd hx hb d_M_collides_17 ?_
    refine va_zald (D := (dC, dI)) hx hb hK hP 0 1 rfl rfl (vz_ix hn (by assumption) (by assumption)) d_M_collides_18 ?_
    refine lv_if_eq (tgt := 48) hx hb d_M_collides_19 (by decide) (fun h2 => ?_) (fun h2 => ?_)
    ·
      refine lv_iconst (v := 0) hx hb d_M_collides_48 (by decide) ?_
      exact W.zret hx hb hr (by decide) (fun t ht hW => ⟨by rw [show (mColl1 fg a b d) = (0 : Int32) from (by rw [mColl1, if_neg h1, if_pos h2])], ht⟩) (fun q h => absurd h List.not_mem_nil) d_M_collides_49
    ·
      refine lv_aload_n hx hb d_M_collides_22 rfl (lv_at hl 0 rfl) ?_
      refine lv_bipush (v := 6) hx hb d_M_collides_23 (by decide) ?_
      refine lv_iload_n hx hb d_M_collides_25 rfl (lv_at hl 1 rfl) ?_
      refine lv_imul hx hb d_M_collides_26 ?_
      refine lv_iload_n hx hb d_M_collides_27 rfl (lv_at hl 3 rfl) ?_
      refine lv_iadd hx hb d_M_collides_28 ?_
      refine va_zald (D := (dC, dI)) hx hb hK hP 0 1 rfl rfl (vz_ix hn (by assumption) (by assumption)) d_M_collides_29 ?_
      refine lv_if_ne (tgt := 48) hx hb d_M_collides_30 (by decide) (fun h3 => ?_) (fun h3 => ?_)
      ·
        refine lv_iconst (v := 0) hx hb d_M_collides_48 (by decide) ?_
        exact W.zret hx hb hr (by decide) (fun t ht hW => ⟨by rw [show (mColl1 fg a b d) = (0 : Int32) from (by rw [mColl1, if_neg h1, if_neg h2, if_neg h3])], ht⟩) (fun q h => absurd h List.not_mem_nil) d_M_collides_49
      ·
        refine lv_aload_n hx hb d_M_collides_33 rfl (lv_at hl 0 rfl) ?_
        refine lv_bipush (v := 6) hx hb d_M_collides_34 (by decide) ?_
        refine lv_iload_n hx hb d_M_collides_36 rfl (lv_at hl 3 rfl) ?_
        refine lv_imul hx hb d_M_collides_37 ?_
        refine lv_iload_n hx hb d_M_collides_38 rfl (lv_at hl 1 rfl) ?_
        refine lv_iadd hx hb d_M_collides_39 ?_
        refine va_zald (D := (dC, dI)) hx hb hK hP 0 1 rfl rfl (vz_ix hn (by assumption) (by assumption)) d_M_collides_40 ?_
        refine lv_if_ne (tgt := 48) hx hb d_M_collides_41 (by decide) (fun h4 => ?_) (fun h4 => ?_)
        ·
          refine lv_iconst (v := 0) hx hb d_M_collides_48 (by decide) ?_
          exact W.zret hx hb hr (by decide) (fun t ht hW => ⟨by rw [show (mColl1 fg a b d) = (0 : Int32) from (by rw [mColl1, if_neg h1, if_neg h2, if_pos h3, if_neg h4])], ht⟩) (fun q h => absurd h List.not_mem_nil) d_M_collides_49
        ·
          refine lv_iconst (v := 1) hx hb d_M_collides_44 (by decide) ?_
          refine lv_goto (tgt := 49) hx hb d_M_collides_45 (by decide) ?_
          exact W.zret hx hb hr (by decide) (fun t ht hW => ⟨by rw [show (mColl1 fg a b d) = (1 : Int32) from (by rw [mColl1, if_neg h1, if_neg h2, if_pos h3, if_pos h4])], ht⟩) (fun q h => absurd h List.not_mem_nil) d_M_collides_49
set_option maxRecDepth 100000 in
set_option maxHeartbeats 4000000 in
theorem c_M_collisions (l : Launch) (dC : Nat → ClassId) (dI : Nat → Nat → Nat) (cI cZ : ClassId) (qo qha qkn qtr qhv qbe qlo qhi qpa qne qre : Nat) (mk : Nat → Int32) (mt : Nat → Int32) (mv : Nat → Int32) (mb : Nat → Int32) (ml : Nat → Int32) (mg : Nat → Int32) (mp : Nat → Int32) (mx : Nat → Int32) (mr : Nat → Int32) (mc : Int32) (Q : Nat) (n : Nat) (mh : Nat → Int32) (hn : n ≤ 6) : Met l y_M_collisions w_M_collisions rm_M_collisions (va_Pc [.ref qo] (vz_B (dC, dI) vwCl [(qo, .inr (3, [.int (nI n), .ref qha, .ref qkn, .ref qtr, .int mc, .ref qhv, .ref qbe, .int (nI Q), .ref qlo, .ref qhi, .ref qpa, .ref qne, .ref qre])), (qha, .inl (cZ, 36, .inl mh)), (qkn, .inl (cZ, 36, .inl mk)), (qtr, .inl (cZ, 36, .inl mt)), (qhv, .inl (cI, 36, .inl mv)), (qbe, .inl (cZ, 36, .inl mb)), (qlo, .inl (cI, 9, .inl ml)), (qhi, .inl (cI, 9, .inl mg)), (qpa, .inl (cI, 6, .inl mp)), (qne, .inl (cI, 6, .inl mx)), (qre, .inl (cI, 6, .inl mr))] [(cI, .int), (cZ, .boolean)])) (QcRead (mColl n mh)) 0 0 (fun _ => False) := by
  refine Met.ofW (cc := b_M_collisions) (maxL := 5) (ret := (some .int)) (by decide) rfl ?_
  intro p e s m args below meth c s₁ B hml hv
  obtain ⟨rfl, hP, hK, hN⟩ := hv
  have hx := B.exec
  have hb := B.bytes
  have hr := B.returns
  have hts := atoms_spec (ws := w_M_collisions) B.pre
  have hT : ∀ w ∈ vzB, w.before ([.ref qo] : List Value).toArray s = true := fun w h => hts w (List.mem_cons_of_mem _ h)
  have hown : s.vm.findClass "ArrowClassesModel" = some m.cls := findClass_of_methodNamed B.named
  have hlocks := B.notSynchronized
  have hl := lv_entry ([.ref qo]) (n := 5) (Nat.le_of_ble_eq_true rfl)
  rw [lg_entry_eq]
  generalize (lg_sl ([.ref qo]) ++ List.replicate (5 - (lg_sl ([.ref qo])).length) Slot.unset).toArray = ls at hl ⊢
  have hl : lv_has ls 5 [(0, .ref qo)] := hl
  refine lv_iconst (v := 0) hx hb d_M_collisions_0 (by decide) ?_
  refine lv_istore_n hx hb d_M_collisions_1 rfl hl (by decide) rfl (fun ls hl => ?_)
  have hl : lv_has ls 5 [(1, .int 0), (0, .ref qo)] := hl
  refine lv_iconst (v := 0) hx hb d_M_collisions_2 (by decide) ?_
  refine vz_top (y := nI 0) (by decide) ?_
  refine lv_istore_n hx hb d_M_collisions_3 rfl hl (by decide) rfl (fun ls hl => ?_)
  have hl : lv_has ls 5 [(2, .int (nI 0)), (1, .int 0), (0, .ref qo)] := hl
  have lp_4 : ∀ (k_4 i_4 : Nat) (c_4 : Int32) (ls : Array Slot), i_4 + k_4 = n → mColl_L4 n mh k_4 i_4 c_4 = (mColl n mh) → lv_has ls 5 [(2, .int (nI i_4)), (1, .int c_4), (0, .ref qo)] → W p l e (headSpec w_M_collisions rm_M_collisions).room s m ([.ref qo] : List Value).toArray below meth c s.heap [] 0 0 (MQ below (QcRead (mColl n mh)) ([.ref qo] : List Value).toArray s 0 0 (fun _ => False)) (F0 m 4 ls []) := by
    intro k_4
    induction k_4 with
    | zero =>
      intro i_4 c_4 ls hik_4 hfin_4 hl
      refine lv_iload_n hx hb d_M_collisions_4 rfl (lv_at hl 0 rfl) ?_
      refine lv_aload_n hx hb d_M_collisions_5 rfl (lv_at hl 2 rfl) ?_
      refine va_get (D := (dC, dI)) (ci := 3) (v := .int (nI n)) (C := "ArrowClassesModel") (T := TM) (N := 13) hx hb hT inM hown hK hP 0 rfl rfl 0 (by decide) (hT _ wd_fld_M_41) (fun _ h9 => h9) rfl d_M_collisions_6 ?_
      refine lv_icmp_ge (tgt := 76) hx hb d_M_collisions_9 (by decide) (fun _ => ?_) (fun h1 => by rw [nI_leI (by omega) (by omega)] at h1; omega)
      refine lv_iload_n hx hb d_M_collisions_76 rfl (lv_at hl 1 rfl) ?_
      exact W.iret hx hb hr (fun t ht hW => ⟨by rw [show (mColl n mh) = c_4 from (hfin_4.symm.trans (by rw [mColl_L4]))], ht⟩) (fun q h => absurd h List.not_mem_nil) d_M_collisions_77
    | succ k_4 ih_4 =>
      intro i_4 c_4 ls hik_4 hfin_4 hl
      refine lv_iload_n hx hb d_M_collisions_4 rfl (lv_at hl 0 rfl) ?_
      refine lv_aload_n hx hb d_M_collisions_5 rfl (lv_at hl 2 rfl) ?_
      refine va_get (D := (dC, dI)) (ci := 3) (v := .int (nI n)) (C := "ArrowClassesModel") (T := TM) (N := 13) hx hb hT inM hown hK hP 0 rfl rfl 0 (by decide) (hT _ wd_fld_M_41) (fun _ h9 => h9) rfl d_M_collisions_6 ?_
      refine lv_icmp_ge (tgt := 76) hx hb d_M_collisions_9 (by decide) (fun h2 => by rw [nI_leI (by omega) (by omega)] at h2; omega) (fun _ => ?_)
      refine lv_iconst (v := 0) hx hb d_M_collisions_12 (by decide) ?_
      refine vz_top (y := nI 0) (by decide) ?_
      refine lv_istore_n hx hb d_M_collisions_13 rfl hl (by decide) rfl (fun ls hl => ?_)
      have hl : lv_has ls 5 [(3, .int (nI 0)), (2, .int (nI i_4)), (1, .int c_4), (0, .ref qo)] := hl
      have lp_14 : ∀ (k_14 i_14 : Nat) (c_14 : Int32) (ls : Array Slot), i_14 + k_14 = n → mColl_L14 n mh i_4 c_4 (fun w0 => mColl_L4 n mh k_4 (i_4 + 1) w0) k_14 i_14 c_14 = (mColl n mh) → lv_has ls 5 [(3, .int (nI i_14)), (2, .int (nI i_4)), (1, .int c_14), (0, .ref qo)] → W p l e (headSpec w_M_collisions rm_M_collisions).room s m ([.ref qo] : List Value).toArray below meth c s.heap [] 0 0 (MQ below (QcRead (mColl n mh)) ([.ref qo] : List Value).toArray s 0 0 (fun _ => False)) (F0 m 14 ls []) := by
        intro k_14
        induction k_14 with
        | zero =>
          intro i_14 c_14 ls hik_14 hfin_14 hl
          refine lv_iload_n hx hb d_M_collisions_14 rfl (lv_at hl 0 rfl) ?_
          refine lv_aload_n hx hb d_M_collisions_15 rfl (lv_at hl 3 rfl) ?_
          refine va_get (D := (dC, dI)) (ci := 3) (v := .int (nI n)) (C := "ArrowClassesModel") (T := TM) (N := 13) hx hb hT inM hown hK hP 0 rfl rfl 0 (by decide) (hT _ wd_fld_M_41) (fun _ h9 => h9) rfl d_M_collisions_16 ?_
          refine lv_icmp_ge (tgt := 70) hx hb d_M_collisions_19 (by decide) (fun _ => ?_) (fun h3 => by rw [nI_leI (by omega) (by omega)] at h3; omega)
          refine lv_iinc (k := 1) (v := nI (i_4 + 1)) hx hb d_M_collisions_70 hl rfl (vz_inc i_4) (by decide) rfl (fun ls hl => ?_)
          have hl : lv_has ls 5 [(2, .int (nI (i_4 + 1))), (3, .int (nI i_14)), (1, .int c_14), (0, .ref qo)] := hl
          refine lv_goto (tgt := 4) hx hb d_M_collisions_73 (by decide) ?_
          exact ih_4 (i_4 + 1) c_14 ls (by omega) (by rw [mColl_L14] at hfin_14; exact hfin_14) (lv_sub hl [0, 2, 3] rfl)
        | succ k_14 ih_14 =>
          intro i_14 c_14 ls hik_14 hfin_14 hl
          refine lv_iload_n hx hb d_M_collisions_14 rfl (lv_at hl 0 rfl) ?_
          refine lv_aload_n hx hb d_M_collisions_15 rfl (lv_at hl 3 rfl) ?_
          refine va_get (D := (dC, dI)) (ci := 3) (v := .int (nI n)) (C := "ArrowClassesModel") (T := TM) (N := 13) hx hb hT inM hown hK hP 0 rfl rfl 0 (by decide) (hT _ wd_fld_M_41) (fun _ h9 => h9) rfl d_M_collisions_16 ?_
          refine lv_icmp_ge (tgt := 70) hx hb d_M_collisions_19 (by decide) (fun h4 => by rw [nI_leI (by omega) (by omega)] at h4; omega) (fun _ => ?_)
          refine lv_iload_n hx hb d_M_collisions_22 rfl (lv_at hl 0 rfl) ?_
          refine lv_iconst (v := 1) hx hb d_M_collisions_23 (by decide) ?_
          refine lv_iadd hx hb d_M_collisions_24 ?_
          refine vz_top (y := nI (i_14 + 1)) (nI_1 i_14) ?_
          refine lv_istore hx hb d_M_collisions_25 hl (by decide) rfl (fun ls hl => ?_)
          have hl : lv_has ls 5 [(4, .int (nI (i_14 + 1))), (3, .int (nI i_14)), (2, .int (nI i_4)), (1, .int c_14), (0, .ref qo)] := hl
          have lp_27 : ∀ (k_27 i_27 : Nat) (c_27 : Int32) (ls : Array Slot), i_27 + k_27 = n → mColl_L27 n mh i_4 c_4 i_14 c_14 (fun w0 => mColl_L14 n mh i_4 c_4 (fun w0 => mColl_L4 n mh k_4 (i_4 + 1) w0) k_14 (i_14 + 1) w0) k_27 i_27 c_27 = (mColl n mh) → lv_has ls 5 [(4, .int (nI i_27)), (3, .int (nI i_14)), (2, .int (nI i_4)), (1, .int c_27), (0, .ref qo)] → W p l e (headSpec w_M_collisions rm_M_collisions).room s m ([.ref qo] : List Value).toArray below meth c s.heap [] 0 0 (MQ below (QcRead (mColl n mh)) ([.ref qo] : List Value).toArray s 0 0 (fun _ => False)) (F0 m 27 ls []) := by
            intro k_27
            induction k_27 with
            | zero =>
              intro i_27 c_27 ls hik_27 hfin_27 hl
              refine lv_iload hx hb d_M_collisions_27 (lv_at hl 0 rfl) ?_
              refine lv_aload_n hx hb d_M_collisions_29 rfl (lv_at hl 4 rfl) ?_
              refine va_get (D := (dC, dI)) (ci := 3) (v := .int (nI n)) (C := "ArrowClassesModel") (T := TM) (N := 13) hx hb hT inM hown hK hP 0 rfl rfl 0 (by decide) (hT _ wd_fld_M_41) (fun _ h9 => h9) rfl d_M_collisions_30 ?_
              refine lv_icmp_ge (tgt := 64) hx hb d_M_collisions_33 (by decide) (fun _ => ?_) (fun h5 => by rw [nI_leI (by omega) (by omega)] at h5; omega)
              refine lv_iinc (k := 1) (v := nI (i_14 + 1)) hx hb d_M_collisions_64 hl rfl (vz_inc i_14) (by decide) rfl (fun ls hl => ?_)
              have hl : lv_has ls 5 [(3, .int (nI (i_14 + 1))), (4, .int (nI i_27)), (2, .int (nI i_4)), (1, .int c_27), (0, .ref qo)] := hl
              refine lv_goto (tgt := 14) hx hb d_M_collisions_67 (by decide) ?_
              exact ih_14 (i_14 + 1) c_27 ls (by omega) (by rw [mColl_L27] at hfin_27; exact hfin_27) (lv_sub hl [0, 2, 3, 4] rfl)
            | succ k_27 ih_27 =>
              intro i_27 c_27 ls hik_27 hfin_27 hl
              refine lv_iload hx hb d_M_collisions_27 (lv_at hl 0 rfl) ?_
              refine lv_aload_n hx hb d_M_collisions_29 rfl (lv_at hl 4 rfl) ?_
              refine va_get (D := (dC, dI)) (ci := 3) (v := .int (nI n)) (C := "ArrowClassesModel") (T := TM) (N := 13) hx hb hT inM hown hK hP 0 rfl rfl 0 (by decide) (hT _ wd_fld_M_41) (fun _ h9 => h9) rfl d_M_collisions_30 ?_
              refine lv_icmp_ge (tgt := 64) hx hb d_M_collisions_33 (by decide) (fun h6 => by rw [nI_leI (by omega) (by omega)] at h6; omega) (fun _ => ?_)
              refine lv_aload_n hx hb d_M_collisions_36 rfl (lv_at hl 4 rfl) ?_
              refine va_get (D := (dC, dI)) (ci := 3) (v := .ref qha) (C := "ArrowClassesModel") (T := TM) (N := 13) hx hb hT inM hown hK hP 0 rfl rfl 1 (by decide) (hT _ wd_fld_M_7) (fun _ h9 => h9) rfl d_M_collisions_37 ?_
              refine lv_iload_n hx hb d_M_collisions_40 rfl (lv_at hl 1 rfl) ?_
              refine lv_iload_n hx hb d_M_collisions_41 rfl (lv_at hl 2 rfl) ?_
              refine lv_iload hx hb d_M_collisions_42 (lv_at hl 0 rfl) ?_
              refine vz_ro (va_runS (As := [.ref qha, .int (nI i_14), .int (nI i_4), .int (nI i_27)]) (rest := []) ⟨hx, hb, hml, hown, hT⟩ (c_M_collides l dC dI cI cZ qha n mh (nI i_14) (nI i_4) (nI i_27) (by omega) (vp_in_nI (by omega) (by omega)) (vp_in_nI (by omega) (by omega)) (vp_in_nI (by omega) (by omega))) (vz_cwS (n := 4) hT wd_link_M_70 wd_stat_M_collides wd_ini_M wd_code_M_collides (by decide +kernel) ⟨Nat.le_of_ble_eq_true rfl, Nat.le_of_ble_eq_true rfl⟩) (vz_ps hN hK hP [1] rfl) rfl rfl hl.1 rfl (lv_room (Nat.le_of_ble_eq_true rfl)) d_M_collisions_44 ⟨Nat.zero_le _, Nat.zero_le _⟩) ?_
              refine lv_if_eq (tgt := 56) hx hb d_M_collisions_47 (by decide) (fun h7 => ?_) (fun h7 => ?_)
              ·
                refine lv_iload_n hx hb d_M_collisions_56 rfl (lv_at hl 3 rfl) ?_
                refine lv_istore_n hx hb d_M_collisions_57 rfl hl (by decide) rfl (fun ls hl => ?_)
                have hl : lv_has ls 5 [(1, .int c_27), (4, .int (nI i_27)), (3, .int (nI i_14)), (2, .int (nI i_4)), (0, .ref qo)] := hl
                refine lv_iinc (k := 1) (v := nI (i_27 + 1)) hx hb d_M_collisions_58 hl rfl (vz_inc i_27) (by decide) rfl (fun ls hl => ?_)
                have hl : lv_has ls 5 [(4, .int (nI (i_27 + 1))), (1, .int c_27), (3, .int (nI i_14)), (2, .int (nI i_4)), (0, .ref qo)] := hl
                refine lv_goto (tgt := 27) hx hb d_M_collisions_61 (by decide) ?_
                exact ih_27 (i_27 + 1) c_27 ls (by omega) (by rw [mColl_L27, if_pos h7] at hfin_27; exact hfin_27) (lv_sub hl [0, 2, 3, 1, 4] rfl)
              ·
                refine lv_iload_n hx hb d_M_collisions_50 rfl (lv_at hl 3 rfl) ?_
                refine lv_iconst (v := 1) hx hb d_M_collisions_51 (by decide) ?_
                refine lv_iadd hx hb d_M_collisions_52 ?_
                refine lv_goto (tgt := 57) hx hb d_M_collisions_53 (by decide) ?_
                refine lv_istore_n hx hb d_M_collisions_57 rfl hl (by decide) rfl (fun ls hl => ?_)
                have hl : lv_has ls 5 [(1, .int (c_27 + 1)), (4, .int (nI i_27)), (3, .int (nI i_14)), (2, .int (nI i_4)), (0, .ref qo)] := hl
                refine lv_iinc (k := 1) (v := nI (i_27 + 1)) hx hb d_M_collisions_58 hl rfl (vz_inc i_27) (by decide) rfl (fun ls hl => ?_)
                have hl : lv_has ls 5 [(4, .int (nI (i_27 + 1))), (1, .int (c_27 + 1)), (3, .int (nI i_14)), (2, .int (nI i_4)), (0, .ref qo)] := hl
                refine lv_goto (tgt := 27) hx hb d_M_collisions_61 (by decide) ?_
                exact ih_27 (i_27 + 1) (c_27 + 1) ls (by omega) (by rw [mColl_L27, if_neg h7] at hfin_27; exact hfin_27) (lv_sub hl [0, 2, 3, 1, 4] rfl)
          exact lp_27 (n - (i_14 + 1)) (i_14 + 1) c_14 _ (by omega) (by rw [mColl_L14] at hfin_14; exact hfin_14) (lv_sub hl [0, 1, 2, 3, 4] rfl)
      exact lp_14 n 0 c_4 _ (by omega) (by rw [mColl_L4] at hfin_4; exact hfin_4) (lv_sub hl [0, 1, 2, 3] rfl)
  exact lp_4 n 0 0 _ (by omega) (by rw [mColl]) (lv_sub hl [0, 1, 2] rfl)
set_option maxRecDepth 100000 in
set_option maxHeartbeats 4000000 in
theorem c_M_covered (l : Launch) (dC : Nat → ClassId) (dI : Nat → Nat → Nat) (cI cZ : ClassId) (qo qha qkn qtr qhv qbe qlo qhi qpa qne qre : Nat) (mk : Nat → Int32) (mt : Nat → Int32) (mv : Nat → Int32) (mb : Nat → Int32) (ml : Nat → Int32) (mg : Nat → Int32) (mp : Nat → Int32) (mx : Nat → Int32) (mr : Nat → Int32) (mc : Int32) (Q : Nat) (n : Nat) (mh : Nat → Int32) (u : Int32) (v : Int32) (hn : n ≤ 6) : Met l y_M_covered w_M_covered rm_M_covered (va_Pc [.ref qo, .int u, .int v] (vz_B (dC, dI) vwCl [(qo, .inr (3, [.int (nI n), .ref qha, .ref qkn, .ref qtr, .int mc, .ref qhv, .ref qbe, .int (nI Q), .ref qlo, .ref qhi, .ref qpa, .ref qne, .ref qre])), (qha, .inl (cZ, 36, .inl mh)), (qkn, .inl (cZ, 36, .inl mk)), (qtr, .inl (cZ, 36, .inl mt)), (qhv, .inl (cI, 36, .inl mv)), (qbe, .inl (cZ, 36, .inl mb)), (qlo, .inl (cI, 9, .inl ml)), (qhi, .inl (cI, 9, .inl mg)), (qpa, .inl (cI, 6, .inl mp)), (qne, .inl (cI, 6, .inl mx)), (qre, .inl (cI, 6, .inl mr))] [(cI, .int), (cZ, .boolean)])) (QcRead (mCov n mh u v)) 0 0 (fun _ => False) := by
  refine Met.ofW (cc := b_M_covered) (maxL := 3) (ret := (some .boolean)) (by decide) rfl ?_
  intro p e s m args below meth c s₁ B hml hv
  obtain ⟨rfl, hP, hK, hN⟩ := hv
  have hx := B.exec
  have hb := B.bytes
  have hr := B.returns
  have hts := atoms_spec (ws := w_M_covered) B.pre
  have hT : ∀ w ∈ vzB, w.before ([.ref qo, .int u, .int v] : List Value).toArray s = true := fun w h => hts w (List.mem_cons_of_mem _ h)
  have hown : s.vm.findClass "ArrowClassesModel" = some m.cls := findClass_of_methodNamed B.named
  have hlocks := B.notSynchronized
  have hl := lv_entry ([.ref qo, .int u, .int v]) (n := 3) (Nat.le_of_ble_eq_true rfl)
  rw [lg_entry_eq]
  generalize (lg_sl ([.ref qo, .int u, .int v]) ++ List.replicate (3 - (lg_sl ([.ref qo, .int u, .int v])).length) Slot.unset).toArray = ls at hl ⊢
  have hl : lv_has ls 3 [(0, .ref qo), (1, .int u), (2, .int v)] := hl
  refine lv_aload_n hx hb d_M_covered_0 rfl (lv_at hl 0 rfl) ?_
  refine lv_iload_n hx hb d_M_covered_1 rfl (lv_at hl 1 rfl) ?_
  refine lv_iload_n hx hb d_M_covered_2 rfl (lv_at hl 2 rfl) ?_
  refine vz_ro (va_runV (As := [.int u, .int v]) (rest := []) ⟨hx, hb, hml, hown, hT⟩ (c_M_drawn l dC dI cI cZ qo qha qkn qtr qhv qbe qlo qhi qpa qne qre mk mt mv mb ml mg mp mx mr mc Q n mh u v (by omega)) (vz_cwV (n := 2) hT wd_link_M_74 wd_inst_M_drawn wd_sel_M_drawn wd_ini_M wd_code_M_drawn (by decide +kernel) ⟨Nat.le_of_ble_eq_true rfl, Nat.le_of_ble_eq_true rfl⟩) (vz_pv (q0 := 0) (ci := 3) (q := ("ArrowClassesModel", TM, 13)) hN hK hP [0, 1, 2, 3, 4, 5, 6, 7, 8, 9, 10] rfl rfl rfl) rfl rfl hl.1 rfl (lv_room (Nat.le_of_ble_eq_true rfl)) d_M_covered_3 ⟨Nat.zero_le _, Nat.zero_le _⟩) ?_
  refine lv_if_eq (tgt := 30) hx hb d_M_covered_6 (by decide) (fun h1 => ?_) (fun h1 => ?_)
  ·
    refine lv_iconst (v := 0) hx hb d_M_covered_30 (by decide) ?_
    exact W.zret hx hb hr (by decide) (fun t ht hW => ⟨by rw [show (mCov n mh u v) = (0 : Int32) from (by rw [mCov, if_pos h1])], ht⟩) (fun q h => absurd h List.not_mem_nil) d_M_covered_31
  ·
    refine lv_aload_n hx hb d_M_covered_9 rfl (lv_at hl 0 rfl) ?_
    refine lv_iload_n hx hb d_M_covered_10 rfl (lv_at hl 2 rfl) ?_
    refine vz_ro (va_runV (As := [.int v]) (rest := []) ⟨hx, hb, hml, hown, hT⟩ (c_M_parents l dC dI cI cZ qo qha qkn qtr qhv qbe qlo qhi qpa qne qre mk mt mv mb ml mg mp mx mr mc Q n mh v (by omega)) (vz_cwV (n := 1) hT wd_link_M_67 wd_inst_M_parents wd_sel_M_parents wd_ini_M wd_code_M_parents (by decide +kernel) ⟨Nat.le_of_ble_eq_true rfl, Nat.le_of_ble_eq_true rfl⟩) (vz_pv (q0 := 0) (ci := 3) (q := ("ArrowClassesModel", TM, 13)) hN hK hP [0, 1, 2, 3, 4, 5, 6, 7, 8, 9, 10] rfl rfl rfl) rfl rfl hl.1 rfl (lv_room (Nat.le_of_ble_eq_true rfl)) d_M_covered_11 ⟨Nat.zero_le _, Nat.zero_le _⟩) ?_
    refine lv_aload_n hx hb d_M_covered_14 rfl (lv_at hl 0 rfl) ?_
    refine lv_iload_n hx hb d_M_covered_15 rfl (lv_at hl 1 rfl) ?_
    refine vz_ro (va_runV (As := [.int u]) (rest := [.int (mParents n mh v)]) ⟨hx, hb, hml, hown, hT⟩ (c_M_parents l dC dI cI cZ qo qha qkn qtr qhv qbe qlo qhi qpa qne qre mk mt mv mb ml mg mp mx mr mc Q n mh u (by omega)) (vz_cwV (n := 1) hT wd_link_M_67 wd_inst_M_parents wd_sel_M_parents wd_ini_M wd_code_M_parents (by decide +kernel) ⟨Nat.le_of_ble_eq_true rfl, Nat.le_of_ble_eq_true rfl⟩) (vz_pv (q0 := 0) (ci := 3) (q := ("ArrowClassesModel", TM, 13)) hN hK hP [0, 1, 2, 3, 4, 5, 6, 7, 8, 9, 10] rfl rfl rfl) rfl rfl hl.1 rfl (lv_room (Nat.le_of_ble_eq_true rfl)) d_M_covered_16 ⟨Nat.zero_le _, Nat.zero_le _⟩) ?_
    refine lv_iconst (v := 1) hx hb d_M_covered_19 (by decide) ?_
    refine lv_iload_n hx hb d_M_covered_20 rfl (lv_at hl 1 rfl) ?_
    refine lv_ishl hx hb d_M_covered_21 ?_
    refine lv_ior hx hb d_M_covered_22 ?_
    refine lv_icmp_ne (tgt := 30) hx hb d_M_covered_23 (by decide) (fun h2 => ?_) (fun h2 => ?_)
    ·
      refine lv_iconst (v := 0) hx hb d_M_covered_30 (by decide) ?_
      exact W.zret hx hb hr (by decide) (fun t ht hW => ⟨by rw [show (mCov n mh u v) = (0 : Int32) from (by rw [mCov, if_neg h1, if_neg h2])], ht⟩) (fun q h => absurd h List.not_mem_nil) d_M_covered_31
    ·
      refine lv_iconst (v := 1) hx hb d_M_covered_26 (by decide) ?_
      refine lv_goto (tgt := 31) hx hb d_M_covered_27 (by decide) ?_
      exact W.zret hx hb hr (by decide) (fun t ht hW => ⟨by rw [show (mCov n mh u v) = (1 : Int32) from (by rw [mCov, if_neg h1, if_pos h2])], ht⟩) (fun q h => absurd h List.not_mem_nil) d_M_covered_31
set_option maxRecDepth 100000 in
set_option maxHeartbeats 4000000 in
theorem c_M_size (l : Launch) (dC : Nat → ClassId) (dI : Nat → Nat → Nat) (cI cZ : ClassId) (set : Int32) : Met l y_M_size w_M_size rm_M_size (va_Pc [.int set] (vz_B (dC, dI) vwCl [] [(cI, .int), (cZ, .boolean)])) (QcRead (mSize set)) 0 0 (fun _ => False) := by
  refine Met.ofW (cc := b_M_size) (maxL := 3) (ret := (some .int)) (by decide) rfl ?_
  intro p e s m args below meth c s₁ B hml hv
  obtain ⟨rfl, hP, hK, hN⟩ := hv
  have hx := B.exec
  have hb := B.bytes
  have hr := B.returns
  have hts := atoms_spec (ws := w_M_size) B.pre
  have hT : ∀ w ∈ vzB, w.before ([.int set] : List Value).toArray s = true := fun w h => hts w (List.mem_cons_of_mem _ h)
  have hown : s.vm.findClass "ArrowClassesModel" = some m.cls := findClass_of_methodNamed B.named
  have hlocks := B.notSynchronized
  have hl := lv_entry ([.int set]) (n := 3) (Nat.le_of_ble_eq_true rfl)
  rw [lg_entry_eq]
  generalize (lg_sl ([.int set]) ++ List.replicate (3 - (lg_sl ([.int set])).length) Slot.unset).toArray = ls at hl ⊢
  have hl : lv_has ls 3 [(0, .int set)] := hl
  refine lv_iconst (v := 0) hx hb d_M_size_0 (by decide) ?_
  refine lv_istore_n hx hb d_M_size_1 rfl hl (by decide) rfl (fun ls hl => ?_)
  have hl : lv_has ls 3 [(1, .int 0), (0, .int set)] := hl
  refine lv_iconst (v := 0) hx hb d_M_size_2 (by decide) ?_
  refine vz_top (y := nI 0) (by decide) ?_
  refine lv_istore_n hx hb d_M_size_3 rfl hl (by decide) rfl (fun ls hl => ?_)
  have hl : lv_has ls 3 [(2, .int (nI 0)), (1, .int 0), (0, .int set)] := hl
  have lp_4 : ∀ (k_4 i_4 : Nat) (c_4 : Int32) (ls : Array Slot), i_4 + k_4 = 6 → mSize_L4 set k_4 i_4 c_4 = (mSize set) → lv_has ls 3 [(2, .int (nI i_4)), (1, .int c_4), (0, .int set)] → W p l e (headSpec w_M_size rm_M_size).room s m ([.int set] : List Value).toArray below meth c s.heap [] 0 0 (MQ below (QcRead (mSize set)) ([.int set] : List Value).toArray s 0 0 (fun _ => False)) (F0 m 4 ls []) := by
    intro k_4
    induction k_4 with
    | zero =>
      intro i_4 c_4 ls hik_4 hfin_4 hl
      refine lv_iload_n hx hb d_M_size_4 rfl (lv_at hl 0 rfl) ?_
      refine lv_bipush (v := 6) hx hb d_M_size_5 (by decide) ?_
      refine vz_top (y := nI 6) (by decide) ?_
      refine lv_icmp_ge (tgt := 24) hx hb d_M_size_7 (by decide) (fun _ => ?_) (fun h1 => by rw [nI_leI (by omega) (by omega)] at h1; omega)
      refine lv_iload_n hx hb d_M_size_24 rfl (lv_at hl 1 rfl) ?_
      exact W.iret hx hb hr (fun t ht hW => ⟨by rw [show (mSize set) = c_4 from (hfin_4.symm.trans (by rw [mSize_L4]))], ht⟩) (fun q h => absurd h List.not_mem_nil) d_M_size_25
    | succ k_4 ih_4 =>
      intro i_4 c_4 ls hik_4 hfin_4 hl
      refine lv_iload_n hx hb d_M_size_4 rfl (lv_at hl 0 rfl) ?_
      refine lv_bipush (v := 6) hx hb d_M_size_5 (by decide) ?_
      refine vz_top (y := nI 6) (by decide) ?_
      refine lv_icmp_ge (tgt := 24) hx hb d_M_size_7 (by decide) (fun h2 => by rw [nI_leI (by omega) (by omega)] at h2; omega) (fun _ => ?_)
      refine lv_iload_n hx hb d_M_size_10 rfl (lv_at hl 1 rfl) ?_
      refine lv_iload_n hx hb d_M_size_11 rfl (lv_at hl 2 rfl) ?_
      refine lv_iload_n hx hb d_M_size_12 rfl (lv_at hl 0 rfl) ?_
      refine lv_ishr hx hb d_M_size_13 ?_
      refine lv_iconst (v := 1) hx hb d_M_size_14 (by decide) ?_
      refine lv_iand hx hb d_M_size_15 ?_
      refine lv_iadd hx hb d_M_size_16 ?_
      refine lv_istore_n hx hb d_M_size_17 rfl hl (by decide) rfl (fun ls hl => ?_)
      have hl : lv_has ls 3 [(1, .int (c_4 + ((set >>> ((nI i_4) &&& 31)) &&& 1))), (2, .int (nI i_4)), (0, .int set)] := hl
      refine lv_iinc (k := 1) (v := nI (i_4 + 1)) hx hb d_M_size_18 hl rfl (vz_inc i_4) (by decide) rfl (fun ls hl => ?_)
      have hl : lv_has ls 3 [(2, .int (nI (i_4 + 1))), (1, .int (c_4 + ((set >>> ((nI i_4) &&& 31)) &&& 1))), (0, .int set)] := hl
      refine lv_goto (tgt := 4) hx hb d_M_size_21 (by decide) ?_
      exact ih_4 (i_4 + 1) (c_4 + ((set >>> ((nI i_4) &&& 31)) &&& 1)) ls (by omega) (by rw [mSize_L4] at hfin_4; exact hfin_4) (lv_sub hl [0, 1, 2] rfl)
  exact lp_4 6 0 0 _ (by omega) (by rw [mSize]) (lv_sub hl [0, 1, 2] rfl)
set_option maxRecDepth 100000 in
set_option maxHeartbeats 4000000 in
theorem c_M_blocked (l : Launch) (dC : Nat → ClassId) (dI : Nat → Nat → Nat) (cI cZ : ClassId) (qo qha qkn qtr qhv qbe qlo qhi qpa qne qre : Nat) (n : Nat) (mk : Nat → Int32) (mt : Nat → Int32) (mv : Nat → Int32) (mb : Nat → Int32) (ml : Nat → Int32) (mg : Nat → Int32) (mx : Nat → Int32) (mc : Int32) (Q : Nat) (mh : Nat → Int32) (mp : Nat → Int32) (mr : Nat → Int32) (M : Nat) (set : Int32) (hn : n ≤ 6) (hM : 2 ≤ M) (hM6 : M ≤ 6) (hpa : ∀ j, j < M → vp_in (mp j) n) : Met l y_M_blocked w_M_blocked rm_M_blocked (va_Pc [.ref qo, .int (nI M), .int set] (vz_B (dC, dI) vwCl [(qo, .inr (3, [.int (nI n), .ref qha, .ref qkn, .ref qtr, .int mc, .ref qhv, .ref qbe, .int (nI Q), .ref qlo, .ref qhi, .ref qpa, .ref qne, .ref qre])), (qha, .inl (cZ, 36, .inl mh)), (qkn, .inl (cZ, 36, .inl mk)), (qtr, .inl (cZ, 36, .inl mt)), (qhv, .inl (cI, 36, .inl mv)), (qbe, .inl (cZ, 36, .inl mb)), (qlo, .inl (cI, 9, .inl ml)), (qhi, .inl (cI, 9, .inl mg)), (qpa, .inl (cI, 6, .inl mp)), (qne, .inl (cI, 6, .inl mx)), (qre, .inl (cI, 6, .inl mr))] [(cI, .int), (cZ, .boolean)])) (QcRead (mBlocked mh mp mr M set)) 0 0 (fun _ => False) := by
  refine Met.ofW (cc := b_M_blocked) (maxL := 6) (ret := (some .boolean)) (by decide) rfl ?_
  intro p e s m args below meth c s₁ B hml hv
  obtain ⟨rfl, hP, hK, hN⟩ := hv
  have hx := B.exec
  have hb := B.bytes
  have hr := B.returns
  have hts := atoms_spec (ws := w_M_blocked) B.pre
  have hT : ∀ w ∈ vzB, w.before ([.ref qo, .int (nI M), .int set] : List Value).toArray s = true := fun w h => hts w (List.mem_cons_of_mem _ h)
  have hown : s.vm.findClass "ArrowClassesModel" = some m.cls := findClass_of_methodNamed B.named
  have hlocks := B.notSynchronized
  have hl := lv_entry ([.ref qo, .int (nI M), .int set]) (n := 6) (Nat.le_of_ble_eq_true rfl)
  rw [lg_entry_eq]
  generalize (lg_sl ([.ref qo, .int (nI M), .int set]) ++ List.replicate (6 - (lg_sl ([.ref qo, .int (nI M), .int set])).length) Slot.unset).toArray = ls at hl ⊢
  have hl : lv_has ls 6 [(0, .ref qo), (1, .int (nI M)), (2, .int set)] := hl
  refine lv_iconst (v := 1) hx hb d_M_blocked_0 (by decide) ?_
  refine vz_top (y := nI 1) (by decide) ?_
  refine lv_istore_n hx hb d_M_blocked_1 rfl hl (by decide) rfl (fun ls hl => ?_)
  have hl : lv_has ls 6 [(3, .int (nI 1)), (0, .ref qo), (1, .int (nI M)), (2, .int set)] := hl
  have lp_2 : ∀ (k_2 i_2 : Nat) (ls : Array Slot), i_2 + k_2 = (M - 1) → 1 ≤ i_2 → mBlocked_L2 mh mp mr M set k_2 i_2 = (mBlocked mh mp mr M set) → lv_has ls 6 [(3, .int (nI i_2)), (0, .ref qo), (1, .int (nI M)), (2, .int set)] → W p l e (headSpec w_M_blocked rm_M_blocked).room s m ([.ref qo, .int (nI M), .int set] : List Value).toArray below meth c s.heap [] 0 0 (MQ below (QcRead (mBlocked mh mp mr M set)) ([.ref qo, .int (nI M), .int set] : List Value).toArray s 0 0 (fun _ => False)) (F0 m 2 ls []) := by
    intro k_2
    induction k_2 with
    | zero =>
      intro i_2 ls hik_2 hinv_2 hfin_2 hl
      refine lv_iload_n hx hb d_M_blocked_2 rfl (lv_at hl 0 rfl) ?_
      refine lv_iload_n hx hb d_M_blocked_3 rfl (lv_at hl 2 rfl) ?_
      refine lv_iconst (v := 1) hx hb d_M_blocked_4 (by decide) ?_
      refine lv_isub hx hb d_M_blocked_5 ?_
      refine vz_top (y := nI (M - 1)) (vz_sub1 (by omega)) ?_
      refine lv_icmp_ge (tgt := 106) hx hb d_M_blocked_6 (by decide) (fun _ => ?_) (fun h1 => by rw [nI_leI (by omega) (by omega)] at h1; omega)
      refine lv_iconst (v := 0) hx hb d_M_blocked_106 (by decide) ?_
      exact W.zret hx hb hr (by decide) (fun t ht hW => ⟨by rw [show (mBlocked mh mp mr M set) = (0 : Int32) from (hfin_2.symm.trans (by rw [mBlocked_L2]))], ht⟩) (fun q h => absurd h List.not_mem_nil) d_M_blocked_107
    | succ k_2 ih_2 =>
      intro i_2 ls hik_2 hinv_2 hfin_2 hl
      refine lv_iload_n hx hb d_M_blocked_2 rfl (lv_at hl 0 rfl) ?_
      refine lv_iload_n hx hb d_M_blocked_3 rfl (lv_at hl 2 rfl) ?_
      refine lv_iconst (v := 1) hx hb d_M_blocked_4 (by decide) ?_
      refine lv_isub hx hb d_M_blocked_5 ?_
      refine vz_top (y := nI (M - 1)) (vz_sub1 (by omega)) ?_
      refine lv_icmp_ge (tgt := 106) hx hb d_M_blocked_6 (by decide) (fun h2 => by rw [nI_leI (by omega) (by omega)] at h2; omega) (fun _ => ?_)
      refine lv_aload_n hx hb d_M_blocked_9 rfl (lv_at hl 1 rfl) ?_
      refine va_get (D := (dC, dI)) (ci := 3) (v := .ref qpa) (C := "ArrowClassesModel") (T := TM) (N := 13) hx hb hT inM hown hK hP 0 rfl rfl 10 (by decide) (hT _ wd_fld_M_32) (fun _ h9 => h9) rfl d_M_blocked_10 ?_
      refine lv_iload_n hx hb d_M_blocked_13 rfl (lv_at hl 0 rfl) ?_
      refine va_iald (D := (dC, dI)) hx hb hK hP 8 0 rfl rfl (vp_in_nI (by omega) (by omega)) d_M_blocked_14 ?_
      refine lv_istore hx hb d_M_blocked_15 hl (by decide) rfl (fun ls hl => ?_)
      have hl : lv_has ls 6 [(4, .int (mp (nI i_2).toNatClampNeg)), (3, .int (nI i_2)), (0, .ref qo), (1, .int (nI M)), (2, .int set)] := hl
      refine lv_aload_n hx hb d_M_blocked_17 rfl (lv_at hl 2 rfl) ?_
      refine va_get (D := (dC, dI)) (ci := 3) (v := .ref qha) (C := "ArrowClassesModel") (T := TM) (N := 13) hx hb hT inM hown hK hP 0 rfl rfl 1 (by decide) (hT _ wd_fld_M_7) (fun _ h9 => h9) rfl d_M_blocked_18 ?_
      refine lv_bipush (v := 6) hx hb d_M_blocked_21 (by decide) ?_
      refine lv_aload_n hx hb d_M_blocked_23 rfl (lv_at hl 2 rfl) ?_
      refine va_get (D := (dC, dI)) (ci := 3) (v := .ref qpa) (C := "ArrowClassesModel") (T := TM) (N := 13) hx hb hT inM hown hK hP 0 rfl rfl 10 (by decide) (hT _ wd_fld_M_32) (fun _ h9 => h9) rfl d_M_blocked_24 ?_
      refine lv_iload_n hx hb d_M_blocked_27 rfl (lv_at hl 1 rfl) ?_
      refine lv_iconst (v := 1) hx hb d_M_blocked_28 (by decide) ?_
      refine lv_isub hx hb d_M_blocked_29 ?_
      refine va_iald (D := (dC, dI)) hx hb hK hP 8 0 rfl rfl (by rw [vz_sub1 (by omega)]; exact vp_in_nI (by omega) (by omega)) d_M_blocked_30 ?_
      refine lv_imul hx hb d_M_blocked_31 ?_
      refine lv_iload hx hb d_M_blocked_32 (lv_at hl 0 rfl) ?_
      refine lv_iadd hx hb d_M_blocked_34 ?_
      refine va_zald (D := (dC, dI)) hx hb hK hP 1 1 rfl rfl (vz_ix hn (hpa _ (by rw [vz_sub1 (by omega), nI_clamp (by omega)]; omega)) (hpa _ (by rw [nI_clamp (by omega)]; omega))) d_M_blocked_35 ?_
      refine lv_if_eq (tgt := 65) hx hb d_M_blocked_36 (by decide) (fun h3 => ?_) (fun h3 => ?_)
      ·
        refine lv_iconst (v := 0) hx hb d_M_blocked_65 (by decide) ?_
        refine lv_istore hx hb d_M_blocked_66 hl (by decide) rfl (fun ls hl => ?_)
        have hl : lv_has ls 6 [(5, .int 0), (4, .int (mp (nI i_2).toNatClampNeg)), (3, .int (nI i_2)), (0, .ref qo), (1, .int (nI M)), (2, .int set)] := hl
        refine lv_iload hx hb d_M_blocked_68 (lv_at hl 0 rfl) ?_
        refine lv_if_eq (tgt := 88) hx hb d_M_blocked_70 (by decide) (fun _ => ?_) (fun h4 => absurd h4 (by decide))
        refine lv_iload_n hx hb d_M_blocked_88 rfl (lv_at hl 5 rfl) ?_
        refine lv_iload hx hb d_M_blocked_89 (lv_at hl 1 rfl) ?_
        refine lv_ishr hx hb d_M_blocked_91 ?_
        refine lv_iconst (v := 1) hx hb d_M_blocked_92 (by decide) ?_
        refine lv_iand hx hb d_M_blocked_93 ?_
        refine lv_iconst (v := 1) hx hb d_M_blocked_94 (by decide) ?_
        refine lv_icmp_ne (tgt := 100) hx hb d_M_blocked_95 (by decide) (fun h5 => ?_) (fun h5 => ?_)
        ·
          refine lv_iinc (k := 2) (v := nI (i_2 + 1)) hx hb d_M_blocked_100 hl rfl (vz_inc i_2) (by decide) rfl (fun ls hl => ?_)
          have hl : lv_has ls 6 [(3, .int (nI (i_2 + 1))), (5, .int 0), (4, .int (mp (nI i_2).toNatClampNeg)), (0, .ref qo), (1, .int (nI M)), (2, .int set)] := hl
          refine lv_goto (tgt := 2) hx hb d_M_blocked_103 (by decide) ?_
          exact ih_2 (i_2 + 1) ls (by omega) (by omega) (by rw [mBlocked_L2, if_pos h3, if_neg h5] at hfin_2; exact hfin_2) (lv_sub hl [0, 3, 4, 5] rfl)
        ·
          refine lv_iconst (v := 1) hx hb d_M_blocked_98 (by decide) ?_
          exact W.zret hx hb hr (by decide) (fun t ht hW => ⟨by rw [show (mBlocked mh mp mr M set) = (1 : Int32) from (hfin_2.symm.trans (by rw [mBlocked_L2, if_pos h3, if_pos h5]))], ht⟩) (fun q h => absurd h List.not_mem_nil) d_M_blocked_99
      ·
        refine lv_aload_n hx hb d_M_blocked_39 rfl (lv_at hl 2 rfl) ?_
        refine va_get (D := (dC, dI)) (ci := 3) (v := .ref qha) (C := "ArrowClassesModel") (T := TM) (N := 13) hx hb hT inM hown hK hP 0 rfl rfl 1 (by decide) (hT _ wd_fld_M_7) (fun _ h9 => h9) rfl d_M_blocked_40 ?_
        refine lv_bipush (v := 6) hx hb d_M_blocked_43 (by decide) ?_
        refine lv_aload_n hx hb d_M_blocked_45 rfl (lv_at hl 2 rfl) ?_
        refine va_get (D := (dC, dI)) (ci := 3) (v := .ref qpa) (C := "ArrowClassesModel") (T := TM) (N := 13) hx hb hT inM hown hK hP 0 rfl rfl 10 (by decide) (hT _ wd_fld_M_32) (fun _ h9 => h9) rfl d_M_blocked_46 ?_
        refine lv_iload_n hx hb d_M_blocked_49 rfl (lv_at hl 1 rfl) ?_
        refine lv_iconst (v := 1) hx hb d_M_blocked_50 (by decide) ?_
        refine lv_iadd hx hb d_M_blocked_51 ?_
        refine va_iald (D := (dC, dI)) hx hb hK hP 8 0 rfl rfl (by rw [nI_1]; exact vp_in_nI (by omega) (by omega)) d_M_blocked_52 ?_
        refine lv_imul hx hb d_M_blocked_53 ?_
        refine lv_iload hx hb d_M_blocked_54 (lv_at hl 0 rfl) ?_
        refine lv_iadd hx hb d_M_blocked_56 ?_
        refine va_zald (D := (dC, dI)) hx hb hK hP 1 1 rfl rfl (vz_ix hn (hpa _ (by rw [nI_1, nI_clamp (by omega)]; omega)) (hpa _ (by rw [nI_clamp (by omega)]; omega))) d_M_blocked_57 ?_
        refine lv_if_eq (tgt := 65) hx hb d_M_blocked_58 (by decide) (fun h6 => ?_) (fun h6 => ?_)
        ·
          refine lv_iconst (v := 0) hx hb d_M_blocked_65 (by decide) ?_
          refine lv_istore hx hb d_M_blocked_66 hl (by decide) rfl (fun ls hl => ?_)
          have hl : lv_has ls 6 [(5, .int 0), (4, .int (mp (nI i_2).toNatClampNeg)), (3, .int (nI i_2)), (0, .ref qo), (1, .int (nI M)), (2, .int set)] := hl
          refine lv_iload hx hb d_M_blocked_68 (lv_at hl 0 rfl) ?_
          refine lv_if_eq (tgt := 88) hx hb d_M_blocked_70 (by decide) (fun _ => ?_) (fun h7 => absurd h7 (by decide))
          refine lv_iload_n hx hb d_M_blocked_88 rfl (lv_at hl 5 rfl) ?_
          refine lv_iload hx hb d_M_blocked_89 (lv_at hl 1 rfl) ?_
          refine lv_ishr hx hb d_M_blocked_91 ?_
          refine lv_iconst (v := 1) hx hb d_M_blocked_92 (by decide) ?_
          refine lv_iand hx hb d_M_blocked_93 ?_
          refine lv_iconst (v := 1) hx hb d_M_blocked_94 (by decide) ?_
          refine lv_icmp_ne (tgt := 100) hx hb d_M_blocked_95 (by decide) (fun h8 => ?_) (fun h8 => ?_)
          ·
            refine lv_iinc (k := 2) (v := nI (i_2 + 1)) hx hb d_M_blocked_100 hl rfl (vz_inc i_2) (by decide) rfl (fun ls hl => ?_)
            have hl : lv_has ls 6 [(3, .int (nI (i_2 + 1))), (5, .int 0), (4, .int (mp (nI i_2).toNatClampNeg)), (0, .ref qo), (1, .int (nI M)), (2, .int set)] := hl
            refine lv_goto (tgt := 2) hx hb d_M_blocked_103 (by decide) ?_
            exact ih_2 (i_2 + 1) ls (by omega) (by omega) (by rw [mBlocked_L2, if_neg h3, if_pos h6, if_neg h8] at hfin_2; exact hfin_2) (lv_sub hl [0, 3, 4, 5] rfl)
          ·
            refine lv_iconst (v := 1) hx hb d_M_blocked_98 (by decide) ?_
            exact W.zret hx hb hr (by decide) (fun t ht hW => ⟨by rw [show (mBlocked mh mp mr M set) = (1 : Int32) from (hfin_2.symm.trans (by rw [mBlocked_L2, if_neg h3, if_pos h6, if_pos h8]))], ht⟩) (fun q h => absurd h List.not_mem_nil) d_M_blocked_99
        ·
          refine lv_iconst (v := 1) hx hb d_M_blocked_61 (by decide) ?_
          refine lv_goto (tgt := 66) hx hb d_M_blocked_62 (by decide) ?_
          refine lv_istore hx hb d_M_blocked_66 hl (by decide) rfl (fun ls hl => ?_)
          have hl : lv_has ls 6 [(5, .int 1), (4, .int (mp (nI i_2).toNatClampNeg)), (3, .int (nI i_2)), (0, .ref qo), (1, .int (nI M)), (2, .int set)] := hl
          refine lv_iload hx hb d_M_blocked_68 (lv_at hl 0 rfl) ?_
          refine lv_if_eq (tgt := 88) hx hb d_M_blocked_70 (by decide) (fun h9 => absurd h9 (by decide)) (fun _ => ?_)
          refine lv_aload_n hx hb d_M_blocked_73 rfl (lv_at hl 3 rfl) ?_
          refine va_get (D := (dC, dI)) (ci := 3) (v := .ref qre) (C := "ArrowClassesModel") (T := TM) (N := 13) hx hb hT inM hown hK hP 0 rfl rfl 12 (by decide) (hT _ wd_fld_M_38) (fun _ h9 => h9) rfl d_M_blocked_74 ?_
          refine lv_iload hx hb d_M_blocked_77 (lv_at hl 1 rfl) ?_
          refine va_iald (D := (dC, dI)) hx hb hK hP 10 0 rfl rfl (vz_in6 hn (hpa _ (by rw [nI_clamp (by omega)]; omega))) d_M_blocked_79 ?_
          refine lv_iload_n hx hb d_M_blocked_80 rfl (lv_at hl 5 rfl) ?_
          refine lv_iand hx hb d_M_blocked_81 ?_
          refine lv_if_ne (tgt := 100) hx hb d_M_blocked_82 (by decide) (fun h10 => ?_) (fun h10 => ?_)
          ·
            refine lv_iinc (k := 2) (v := nI (i_2 + 1)) hx hb d_M_blocked_100 hl rfl (vz_inc i_2) (by decide) rfl (fun ls hl => ?_)
            have hl : lv_has ls 6 [(3, .int (nI (i_2 + 1))), (5, .int 1), (4, .int (mp (nI i_2).toNatClampNeg)), (0, .ref qo), (1, .int (nI M)), (2, .int set)] := hl
            refine lv_goto (tgt := 2) hx hb d_M_blocked_103 (by decide) ?_
            exact ih_2 (i_2 + 1) ls (by omega) (by omega) (by rw [mBlocked_L2, if_neg h3, if_neg h6, if_neg h10] at hfin_2; exact hfin_2) (lv_sub hl [0, 3, 4, 5] rfl)
          ·
            refine lv_goto (tgt := 98) hx hb d_M_blocked_85 (by decide) ?_
            refine lv_iconst (v := 1) hx hb d_M_blocked_98 (by decide) ?_
            exact W.zret hx hb hr (by decide) (fun t ht hW => ⟨by rw [show (mBlocked mh mp mr M set) = (1 : Int32) from (hfin_2.symm.trans (by rw [mBlocked_L2, if_neg h3, if_neg h6, if_pos h10]))], ht⟩) (fun q h => absurd h List.not_mem_nil) d_M_blocked_99
  exact lp_2 ((M - 1) - 1) 1 _ (by omega) (by omega) (by rw [mBlocked]) (lv_sub hl [0, 1, 2, 3] rfl)
set_option maxRecDepth 100000 in
set_option maxHeartbeats 4000000 in
theorem c_M_onPath (l : Launch) (dC : Nat → ClassId) (dI : Nat → Nat → Nat) (cI cZ : ClassId) (qo qha qkn qtr qhv qbe qlo qhi qpa qne qre : Nat) (n : Nat) (mh : Nat → Int32) (mk : Nat → Int32) (mt : Nat → Int32) (mv : Nat → Int32) (mb : Nat → Int32) (ml : Nat → Int32) (mg : Nat → Int32) (mx : Nat → Int32) (mr : Nat → Int32) (mc : Int32) (Q : Nat) (mp : Nat → Int32) (v : Int32) (M : Nat) (hM6 : M ≤ 6) : Met l y_M_onPath w_M_onPath rm_M_onPath (va_Pc [.ref qo, .int v, .int (nI M)] (vz_B (dC, dI) vwCl [(qo, .inr (3, [.int (nI n), .ref qha, .ref qkn, .ref qtr, .int mc, .ref qhv, .ref qbe, .int (nI Q), .ref qlo, .ref qhi, .ref qpa, .ref qne, .ref qre])), (qha, .inl (cZ, 36, .inl mh)), (qkn, .inl (cZ, 36, .inl mk)), (qtr, .inl (cZ, 36, .inl mt)), (qhv, .inl (cI, 36, .inl mv)), (qbe, .inl (cZ, 36, .inl mb)), (qlo, .inl (cI, 9, .inl ml)), (qhi, .inl (cI, 9, .inl mg)), (qpa, .inl (cI, 6, .inl mp)), (qne, .inl (cI, 6, .inl mx)), (qre, .inl (cI, 6, .inl mr))] [(cI, .int), (cZ, .boolean)])) (QcRead (mOnPath mp v M)) 0 0 (fun _ => False) := by
  refine Met.ofW (cc := b_M_onPath) (maxL := 5) (ret := (some .boolean)) (by decide) rfl ?_
  intro p e s m args below meth c s₁ B hml hv
  obtain ⟨rfl, hP, hK, hN⟩ := hv
  have hx := B.exec
  have hb := B.bytes
  have hr := B.returns
  have hts := atoms_spec (ws := w_M_onPath) B.pre
  have hT : ∀ w ∈ vzB, w.before ([.ref qo, .int v, .int (nI M)] : List Value).toArray s = true := fun w h => hts w (List.mem_cons_of_mem _ h)
  have hown : s.vm.findClass "ArrowClassesModel" = some m.cls := findClass_of_methodNamed B.named
  have hlocks := B.notSynchronized
  have hl := lv_entry ([.ref qo, .int v, .int (nI M)]) (n := 5) (Nat.le_of_ble_eq_true rfl)
  rw [lg_entry_eq]
  generalize (lg_sl ([.ref qo, .int v, .int (nI M)]) ++ List.replicate (5 - (lg_sl ([.ref qo, .int v, .int (nI M)])).length) Slot.unset).toArray = ls at hl ⊢
  have hl : lv_has ls 5 [(0, .ref qo), (1, .int v), (2, .int (nI M))] := hl
  refine lv_iconst (v := 0) hx hb d_M_onPath_0 (by decide) ?_
  refine lv_istore_n hx hb d_M_onPath_1 rfl hl (by decide) rfl (fun ls hl => ?_)
  have hl : lv_has ls 5 [(3, .int 0), (0, .ref qo), (1, .int v), (2, .int (nI M))] := hl
  refine lv_iconst (v := 0) hx hb d_M_onPath_2 (by decide) ?_
  refine vz_top (y := nI 0) (by decide) ?_
  refine lv_istore hx hb d_M_onPath_3 hl (by decide) rfl (fun ls hl => ?_)
  have hl : lv_has ls 5 [(4, .int (nI 0)), (3, .int 0), (0, .ref qo), (1, .int v), (2, .int (nI M))] := hl
  have lp_5 : ∀ (k_5 i_5 : Nat) (f_5 : Int32) (ls : Array Slot), i_5 + k_5 = M → f_5 = 0 ∨ f_5 = 1 → mOnPath_L5 mp v M k_5 i_5 f_5 = (mOnPath mp v M) → lv_has ls 5 [(4, .int (nI i_5)), (3, .int f_5), (0, .ref qo), (1, .int v), (2, .int (nI M))] → W p l e (headSpec w_M_onPath rm_M_onPath).room s m ([.ref qo, .int v, .int (nI M)] : List Value).toArray below meth c s.heap [] 0 0 (MQ below (QcRead (mOnPath mp v M)) ([.ref qo, .int v, .int (nI M)] : List Value).toArray s 0 0 (fun _ => False)) (F0 m 5 ls []) := by
    intro k_5
    induction k_5 with
    | zero =>
      intro i_5 f_5 ls hik_5 hinv_5 hfin_5 hl
      refine lv_iload hx hb d_M_onPath_5 (lv_at hl 0 rfl) ?_
      refine lv_iload_n hx hb d_M_onPath_7 rfl (lv_at hl 4 rfl) ?_
      refine lv_icmp_ge (tgt := 38) hx hb d_M_onPath_8 (by decide) (fun _ => ?_) (fun h1 => by rw [nI_leI (by omega) (by omega)] at h1; omega)
      refine lv_iload_n hx hb d_M_onPath_38 rfl (lv_at hl 1 rfl) ?_
      exact W.zret hx hb hr (vz_nz hinv_5) (fun t ht hW => ⟨by rw [show (mOnPath mp v M) = f_5 from (hfin_5.symm.trans (by rw [mOnPath_L5]))], ht⟩) (fun q h => absurd h List.not_mem_nil) d_M_onPath_39
    | succ k_5 ih_5 =>
      intro i_5 f_5 ls hik_5 hinv_5 hfin_5 hl
      refine lv_iload hx hb d_M_onPath_5 (lv_at hl 0 rfl) ?_
      refine lv_iload_n hx hb d_M_onPath_7 rfl (lv_at hl 4 rfl) ?_
      refine lv_icmp_ge (tgt := 38) hx hb d_M_onPath_8 (by decide) (fun h2 => by rw [nI_leI (by omega) (by omega)] at h2; omega) (fun _ => ?_)
      refine lv_iload_n hx hb d_M_onPath_11 rfl (lv_at hl 1 rfl) ?_
      refine lv_if_ne (tgt := 26) hx hb d_M_onPath_12 (by decide) (fun h3 => ?_) (fun h3 => ?_)
      ·
        refine lv_iconst (v := 1) hx hb d_M_onPath_26 (by decide) ?_
        refine lv_goto (tgt := 31) hx hb d_M_onPath_27 (by decide) ?_
        refine lv_istore_n hx hb d_M_onPath_31 rfl hl (by decide) rfl (fun ls hl => ?_)
        have hl : lv_has ls 5 [(3, .int 1), (4, .int (nI i_5)), (0, .ref qo), (1, .int v), (2, .int (nI M))] := hl
        refine lv_iinc (k := 1) (v := nI (i_5 + 1)) hx hb d_M_onPath_32 hl rfl (vz_inc i_5) (by decide) rfl (fun ls hl => ?_)
        have hl : lv_has ls 5 [(4, .int (nI (i_5 + 1))), (3, .int 1), (0, .ref qo), (1, .int v), (2, .int (nI M))] := hl
        refine lv_goto (tgt := 5) hx hb d_M_onPath_35 (by decide) ?_
        exact ih_5 (i_5 + 1) 1 ls (by omega) (by first | exact Or.inl rfl | exact Or.inr rfl) (by rw [mOnPath_L5, if_neg h3] at hfin_5; exact hfin_5) (lv_sub hl [0, 1, 2, 3, 4] rfl)
      ·
        refine lv_aload_n hx hb d_M_onPath_15 rfl (lv_at hl 2 rfl) ?_
        refine va_get (D := (dC, dI)) (ci := 3) (v := .ref qpa) (C := "ArrowClassesModel") (T := TM) (N := 13) hx hb hT inM hown hK hP 0 rfl rfl 10 (by decide) (hT _ wd_fld_M_32) (fun _ h9 => h9) rfl d_M_onPath_16 ?_
        refine lv_iload hx hb d_M_onPath_19 (lv_at hl 0 rfl) ?_
        refine va_iald (D := (dC, dI)) hx hb hK hP 8 0 rfl rfl (vp_in_nI (by omega) (by omega)) d_M_onPath_21 ?_
        refine lv_iload_n hx hb d_M_onPath_22 rfl (lv_at hl 3 rfl) ?_
        refine lv_icmp_ne (tgt := 30) hx hb d_M_onPath_23 (by decide) (fun h4 => ?_) (fun h4 => ?_)
        ·
          refine lv_iconst (v := 0) hx hb d_M_onPath_30 (by decide) ?_
          refine lv_istore_n hx hb d_M_onPath_31 rfl hl (by decide) rfl (fun ls hl => ?_)
          have hl : lv_has ls 5 [(3, .int 0), (4, .int (nI i_5)), (0, .ref qo), (1, .int v), (2, .int (nI M))] := hl
          refine lv_iinc (k := 1) (v := nI (i_5 + 1)) hx hb d_M_onPath_32 hl rfl (vz_inc i_5) (by decide) rfl (fun ls hl => ?_)
          have hl : lv_has ls 5 [(4, .int (nI (i_5 + 1))), (3, .int 0), (0, .ref qo), (1, .int v), (2, .int (nI M))] := hl
          refine lv_goto (tgt := 5) hx hb d_M_onPath_35 (by decide) ?_
          exact ih_5 (i_5 + 1) 0 ls (by omega) (by first | exact Or.inl rfl | exact Or.inr rfl) (by rw [mOnPath_L5, if_pos h3, if_neg h4] at hfin_5; exact hfin_5) (lv_sub hl [0, 1, 2, 3, 4] rfl)
        ·
          refine lv_iconst (v := 1) hx hb d_M_onPath_26 (by decide) ?_
          refine lv_goto (tgt := 31) hx hb d_M_onPath_27 (by decide) ?_
          refine lv_istore_n hx hb d_M_onPath_31 rfl hl (by decide) rfl (fun ls hl => ?_)
          have hl : lv_has ls 5 [(3, .int 1), (4, .int (nI i_5)), (0, .ref qo), (1, .int v), (2, .int (nI M))] := hl
          refine lv_iinc (k := 1) (v := nI (i_5 + 1)) hx hb d_M_onPath_32 hl rfl (vz_inc i_5) (by decide) rfl (fun ls hl => ?_)
          have hl : lv_has ls 5 [(4, .int (nI (i_5 + 1))), (3, .int 1), (0, .ref qo), (1, .int v), (2, .int (nI M))] := hl
          refine lv_goto (tgt := 5) hx hb d_M_onPath_35 (by decide) ?_
          exact ih_5 (i_5 + 1) 1 ls (by omega) (by first | exact Or.inl rfl | exact Or.inr rfl) (by rw [mOnPath_L5, if_pos h3, if_pos h4] at hfin_5; exact hfin_5) (lv_sub hl [0, 1, 2, 3, 4] rfl)
  exact lp_5 M 0 0 _ (by omega) (Or.inl rfl) (by rw [mOnPath]) (lv_sub hl [0, 1, 2, 3, 4] rfl)
set_option maxRecDepth 100000 in
set_option maxHeartbeats 4000000 in
theorem c_M_findPairs (l : Launch) (dC : Nat → ClassId) (dI : Nat → Nat → Nat) (cI cZ : ClassId) (qo qha qkn qtr qhv qbe qlo qhi qpa qne qre : Nat) (mk : Nat → Int32) (mt : Nat → Int32) (mv : Nat → Int32) (mb : Nat → Int32) (mp : Nat → Int32) (mx : Nat → Int32) (mr : Nat → Int32) (mc : Int32) (Q : Nat) (n : Nat) (mh : Nat → Int32) (ml : Nat → Int32) (mg : Nat → Int32) (hn : n ≤ 6) (hJ : jcO mh n n 0 ≤ 9) (sz : Nat) : Met l y_M_findPairs w_M_findPairs rm_M_findPairs (va_Pc [.ref qo] (vz_Bw (dC, dI) vwCl [(qo, .inr (3, [.int (nI n), .ref qha, .ref qkn, .ref qtr, .int mc, .ref qhv, .ref qbe, .int (nI Q), .ref qlo, .ref qhi, .ref qpa, .ref qne, .ref qre])), (qha, .inl (cZ, 36, .inl mh)), (qkn, .inl (cZ, 36, .inl mk)), (qtr, .inl (cZ, 36, .inl mt)), (qhv, .inl (cI, 36, .inl mv)), (qbe, .inl (cZ, 36, .inl mb)), (qlo, .inl (cI, 9, .inl ml)), (qhi, .inl (cI, 9, .inl mg)), (qpa, .inl (cI, 6, .inl mp)), (qne, .inl (cI, 6, .inl mx)), (qre, .inl (cI, 6, .inl mr))] [(cI, .int), (cZ, .boolean)] sz)) (va_Qv (fun _ : Unit => True) (fun (_ : Unit) t => va_P (dC, dI) vwCl [(qo, .inr (3, [.int (nI n), .ref qha, .ref qkn, .ref qtr, .int mc, .ref qhv, .ref qbe, .int (nI ((mFind n mh ml mg).1)), .ref qlo, .ref qhi, .ref qpa, .ref qne, .ref qre])), (qha, .inl (cZ, 36, .inl mh)), (qkn, .inl (cZ, 36, .inl mk)), (qtr, .inl (cZ, 36, .inl mt)), (qhv, .inl (cI, 36, .inl mv)), (qbe, .inl (cZ, 36, .inl mb)), (qlo, .inl (cI, 9, .inl ((mFind n mh ml mg).2.1))), (qhi, .inl (cI, 9, .inl ((mFind n mh ml mg).2.2))), (qpa, .inl (cI, 6, .inl mp)), (qne, .inl (cI, 6, .inl mx)), (qre, .inl (cI, 6, .inl mr))] t.heap ∧ va_K (dC, dI) vwCl [(cI, .int), (cZ, .boolean)] t ∧ va_D (va_A [(qo, .inr (3, [.int (nI n), .ref qha, .ref qkn, .ref qtr, .int mc, .ref qhv, .ref qbe, .int (nI Q), .ref qlo, .ref qhi, .ref qpa, .ref qne, .ref qre])), (qha, .inl (cZ, 36, .inl mh)), (qkn, .inl (cZ, 36, .inl mk)), (qtr, .inl (cZ, 36, .inl mt)), (qhv, .inl (cI, 36, .inl mv)), (qbe, .inl (cZ, 36, .inl mb)), (qlo, .inl (cI, 9, .inl ml)), (qhi, .inl (cI, 9, .inl mg)), (qpa, .inl (cI, 6, .inl mp)), (qne, .inl (cI, 6, .inl mx)), (qre, .inl (cI, 6, .inl mr))] sz) [(qo, .inr (3, [.int (nI n), .ref qha, .ref qkn, .ref qtr, .int mc, .ref qhv, .ref qbe, .int (nI ((mFind n mh ml mg).1)), .ref qlo, .ref qhi, .ref qpa, .ref qne, .ref qre])), (qha, .inl (cZ, 36, .inl mh)), (qkn, .inl (cZ, 36, .inl mk)), (qtr, .inl (cZ, 36, .inl mt)), (qhv, .inl (cI, 36, .inl mv)), (qbe, .inl (cZ, 36, .inl mb)), (qlo, .inl (cI, 9, .inl ((mFind n mh ml mg).2.1))), (qhi, .inl (cI, 9, .inl ((mFind n mh ml mg).2.2))), (qpa, .inl (cI, 6, .inl mp)), (qne, .inl (cI, 6, .inl mx)), (qre, .inl (cI, 6, .inl mr))]) (va_A [(qo, .inr (3, [.int (nI n), .ref qha, .ref qkn, .ref qtr, .int mc, .ref qhv, .ref qbe, .int (nI Q), .ref qlo, .ref qhi, .ref qpa, .ref qne, .ref qre])), (qha, .inl (cZ, 36, .inl mh)), (qkn, .inl (cZ, 36, .inl mk)), (qtr, .inl (cZ, 36, .inl mt)), (qhv, .inl (cI, 36, .inl mv)), (qbe, .inl (cZ, 36, .inl mb)), (qlo, .inl (cI, 9, .inl ml)), (qhi, .inl (cI, 9, .inl mg)), (qpa, .inl (cI, 6, .inl mp)), (qne, .inl (cI, 6, .inl mx)), (qre, .inl (cI, 6, .inl mr))] sz)) 0 0 (va_A [(qo, .inr (3, [.int (nI n), .ref qha, .ref qkn, .ref qtr, .int mc, .ref qhv, .ref qbe, .int (nI Q), .ref qlo, .ref qhi, .ref qpa, .ref qne, .ref qre])), (qha, .inl (cZ, 36, .inl mh)), (qkn, .inl (cZ, 36, .inl mk)), (qtr, .inl (cZ, 36, .inl mt)), (qhv, .inl (cI, 36, .inl mv)), (qbe, .inl (cZ, 36, .inl mb)), (qlo, .inl (cI, 9, .inl ml)), (qhi, .inl (cI, 9, .inl mg)), (qpa, .inl (cI, 6, .inl mp)), (qne, .inl (cI, 6, .inl mx)), (qre, .inl (cI, 6, .inl mr))] sz) := by
  refine Met.ofW (cc := b_M_findPairs) (maxL := 3) (ret := none) (by decide) rfl ?_
  intro p e s m args below meth c s₁ B hml hv
  obtain ⟨rfl, hsz, hP, hK, hD0, hN⟩ := hv
  have hx := B.exec
  have hb := B.bytes
  have hr := B.returns
  have hts := atoms_spec (ws := w_M_findPairs) B.pre
  have hT : ∀ w ∈ vzB, w.before ([.ref qo] : List Value).toArray s = true := fun w h => hts w (List.mem_cons_of_mem _ h)
  have hown : s.vm.findClass "ArrowClassesModel" = some m.cls := findClass_of_methodNamed B.named
  have hlocks := B.notSynchronized
  subst hsz
  have hD := hD0.self (sz := s.heap.size)
  have hA : ∀ q : Nat, s.heap.size ≤ q → va_A [(qo, .inr (3, [.int (nI n), .ref qha, .ref qkn, .ref qtr, .int mc, .ref qhv, .ref qbe, .int (nI Q), .ref qlo, .ref qhi, .ref qpa, .ref qne, .ref qre])), (qha, .inl (cZ, 36, .inl mh)), (qkn, .inl (cZ, 36, .inl mk)), (qtr, .inl (cZ, 36, .inl mt)), (qhv, .inl (cI, 36, .inl mv)), (qbe, .inl (cZ, 36, .inl mb)), (qlo, .inl (cI, 9, .inl ml)), (qhi, .inl (cI, 9, .inl mg)), (qpa, .inl (cI, 6, .inl mp)), (qne, .inl (cI, 6, .inl mx)), (qre, .inl (cI, 6, .inl mr))] s.heap.size q := fun q h => Or.inr h
  have hS : va_S (va_A [(qo, .inr (3, [.int (nI n), .ref qha, .ref qkn, .ref qtr, .int mc, .ref qhv, .ref qbe, .int (nI Q), .ref qlo, .ref qhi, .ref qpa, .ref qne, .ref qre])), (qha, .inl (cZ, 36, .inl mh)), (qkn, .inl (cZ, 36, .inl mk)), (qtr, .inl (cZ, 36, .inl mt)), (qhv, .inl (cI, 36, .inl mv)), (qbe, .inl (cZ, 36, .inl mb)), (qlo, .inl (cI, 9, .inl ml)), (qhi, .inl (cI, 9, .inl mg)), (qpa, .inl (cI, 6, .inl mp)), (qne, .inl (cI, 6, .inl mx)), (qre, .inl (cI, 6, .inl mr))] s.heap.size) s.heap s.heap [] := va_S.rf
  have hl := lv_entry ([.ref qo]) (n := 3) (Nat.le_of_ble_eq_true rfl)
  rw [lg_entry_eq]
  generalize (lg_sl ([.ref qo]) ++ List.replicate (3 - (lg_sl ([.ref qo])).length) Slot.unset).toArray = ls at hl ⊢
  have hl : lv_has ls 3 [(0, .ref qo)] := hl
  refine lv_aload_n hx hb d_M_findPairs_0 rfl (lv_at hl 0 rfl) ?_
  refine lv_iconst (v := 0) hx hb d_M_findPairs_1 (by decide) ?_
  refine vz_top (y := nI 0) (by decide) ?_
  refine va_put (D := (dC, dI)) (ci := 3) (v := .int (nI 0)) (ty := .int) (C := "ArrowClassesModel") (T := TM) (N := 13) hx hb hT inM tyM okM nmM hown hK hP hD hS 0 rfl rfl 7 (by decide) (hT _ wd_fld_M_93) (fun _ h9 => h9) rfl (by decide +kernel) rfl rfl (Nat.le_of_ble_eq_true rfl) d_M_findPairs_2 (fun H locs hP hD hS => ?_)
  have hP : va_P (dC, dI) vwCl [(qo, .inr (3, [.int (nI n), .ref qha, .ref qkn, .ref qtr, .int mc, .ref qhv, .ref qbe, .int (nI 0), .ref qlo, .ref qhi, .ref qpa, .ref qne, .ref qre])), (qha, .inl (cZ, 36, .inl mh)), (qkn, .inl (cZ, 36, .inl mk)), (qtr, .inl (cZ, 36, .inl mt)), (qhv, .inl (cI, 36, .inl mv)), (qbe, .inl (cZ, 36, .inl mb)), (qlo, .inl (cI, 9, .inl ml)), (qhi, .inl (cI, 9, .inl mg)), (qpa, .inl (cI, 6, .inl mp)), (qne, .inl (cI, 6, .inl mx)), (qre, .inl (cI, 6, .inl mr))] H := hP
  have hD : va_D (va_A [(qo, .inr (3, [.int (nI n), .ref qha, .ref qkn, .ref qtr, .int mc, .ref qhv, .ref qbe, .int (nI Q), .ref qlo, .ref qhi, .ref qpa, .ref qne, .ref qre])), (qha, .inl (cZ, 36, .inl mh)), (qkn, .inl (cZ, 36, .inl mk)), (qtr, .inl (cZ, 36, .inl mt)), (qhv, .inl (cI, 36, .inl mv)), (qbe, .inl (cZ, 36, .inl mb)), (qlo, .inl (cI, 9, .inl ml)), (qhi, .inl (cI, 9, .inl mg)), (qpa, .inl (cI, 6, .inl mp)), (qne, .inl (cI, 6, .inl mx)), (qre, .inl (cI, 6, .inl mr))] s.heap.size) [(qo, .inr (3, [.int (nI n), .ref qha, .ref qkn, .ref qtr, .int mc, .ref qhv, .ref qbe, .int (nI 0), .ref qlo, .ref qhi, .ref qpa, .ref qne, .ref qre])), (qha, .inl (cZ, 36, .inl mh)), (qkn, .inl (cZ, 36, .inl mk)), (qtr, .inl (cZ, 36, .inl mt)), (qhv, .inl (cI, 36, .inl mv)), (qbe, .inl (cZ, 36, .inl mb)), (qlo, .inl (cI, 9, .inl ml)), (qhi, .inl (cI, 9, .inl mg)), (qpa, .inl (cI, 6, .inl mp)), (qne, .inl (cI, 6, .inl mx)), (qre, .inl (cI, 6, .inl mr))] := hD
  refine lv_iconst (v := 0) hx hb d_M_findPairs_5 (by decide) ?_
  refine vz_top (y := nI 0) (by decide) ?_
  refine lv_istore_n hx hb d_M_findPairs_6 rfl hl (by decide) rfl (fun ls hl => ?_)
  have hl : lv_has ls 3 [(1, .int (nI 0)), (0, .ref qo)] := hl
  have lp_7 : ∀ (k_7 i_7 : Nat) (Q_7 : Nat) (ml_7 : Nat → Int32) (mg_7 : Nat → Int32) (H : Heap) (locs : List Loc) (ls : Array Slot), i_7 + k_7 = n → Q_7 + jcO mh n k_7 i_7 ≤ 9 → mFind_L7 n mh ml mg k_7 i_7 Q_7 ml_7 mg_7 = (mFind n mh ml mg) → va_P (dC, dI) vwCl [(qo, .inr (3, [.int (nI n), .ref qha, .ref qkn, .ref qtr, .int mc, .ref qhv, .ref qbe, .int (nI Q_7), .ref qlo, .ref qhi, .ref qpa, .ref qne, .ref qre])), (qha, .inl (cZ, 36, .inl mh)), (qkn, .inl (cZ, 36, .inl mk)), (qtr, .inl (cZ, 36, .inl mt)), (qhv, .inl (cI, 36, .inl mv)), (qbe, .inl (cZ, 36, .inl mb)), (qlo, .inl (cI, 9, .inl ml_7)), (qhi, .inl (cI, 9, .inl mg_7)), (qpa, .inl (cI, 6, .inl mp)), (qne, .inl (cI, 6, .inl mx)), (qre, .inl (cI, 6, .inl mr))] H → va_D (va_A [(qo, .inr (3, [.int (nI n), .ref qha, .ref qkn, .ref qtr, .int mc, .ref qhv, .ref qbe, .int (nI Q), .ref qlo, .ref qhi, .ref qpa, .ref qne, .ref qre])), (qha, .inl (cZ, 36, .inl mh)), (qkn, .inl (cZ, 36, .inl mk)), (qtr, .inl (cZ, 36, .inl mt)), (qhv, .inl (cI, 36, .inl mv)), (qbe, .inl (cZ, 36, .inl mb)), (qlo, .inl (cI, 9, .inl ml)), (qhi, .inl (cI, 9, .inl mg)), (qpa, .inl (cI, 6, .inl mp)), (qne, .inl (cI, 6, .inl mx)), (qre, .inl (cI, 6, .inl mr))] s.heap.size) [(qo, .inr (3, [.int (nI n), .ref qha, .ref qkn, .ref qtr, .int mc, .ref qhv, .ref qbe, .int (nI Q_7), .ref qlo, .ref qhi, .ref qpa, .ref qne, .ref qre])), (qha, .inl (cZ, 36, .inl mh)), (qkn, .inl (cZ, 36, .inl mk)), (qtr, .inl (cZ, 36, .inl mt)), (qhv, .inl (cI, 36, .inl mv)), (qbe, .inl (cZ, 36, .inl mb)), (qlo, .inl (cI, 9, .inl ml_7)), (qhi, .inl (cI, 9, .inl mg_7)), (qpa, .inl (cI, 6, .inl mp)), (qne, .inl (cI, 6, .inl mx)), (qre, .inl (cI, 6, .inl mr))] → va_S (va_A [(qo, .inr (3, [.int (nI n), .ref qha, .ref qkn, .ref qtr, .int mc, .ref qhv, .ref qbe, .int (nI Q), .ref qlo, .ref qhi, .ref qpa, .ref qne, .ref qre])), (qha, .inl (cZ, 36, .inl mh)), (qkn, .inl (cZ, 36, .inl mk)), (qtr, .inl (cZ, 36, .inl mt)), (qhv, .inl (cI, 36, .inl mv)), (qbe, .inl (cZ, 36, .inl mb)), (qlo, .inl (cI, 9, .inl ml)), (qhi, .inl (cI, 9, .inl mg)), (qpa, .inl (cI, 6, .inl mp)), (qne, .inl (cI, 6, .inl mx)), (qre, .inl (cI, 6, .inl mr))] s.heap.size) s.heap H locs → lv_has ls 3 [(1, .int (nI i_7)), (0, .ref qo)] → W p l e (headSpec w_M_findPairs rm_M_findPairs).room s m ([.ref qo] : List Value).toArray below meth c H locs 0 0 (MQ below (va_Qv (fun _ : Unit => True) (fun (_ : Unit) t => va_P (dC, dI) vwCl [(qo, .inr (3, [.int (nI n), .ref qha, .ref qkn, .ref qtr, .int mc, .ref qhv, .ref qbe, .int (nI ((mFind n mh ml mg).1)), .ref qlo, .ref qhi, .ref qpa, .ref qne, .ref qre])), (qha, .inl (cZ, 36, .inl mh)), (qkn, .inl (cZ, 36, .inl mk)), (qtr, .inl (cZ, 36, .inl mt)), (qhv, .inl (cI, 36, .inl mv)), (qbe, .inl (cZ, 36, .inl mb)), (qlo, .inl (cI, 9, .inl ((mFind n mh ml mg).2.1))), (qhi, .inl (cI, 9, .inl ((mFind n mh ml mg).2.2))), (qpa, .inl (cI, 6, .inl mp)), (qne, .inl (cI, 6, .inl mx)), (qre, .inl (cI, 6, .inl mr))] t.heap ∧ va_K (dC, dI) vwCl [(cI, .int), (cZ, .boolean)] t ∧ va_D (va_A [(qo, .inr (3, [.int (nI n), .ref qha, .ref qkn, .ref qtr, .int mc, .ref qhv, .ref qbe, .int (nI Q), .ref qlo, .ref qhi, .ref qpa, .ref qne, .ref qre])), (qha, .inl (cZ, 36, .inl mh)), (qkn, .inl (cZ, 36, .inl mk)), (qtr, .inl (cZ, 36, .inl mt)), (qhv, .inl (cI, 36, .inl mv)), (qbe, .inl (cZ, 36, .inl mb)), (qlo, .inl (cI, 9, .inl ml)), (qhi, .inl (cI, 9, .inl mg)), (qpa, .inl (cI, 6, .inl mp)), (qne, .inl (cI, 6, .inl mx)), (qre, .inl (cI, 6, .inl mr))] s.heap.size) [(qo, .inr (3, [.int (nI n), .ref qha, .ref qkn, .ref qtr, .int mc, .ref qhv, .ref qbe, .int (nI ((mFind n mh ml mg).1)), .ref qlo, .ref qhi, .ref qpa, .ref qne, .ref qre])), (qha, .inl (cZ, 36, .inl mh)), (qkn, .inl (cZ, 36, .inl mk)), (qtr, .inl (cZ, 36, .inl mt)), (qhv, .inl (cI, 36, .inl mv)), (qbe, .inl (cZ, 36, .inl mb)), (qlo, .inl (cI, 9, .inl ((mFind n mh ml mg).2.1))), (qhi, .inl (cI, 9, .inl ((mFind n mh ml mg).2.2))), (qpa, .inl (cI, 6, .inl mp)), (qne, .inl (cI, 6, .inl mx)), (qre, .inl (cI, 6, .inl mr))]) (va_A [(qo, .inr (3, [.int (nI n), .ref qha, .ref qkn, .ref qtr, .int mc, .ref qhv, .ref qbe, .int (nI Q), .ref qlo, .ref qhi, .ref qpa, .ref qne, .ref qre])), (qha, .inl (cZ, 36, .inl mh)), (qkn, .inl (cZ, 36, .inl mk)), (qtr, .inl (cZ, 36, .inl mt)), (qhv, .inl (cI, 36, .inl mv)), (qbe, .inl (cZ, 36, .inl mb)), (qlo, .inl (cI, 9, .inl ml)), (qhi, .inl (cI, 9, .inl mg)), (qpa, .inl (cI, 6, .inl mp)), (qne, .inl (cI, 6, .inl mx)), (qre, .inl (cI, 6, .inl mr))] s.heap.size)) ([.ref qo] : List Value).toArray s 0 0 (va_A [(qo, .inr (3, [.int (nI n), .ref qha, .ref qkn, .ref qtr, .int mc, .ref qhv, .ref qbe, .int (nI Q), .ref qlo, .ref qhi, .ref qpa, .ref qne, .ref qre])), (qha, .inl (cZ, 36, .inl mh)), (qkn, .inl (cZ, 36, .inl mk)), (qtr, .inl (cZ, 36, .inl mt)), (qhv, .inl (cI, 36, .inl mv)), (qbe, .inl (cZ, 36, .inl mb)), (qlo, .inl (cI, 9, .inl ml)), (qhi, .inl (cI, 9, .inl mg)), (qpa, .inl (cI, 6, .inl mp)), (qne, .inl (cI, 6, .inl mx)), (qre, .inl (cI, 6, .inl mr))] s.heap.size)) (F0 m 7 ls []) := by
    intro k_7
    induction k_7 with
    | zero =>
      intro i_7 Q_7 ml_7 mg_7 H locs ls hik_7 hinv_7 hfin_7 hP hD hS hl
      refine lv_iload_n hx hb d_M_findPairs_7 rfl (lv_at hl 0 rfl) ?_
      refine lv_aload_n hx hb d_M_findPairs_8 rfl (lv_at hl 1 rfl) ?_
      refine va_get (D := (dC, dI)) (ci := 3) (v := .int (nI n)) (C := "ArrowClassesModel") (T := TM) (N := 13) hx hb hT inM hown hK hP 0 rfl rfl 0 (by decide) (hT _ wd_fld_M_41) (fun _ h9 => h9) rfl d_M_findPairs_9 ?_
      refine lv_icmp_ge (tgt := 78) hx hb d_M_findPairs_12 (by decide) (fun _ => ?_) (fun h1 => by rw [nI_leI (by omega) (by omega)] at h1; omega)
      have hF : (mFind n mh ml mg) = (Q_7, ml_7, mg_7) := (hfin_7.symm.trans (by rw [mFind_L7]))
      exact W.vret hx hb hr (fun t ht hW => ⟨⟨(), rfl, trivial, by rw [hF, ht]; exact hP, va_K.moved hW.alike hK, by rw [hF]; exact hD⟩, hS.F ht⟩) hS.2.2 d_M_findPairs_78
    | succ k_7 ih_7 =>
      intro i_7 Q_7 ml_7 mg_7 H locs ls hik_7 hinv_7 hfin_7 hP hD hS hl
      refine lv_iload_n hx hb d_M_findPairs_7 rfl (lv_at hl 0 rfl) ?_
      refine lv_aload_n hx hb d_M_findPairs_8 rfl (lv_at hl 1 rfl) ?_
      refine va_get (D := (dC, dI)) (ci := 3) (v := .int (nI n)) (C := "ArrowClassesModel") (T := TM) (N := 13) hx hb hT inM hown hK hP 0 rfl rfl 0 (by decide) (hT _ wd_fld_M_41) (fun _ h9 => h9) rfl d_M_findPairs_9 ?_
      refine lv_icmp_ge (tgt := 78) hx hb d_M_findPairs_12 (by decide) (fun h2 => by rw [nI_leI (by omega) (by omega)] at h2; omega) (fun _ => ?_)
      refine lv_iload_n hx hb d_M_findPairs_15 rfl (lv_at hl 0 rfl) ?_
      refine lv_iconst (v := 1) hx hb d_M_findPairs_16 (by decide) ?_
      refine lv_iadd hx hb d_M_findPairs_17 ?_
      refine vz_top (y := nI (i_7 + 1)) (nI_1 i_7) ?_
      refine lv_istore_n hx hb d_M_findPairs_18 rfl hl (by decide) rfl (fun ls hl => ?_)
      have hl : lv_has ls 3 [(2, .int (nI (i_7 + 1))), (1, .int (nI i_7)), (0, .ref qo)] := hl
      have lp_19 : ∀ (k_19 i_19 : Nat) (Q_19 : Nat) (ml_19 : Nat → Int32) (mg_19 : Nat → Int32) (H : Heap) (locs : List Loc) (ls : Array Slot), i_19 + k_19 = n → Q_19 + jcI mh i_7 k_19 i_19 + jcO mh n k_7 (i_7 + 1) ≤ 9 → mFind_L19 n mh ml mg i_7 Q_7 ml_7 mg_7 (fun w0 w1 w2 => mFind_L7 n mh ml mg k_7 (i_7 + 1) w0 w1 w2) k_19 i_19 Q_19 ml_19 mg_19 = (mFind n mh ml mg) → va_P (dC, dI) vwCl [(qo, .inr (3, [.int (nI n), .ref qha, .ref qkn, .ref qtr, .int mc, .ref qhv, .ref qbe, .int (nI Q_19), .ref qlo, .ref qhi, .ref qpa, .ref qne, .ref qre])), (qha, .inl (cZ, 36, .inl mh)), (qkn, .inl (cZ, 36, .inl mk)), (qtr, .inl (cZ, 36, .inl mt)), (qhv, .inl (cI, 36, .inl mv)), (qbe, .inl (cZ, 36, .inl mb)), (qlo, .inl (cI, 9, .inl ml_19)), (qhi, .inl (cI, 9, .inl mg_19)), (qpa, .inl (cI, 6, .inl mp)), (qne, .inl (cI, 6, .inl mx)), (qre, .inl (cI, 6, .inl mr))] H → va_D (va_A [(qo, .inr (3, [.int (nI n), .ref qha, .ref qkn, .ref qtr, .int mc, .ref qhv, .ref qbe, .int (nI Q), .ref qlo, .ref qhi, .ref qpa, .ref qne, .ref qre])), (qha, .inl (cZ, 36, .inl mh)), (qkn, .inl (cZ, 36, .inl mk)), (qtr, .inl (cZ, 36, .inl mt)), (qhv, .inl (cI, 36, .inl mv)), (qbe, .inl (cZ, 36, .inl mb)), (qlo, .inl (cI, 9, .inl ml)), (qhi, .inl (cI, 9, .inl mg)), (qpa, .inl (cI, 6, .inl mp)), (qne, .inl (cI, 6, .inl mx)), (qre, .inl (cI, 6, .inl mr))] s.heap.size) [(qo, .inr (3, [.int (nI n), .ref qha, .ref qkn, .ref qtr, .int mc, .ref qhv, .ref qbe, .int (nI Q_19), .ref qlo, .ref qhi, .ref qpa, .ref qne, .ref qre])), (qha, .inl (cZ, 36, .inl mh)), (qkn, .inl (cZ, 36, .inl mk)), (qtr, .inl (cZ, 36, .inl mt)), (qhv, .inl (cI, 36, .inl mv)), (qbe, .inl (cZ, 36, .inl mb)), (qlo, .inl (cI, 9, .inl ml_19)), (qhi, .inl (cI, 9, .inl mg_19)), (qpa, .inl (cI, 6, .inl mp)), (qne, .inl (cI, 6, .inl mx)), (qre, .inl (cI, 6, .inl mr))] → va_S (va_A [(qo, .inr (3, [.int (nI n), .ref qha, .ref qkn, .ref qtr, .int mc, .ref qhv, .ref qbe, .int (nI Q), .ref qlo, .ref qhi, .ref qpa, .ref qne, .ref qre])), (qha, .inl (cZ, 36, .inl mh)), (qkn, .inl (cZ, 36, .inl mk)), (qtr, .inl (cZ, 36, .inl mt)), (qhv, .inl (cI, 36, .inl mv)), (qbe, .inl (cZ, 36, .inl mb)), (qlo, .inl (cI, 9, .inl ml)), (qhi, .inl (cI, 9, .inl mg)), (qpa, .inl (cI, 6, .inl mp)), (qne, .inl (cI, 6, .inl mx)), (qre, .inl (cI, 6, .inl mr))] s.heap.size) s.heap H locs → lv_has ls 3 [(2, .int (nI i_19)), (1, .int (nI i_7)), (0, .ref qo)] → W p l e (headSpec w_M_findPairs rm_M_findPairs).room s m ([.ref qo] : List Value).toArray below meth c H locs 0 0 (MQ below (va_Qv (fun _ : Unit => True) (fun (_ : Unit) t => va_P (dC, dI) vwCl [(qo, .inr (3, [.int (nI n), .ref qha, .ref qkn, .ref qtr, .int mc, .ref qhv, .ref qbe, .int (nI ((mFind n mh ml mg).1)), .ref qlo, .ref qhi, .ref qpa, .ref qne, .ref qre])), (qha, .inl (cZ, 36, .inl mh)), (qkn, .inl (cZ, 36, .inl mk)), (qtr, .inl (cZ, 36, .inl mt)), (qhv, .inl (cI, 36, .inl mv)), (qbe, .inl (cZ, 36, .inl mb)), (qlo, .inl (cI, 9, .inl ((mFind n mh ml mg).2.1))), (qhi, .inl (cI, 9, .inl ((mFind n mh ml mg).2.2))), (qpa, .inl (cI, 6, .inl mp)), (qne, .inl (cI, 6, .inl mx)), (qre, .inl (cI, 6, .inl mr))] t.heap ∧ va_K (dC, dI) vwCl [(cI, .int), (cZ, .boolean)] t ∧ va_D (va_A [(qo, .inr (3, [.int (nI n), .ref qha, .ref qkn, .ref qtr, .int mc, .ref qhv, .ref qbe, .int (nI Q), .ref qlo, .ref qhi, .ref qpa, .ref qne, .ref qre])), (qha, .inl (cZ, 36, .inl mh)), (qkn, .inl (cZ, 36, .inl mk)), (qtr, .inl (cZ, 36, .inl mt)), (qhv, .inl (cI, 36, .inl mv)), (qbe, .inl (cZ, 36, .inl mb)), (qlo, .inl (cI, 9, .inl ml)), (qhi, .inl (cI, 9, .inl mg)), (qpa, .inl (cI, 6, .inl mp)), (qne, .inl (cI, 6, .inl mx)), (qre, .inl (cI, 6, .inl mr))] s.heap.size) [(qo, .inr (3, [.int (nI n), .ref qha, .ref qkn, .ref qtr, .int mc, .ref qhv, .ref qbe, .int (nI ((mFind n mh ml mg).1)), .ref qlo, .ref qhi, .ref qpa, .ref qne, .ref qre])), (qha, .inl (cZ, 36, .inl mh)), (qkn, .inl (cZ, 36, .inl mk)), (qtr, .inl (cZ, 36, .inl mt)), (qhv, .inl (cI, 36, .inl mv)), (qbe, .inl (cZ, 36, .inl mb)), (qlo, .inl (cI, 9, .inl ((mFind n mh ml mg).2.1))), (qhi, .inl (cI, 9, .inl ((mFind n mh ml mg).2.2))), (qpa, .inl (cI, 6, .inl mp)), (qne, .inl (cI, 6, .inl mx)), (qre, .inl (cI, 6, .inl mr))]) (va_A [(qo, .inr (3, [.int (nI n), .ref qha, .ref qkn, .ref qtr, .int mc, .ref qhv, .ref qbe, .int (nI Q), .ref qlo, .ref qhi, .ref qpa, .ref qne, .ref qre])), (qha, .inl (cZ, 36, .inl mh)), (qkn, .inl (cZ, 36, .inl mk)), (qtr, .inl (cZ, 36, .inl mt)), (qhv, .inl (cI, 36, .inl mv)), (qbe, .inl (cZ, 36, .inl mb)), (qlo, .inl (cI, 9, .inl ml)), (qhi, .inl (cI, 9, .inl mg)), (qpa, .inl (cI, 6, .inl mp)), (qne, .inl (cI, 6, .inl mx)), (qre, .inl (cI, 6, .inl mr))] s.heap.size)) ([.ref qo] : List Value).toArray s 0 0 (va_A [(qo, .inr (3, [.int (nI n), .ref qha, .ref qkn, .ref qtr, .int mc, .ref qhv, .ref qbe, .int (nI Q), .ref qlo, .ref qhi, .ref qpa, .ref qne, .ref qre])), (qha, .inl (cZ, 36, .inl mh)), (qkn, .inl (cZ, 36, .inl mk)), (qtr, .inl (cZ, 36, .inl mt)), (qhv, .inl (cI, 36, .inl mv)), (qbe, .inl (cZ, 36, .inl mb)), (qlo, .inl (cI, 9, .inl ml)), (qhi, .inl (cI, 9, .inl mg)), (qpa, .inl (cI, 6, .inl mp)), (qne, .inl (cI, 6, .inl mx)), (qre, .inl (cI, 6, .inl mr))] s.heap.size)) (F0 m 19 ls []) := by
        intro k_19
        induction k_19 with
        | zero =>
          intro i_19 Q_19 ml_19 mg_19 H locs ls hik_19 hinv_19 hfin_19 hP hD hS hl
          refine lv_iload_n hx hb d_M_findPairs_19 rfl (lv_at hl 0 rfl) ?_
          refine lv_aload_n hx hb d_M_findPairs_20 rfl (lv_at hl 2 rfl) ?_
          refine va_get (D := (dC, dI)) (ci := 3) (v := .int (nI n)) (C := "ArrowClassesModel") (T := TM) (N := 13) hx hb hT inM hown hK hP 0 rfl rfl 0 (by decide) (hT _ wd_fld_M_41) (fun _ h9 => h9) rfl d_M_findPairs_21 ?_
          refine lv_icmp_ge (tgt := 72) hx hb d_M_findPairs_24 (by decide) (fun _ => ?_) (fun h3 => by rw [nI_leI (by omega) (by omega)] at h3; omega)
          refine lv_iinc (k := 1) (v := nI (i_7 + 1)) hx hb d_M_findPairs_72 hl rfl (vz_inc i_7) (by decide) rfl (fun ls hl => ?_)
          have hl : lv_has ls 3 [(1, .int (nI (i_7 + 1))), (2, .int (nI i_19)), (0, .ref qo)] := hl
          refine lv_goto (tgt := 7) hx hb d_M_findPairs_75 (by decide) ?_
          exact ih_7 (i_7 + 1) Q_19 ml_19 mg_19 H locs ls (by omega) (by have h9 := hinv_19; rw [jcI] at h9; omega) (by rw [mFind_L19] at hfin_19; exact hfin_19) hP hD hS (lv_sub hl [0, 2] rfl)
        | succ k_19 ih_19 =>
          intro i_19 Q_19 ml_19 mg_19 H locs ls hik_19 hinv_19 hfin_19 hP hD hS hl
          refine lv_iload_n hx hb d_M_findPairs_19 rfl (lv_at hl 0 rfl) ?_
          refine lv_aload_n hx hb d_M_findPairs_20 rfl (lv_at hl 2 rfl) ?_
          refine va_get (D := (dC, dI)) (ci := 3) (v := .int (nI n)) (C := "ArrowClassesModel") (T := TM) (N := 13) hx hb hT inM hown hK hP 0 rfl rfl 0 (by decide) (hT _ wd_fld_M_41) (fun _ h9 => h9) rfl d_M_findPairs_21 ?_
          refine lv_icmp_ge (tgt := 72) hx hb d_M_findPairs_24 (by decide) (fun h4 => by rw [nI_leI (by omega) (by omega)] at h4; omega) (fun _ => ?_)
          refine lv_aload_n hx hb d_M_findPairs_27 rfl (lv_at hl 2 rfl) ?_
          refine lv_iload_n hx hb d_M_findPairs_28 rfl (lv_at hl 1 rfl) ?_
          refine lv_iload_n hx hb d_M_findPairs_29 rfl (lv_at hl 0 rfl) ?_
          refine vz_ro (va_runV (As := [.int (nI i_7), .int (nI i_19)]) (rest := []) ⟨hx, hb, hml, hown, hT⟩ (c_M_joined l dC dI cI cZ qo qha qkn qtr qhv qbe qlo qhi qpa qne qre n mk mt mv mb ml_19 mg_19 mp mx mr mc Q_19 mh (nI i_7) (nI i_19) (by omega) (vp_in_nI (by omega) (by omega)) (vp_in_nI (by omega) (by omega))) (vz_cwV (n := 2) hT wd_link_M_53 wd_inst_M_joined wd_sel_M_joined wd_ini_M wd_code_M_joined (by decide +kernel) ⟨Nat.le_of_ble_eq_true rfl, Nat.le_of_ble_eq_true rfl⟩) (vz_pv (q0 := 0) (ci := 3) (q := ("ArrowClassesModel", TM, 13)) hN hK hP [0, 1, 2, 3, 4, 5, 6, 7, 8, 9, 10] rfl rfl rfl) rfl rfl hl.1 rfl (lv_room (Nat.le_of_ble_eq_true rfl)) d_M_findPairs_30 ⟨Nat.zero_le _, Nat.zero_le _⟩) ?_
          refine lv_if_eq (tgt := 66) hx hb d_M_findPairs_33 (by decide) (fun h5 => ?_) (fun h5 => ?_)
          ·
            refine lv_iinc (k := 0) (v := nI (i_19 + 1)) hx hb d_M_findPairs_66 hl rfl (vz_inc i_19) (by decide) rfl (fun ls hl => ?_)
            have hl : lv_has ls 3 [(2, .int (nI (i_19 + 1))), (1, .int (nI i_7)), (0, .ref qo)] := hl
            refine lv_goto (tgt := 19) hx hb d_M_findPairs_69 (by decide) ?_
            exact ih_19 (i_19 + 1) Q_19 ml_19 mg_19 H locs ls (by omega) (by have h9 := hinv_19; rw [jcI, if_pos h5] at h9; omega) (by rw [mFind_L19, if_pos h5] at hfin_19; exact hfin_19) hP hD hS (lv_sub hl [0, 1, 2] rfl)
          ·
            have hq9 : Q_19 < 9 := by have h9 := hinv_19; rw [jcI, if_neg h5] at h9; omega
            refine lv_aload_n hx hb d_M_findPairs_36 rfl (lv_at hl 2 rfl) ?_
            refine va_get (D := (dC, dI)) (ci := 3) (v := .ref qlo) (C := "ArrowClassesModel") (T := TM) (N := 13) hx hb hT inM hown hK hP 0 rfl rfl 8 (by decide) (hT _ wd_fld_M_26) (fun _ h9 => h9) rfl d_M_findPairs_37 ?_
            refine lv_aload_n hx hb d_M_findPairs_40 rfl (lv_at hl 2 rfl) ?_
            refine va_get (D := (dC, dI)) (ci := 3) (v := .int (nI Q_19)) (C := "ArrowClassesModel") (T := TM) (N := 13) hx hb hT inM hown hK hP 0 rfl rfl 7 (by decide) (hT _ wd_fld_M_93) (fun _ h9 => h9) rfl d_M_findPairs_41 ?_
            refine lv_iload_n hx hb d_M_findPairs_44 rfl (lv_at hl 1 rfl) ?_
            refine va_iast (D := (dC, dI)) hx hb hK hP hD hS 6 0 rfl rfl (vp_in_nI (by omega) (by omega)) d_M_findPairs_45 (fun H locs hP hD hS => ?_)
            have hP : va_P (dC, dI) vwCl [(qo, .inr (3, [.int (nI n), .ref qha, .ref qkn, .ref qtr, .int mc, .ref qhv, .ref qbe, .int (nI Q_19), .ref qlo, .ref qhi, .ref qpa, .ref qne, .ref qre])), (qha, .inl (cZ, 36, .inl mh)), (qkn, .inl (cZ, 36, .inl mk)), (qtr, .inl (cZ, 36, .inl mt)), (qhv, .inl (cI, 36, .inl mv)), (qbe, .inl (cZ, 36, .inl mb)), (qlo, .inl (cI, 9, .inl (upd ml_19 (nI Q_19).toNatClampNeg (nI i_7)))), (qhi, .inl (cI, 9, .inl mg_19)), (qpa, .inl (cI, 6, .inl mp)), (qne, .inl (cI, 6, .inl mx)), (qre, .inl (cI, 6, .inl mr))] H := hP
            have hD : va_D (va_A [(qo, .inr (3, [.int (nI n), .ref qha, .ref qkn, .ref qtr, .int mc, .ref qhv, .ref qbe, .int (nI Q), .ref qlo, .ref qhi, .ref qpa, .ref qne, .ref qre])), (qha, .inl (cZ, 36, .inl mh)), (qkn, .inl (cZ, 36, .inl mk)), (qtr, .inl (cZ, 36, .inl mt)), (qhv, .inl (cI, 36, .inl mv)), (qbe, .inl (cZ, 36, .inl mb)), (qlo, .inl (cI, 9, .inl ml)), (qhi, .inl (cI, 9, .inl mg)), (qpa, .inl (cI, 6, .inl mp)), (qne, .inl (cI, 6, .inl mx)), (qre, .inl (cI, 6, .inl mr))] s.heap.size) [(qo, .inr (3, [.int (nI n), .ref qha, .ref qkn, .ref qtr, .int mc, .ref qhv, .ref qbe, .int (nI Q_19), .ref qlo, .ref qhi, .ref qpa, .ref qne, .ref qre])), (qha, .inl (cZ, 36, .inl mh)), (qkn, .inl (cZ, 36, .inl mk)), (qtr, .inl (cZ, 36, .inl mt)), (qhv, .inl (cI, 36, .inl mv)), (qbe, .inl (cZ, 36, .inl mb)), (qlo, .inl (cI, 9, .inl (upd ml_19 (nI Q_19).toNatClampNeg (nI i_7)))), (qhi, .inl (cI, 9, .inl mg_19)), (qpa, .inl (cI, 6, .inl mp)), (qne, .inl (cI, 6, .inl mx)), (qre, .inl (cI, 6, .inl mr))] := hD
            refine lv_aload_n hx hb d_M_findPairs_46 rfl (lv_at hl 2 rfl) ?_
            refine va_get (D := (dC, dI)) (ci := 3) (v := .ref qhi) (C := "ArrowClassesModel") (T := TM) (N := 13) hx hb hT inM hown hK hP 0 rfl rfl 9 (by decide) (hT _ wd_fld_M_29) (fun _ h9 => h9) rfl d_M_findPairs_47 ?_
            refine lv_aload_n hx hb d_M_findPairs_50 rfl (lv_at hl 2 rfl) ?_
            refine va_get (D := (dC, dI)) (ci := 3) (v := .int (nI Q_19)) (C := "ArrowClassesModel") (T := TM) (N := 13) hx hb hT inM hown hK hP 0 rfl rfl 7 (by decide) (hT _ wd_fld_M_93) (fun _ h9 => h9) rfl d_M_findPairs_51 ?_
            refine lv_iload_n hx hb d_M_findPairs_54 rfl (lv_at hl 0 rfl) ?_
            refine va_iast (D := (dC, dI)) hx hb hK hP hD hS 7 0 rfl rfl (vp_in_nI (by omega) (by omega)) d_M_findPairs_55 (fun H locs hP hD hS => ?_)
            have hP : va_P (dC, dI) vwCl [(qo, .inr (3, [.int (nI n), .ref qha, .ref qkn, .ref qtr, .int mc, .ref qhv, .ref qbe, .int (nI Q_19), .ref qlo, .ref qhi, .ref qpa, .ref qne, .ref qre])), (qha, .inl (cZ, 36, .inl mh)), (qkn, .inl (cZ, 36, .inl mk)), (qtr, .inl (cZ, 36, .inl mt)), (qhv, .inl (cI, 36, .inl mv)), (qbe, .inl (cZ, 36, .inl mb)), (qlo, .inl (cI, 9, .inl (upd ml_19 (nI Q_19).toNatClampNeg (nI i_7)))), (qhi, .inl (cI, 9, .inl (upd mg_19 (nI Q_19).toNatClampNeg (nI i_19)))), (qpa, .inl (cI, 6, .inl mp)), (qne, .inl (cI, 6, .inl mx)), (qre, .inl (cI, 6, .inl mr))] H := hP
            have hD : va_D (va_A [(qo, .inr (3, [.int (nI n), .ref qha, .ref qkn, .ref qtr, .int mc, .ref qhv, .ref qbe, .int (nI Q), .ref qlo, .ref qhi, .ref qpa, .ref qne, .ref qre])), (qha, .inl (cZ, 36, .inl mh)), (qkn, .inl (cZ, 36, .inl mk)), (qtr, .inl (cZ, 36, .inl mt)), (qhv, .inl (cI, 36, .inl mv)), (qbe, .inl (cZ, 36, .inl mb)), (qlo, .inl (cI, 9, .inl ml)), (qhi, .inl (cI, 9, .inl mg)), (qpa, .inl (cI, 6, .inl mp)), (qne, .inl (cI, 6, .inl mx)), (qre, .inl (cI, 6, .inl mr))] s.heap.size) [(qo, .inr (3, [.int (nI n), .ref qha, .ref qkn, .ref qtr, .int mc, .ref qhv, .ref qbe, .int (nI Q_19), .ref qlo, .ref qhi, .ref qpa, .ref qne, .ref qre])), (qha, .inl (cZ, 36, .inl mh)), (qkn, .inl (cZ, 36, .inl mk)), (qtr, .inl (cZ, 36, .inl mt)), (qhv, .inl (cI, 36, .inl mv)), (qbe, .inl (cZ, 36, .inl mb)), (qlo, .inl (cI, 9, .inl (upd ml_19 (nI Q_19).toNatClampNeg (nI i_7)))), (qhi, .inl (cI, 9, .inl (upd mg_19 (nI Q_19).toNatClampNeg (nI i_19)))), (qpa, .inl (cI, 6, .inl mp)), (qne, .inl (cI, 6, .inl mx)), (qre, .inl (cI, 6, .inl mr))] := hD
            refine lv_aload_n hx hb d_M_findPairs_56 rfl (lv_at hl 2 rfl) ?_
            refine lv_dup hx hb d_M_findPairs_57 rfl ?_
            refine va_get (D := (dC, dI)) (ci := 3) (v := .int (nI Q_19)) (C := "ArrowClassesModel") (T := TM) (N := 13) hx hb hT inM hown hK hP 0 rfl rfl 7 (by decide) (hT _ wd_fld_M_93) (fun _ h9 => h9) rfl d_M_findPairs_58 ?_
            refine lv_iconst (v := 1) hx hb d_M_findPairs_61 (by decide) ?_
            refine lv_iadd hx hb d_M_findPairs_62 ?_
            refine vz_top (y := nI (Q_19 + 1)) (nI_1 Q_19) ?_
            refine va_put (D := (dC, dI)) (ci := 3) (v := .int (nI (Q_19 + 1))) (ty := .int) (C := "ArrowClassesModel") (T := TM) (N := 13) hx hb hT inM tyM okM nmM hown hK hP hD hS 0 rfl rfl 7 (by decide) (hT _ wd_fld_M_93) (fun _ h9 => h9) rfl (by decide +kernel) rfl rfl (Nat.le_of_ble_eq_true rfl) d_M_findPairs_63 (fun H locs hP hD hS => ?_)
            have hP : va_P (dC, dI) vwCl [(qo, .inr (3, [.int (nI n), .ref qha, .ref qkn, .ref qtr, .int mc, .ref qhv, .ref qbe, .int (nI (Q_19 + 1)), .ref qlo, .ref qhi, .ref qpa, .ref qne, .ref qre])), (qha, .inl (cZ, 36, .inl mh)), (qkn, .inl (cZ, 36, .inl mk)), (qtr, .inl (cZ, 36, .inl mt)), (qhv, .inl (cI, 36, .inl mv)), (qbe, .inl (cZ, 36, .inl mb)), (qlo, .inl (cI, 9, .inl (upd ml_19 (nI Q_19).toNatClampNeg (nI i_7)))), (qhi, .inl (cI, 9, .inl (upd mg_19 (nI Q_19).toNatClampNeg (nI i_19)))), (qpa, .inl (cI, 6, .inl mp)), (qne, .inl (cI, 6, .inl mx)), (qre, .inl (cI, 6, .inl mr))] H := hP
            have hD : va_D (va_A [(qo, .inr (3, [.int (nI n), .ref qha, .ref qkn, .ref qtr, .int mc, .ref qhv, .ref qbe, .int (nI Q), .ref qlo, .ref qhi, .ref qpa, .ref qne, .ref qre])), (qha, .inl (cZ, 36, .inl mh)), (qkn, .inl (cZ, 36, .inl mk)), (qtr, .inl (cZ, 36, .inl mt)), (qhv, .inl (cI, 36, .inl mv)), (qbe, .inl (cZ, 36, .inl mb)), (qlo, .inl (cI, 9, .inl ml)), (qhi, .inl (cI, 9, .inl mg)), (qpa, .inl (cI, 6, .inl mp)), (qne, .inl (cI, 6, .inl mx)), (qre, .inl (cI, 6, .inl mr))] s.heap.size) [(qo, .inr (3, [.int (nI n), .ref qha, .ref qkn, .ref qtr, .int mc, .ref qhv, .ref qbe, .int (nI (Q_19 + 1)), .ref qlo, .ref qhi, .ref qpa, .ref qne, .ref qre])), (qha, .inl (cZ, 36, .inl mh)), (qkn, .inl (cZ, 36, .inl mk)), (qtr, .inl (cZ, 36, .inl mt)), (qhv, .inl (cI, 36, .inl mv)), (qbe, .inl (cZ, 36, .inl mb)), (qlo, .inl (cI, 9, .inl (upd ml_19 (nI Q_19).toNatClampNeg (nI i_7)))), (qhi, .inl (cI, 9, .inl (upd mg_19 (nI Q_19).toNatClampNeg (nI i_19)))), (qpa, .inl (cI, 6, .inl mp)), (qne, .inl (cI, 6, .inl mx)), (qre, .inl (cI, 6, .inl mr))] := hD
            refine lv_iinc (k := 0) (v := nI (i_19 + 1)) hx hb d_M_findPairs_66 hl rfl (vz_inc i_19) (by decide) rfl (fun ls hl => ?_)
            have hl : lv_has ls 3 [(2, .int (nI (i_19 + 1))), (1, .int (nI i_7)), (0, .ref qo)] := hl
            refine lv_goto (tgt := 19) hx hb d_M_findPairs_69 (by decide) ?_
            exact ih_19 (i_19 + 1) (Q_19 + 1) (upd ml_19 (nI Q_19).toNatClampNeg (nI i_7)) (upd mg_19 (nI Q_19).toNatClampNeg (nI i_19)) H locs ls (by omega) (by have h9 := hinv_19; rw [jcI, if_neg h5] at h9; omega) (by rw [mFind_L19, if_neg h5] at hfin_19; exact hfin_19) hP hD hS (lv_sub hl [0, 1, 2] rfl)
      exact lp_19 (n - (i_7 + 1)) (i_7 + 1) Q_7 ml_7 mg_7 _ _ _ (by omega) (by have h9 := hinv_7; rw [jcO] at h9; omega) (by rw [mFind_L7] at hfin_7; exact hfin_7) hP hD hS (lv_sub hl [0, 1, 2] rfl)
  exact lp_7 n 0 0 ml mg _ _ _ (by omega) (by omega) (by rw [mFind]) hP hD hS (lv_sub hl [0, 1] rfl)
set_option maxRecDepth 100000 in
set_option maxHeartbeats 4000000 in
theorem c_M_direct (l : Launch) (dC : Nat → ClassId) (dI : Nat → Nat → Nat) (cI cZ : ClassId) (qo qha qkn qtr qhv qbe qlo qhi qpa qne qre : Nat) (n : Nat) (mh : Nat → Int32) (mk : Nat → Int32) (mv : Nat → Int32) (mb : Nat → Int32) (mp : Nat → Int32) (mx : Nat → Int32) (mr : Nat → Int32) (mc : Int32) (mt : Nat → Int32) (ml : Nat → Int32) (mg : Nat → Int32) (Q : Nat) (way : Int32) (hn : n ≤ 6) (hQ9 : Q ≤ 9) (hmlo : ∀ j, j < Q → vp_in (ml j) n) (hmhi : ∀ j, j < Q → vp_in (mg j) n) (sz : Nat) : Met l y_M_direct w_M_direct rm_M_direct (va_Pc [.ref qo, .int way] (vz_Bw (dC, dI) vwCl [(qo, .inr (3, [.int (nI n), .ref qha, .ref qkn, .ref qtr, .int mc, .ref qhv, .ref qbe, .int (nI Q), .ref qlo, .ref qhi, .ref qpa, .ref qne, .ref qre])), (qha, .inl (cZ, 36, .inl mh)), (qkn, .inl (cZ, 36, .inl mk)), (qtr, .inl (cZ, 36, .inl mt)), (qhv, .inl (cI, 36, .inl mv)), (qbe, .inl (cZ, 36, .inl mb)), (qlo, .inl (cI, 9, .inl ml)), (qhi, .inl (cI, 9, .inl mg)), (qpa, .inl (cI, 6, .inl mp)), (qne, .inl (cI, 6, .inl mx)), (qre, .inl (cI, 6, .inl mr))] [(cI, .int), (cZ, .boolean)] sz)) (va_Qv (fun _ : Unit => True) (fun (_ : Unit) t => va_P (dC, dI) vwCl [(qo, .inr (3, [.int (nI n), .ref qha, .ref qkn, .ref qtr, .int mc, .ref qhv, .ref qbe, .int (nI Q), .ref qlo, .ref qhi, .ref qpa, .ref qne, .ref qre])), (qha, .inl (cZ, 36, .inl mh)), (qkn, .inl (cZ, 36, .inl mk)), (qtr, .inl (cZ, 36, .inl (mDirect mt ml mg Q way))), (qhv, .inl (cI, 36, .inl mv)), (qbe, .inl (cZ, 36, .inl mb)), (qlo, .inl (cI, 9, .inl ml)), (qhi, .inl (cI, 9, .inl mg)), (qpa, .inl (cI, 6, .inl mp)), (qne, .inl (cI, 6, .inl mx)), (qre, .inl (cI, 6, .inl mr))] t.heap ∧ va_K (dC, dI) vwCl [(cI, .int), (cZ, .boolean)] t ∧ va_D (va_A [(qo, .inr (3, [.int (nI n), .ref qha, .ref qkn, .ref qtr, .int mc, .ref qhv, .ref qbe, .int (nI Q), .ref qlo, .ref qhi, .ref qpa, .ref qne, .ref qre])), (qha, .inl (cZ, 36, .inl mh)), (qkn, .inl (cZ, 36, .inl mk)), (qtr, .inl (cZ, 36, .inl mt)), (qhv, .inl (cI, 36, .inl mv)), (qbe, .inl (cZ, 36, .inl mb)), (qlo, .inl (cI, 9, .inl ml)), (qhi, .inl (cI, 9, .inl mg)), (qpa, .inl (cI, 6, .inl mp)), (qne, .inl (cI, 6, .inl mx)), (qre, .inl (cI, 6, .inl mr))] sz) [(qo, .inr (3, [.int (nI n), .ref qha, .ref qkn, .ref qtr, .int mc, .ref qhv, .ref qbe, .int (nI Q), .ref qlo, .ref qhi, .ref qpa, .ref qne, .ref qre])), (qha, .inl (cZ, 36, .inl mh)), (qkn, .inl (cZ, 36, .inl mk)), (qtr, .inl (cZ, 36, .inl (mDirect mt ml mg Q way))), (qhv, .inl (cI, 36, .inl mv)), (qbe, .inl (cZ, 36, .inl mb)), (qlo, .inl (cI, 9, .inl ml)), (qhi, .inl (cI, 9, .inl mg)), (qpa, .inl (cI, 6, .inl mp)), (qne, .inl (cI, 6, .inl mx)), (qre, .inl (cI, 6, .inl mr))]) (va_A [(qo, .inr (3, [.int (nI n), .ref qha, .ref qkn, .ref qtr, .int mc, .ref qhv, .ref qbe, .int (nI Q), .ref qlo, .ref qhi, .ref qpa, .ref qne, .ref qre])), (qha, .inl (cZ, 36, .inl mh)), (qkn, .inl (cZ, 36, .inl mk)), (qtr, .inl (cZ, 36, .inl mt)), (qhv, .inl (cI, 36, .inl mv)), (qbe, .inl (cZ, 36, .inl mb)), (qlo, .inl (cI, 9, .inl ml)), (qhi, .inl (cI, 9, .inl mg)), (qpa, .inl (cI, 6, .inl mp)), (qne, .inl (cI, 6, .inl mx)), (qre, .inl (cI, 6, .inl mr))] sz)) 0 0 (va_A [(qo, .inr (3, [.int (nI n), .ref qha, .ref qkn, .ref qtr, .int mc, .ref qhv, .ref qbe, .int (nI Q), .ref qlo, .ref qhi, .ref qpa, .ref qne, .ref qre])), (qha, .inl (cZ, 36, .inl mh)), (qkn, .inl (cZ, 36, .inl mk)), (qtr, .inl (cZ, 36, .inl mt)), (qhv, .inl (cI, 36, .inl mv)), (qbe, .inl (cZ, 36, .inl mb)), (qlo, .inl (cI, 9, .inl ml)), (qhi, .inl (cI, 9, .inl mg)), (qpa, .inl (cI, 6, .inl mp)), (qne, .inl (cI, 6, .inl mx)), (qre, .inl (cI, 6, .inl mr))] sz) := by
  refine Met.ofW (cc := b_M_direct) (maxL := 6) (ret := none) (by decide) rfl ?_
  intro p e s m args below meth c s₁ B hml hv
  obtain ⟨rfl, hsz, hP, hK, hD0, hN⟩ := hv
  have hx := B.exec
  have hb := B.bytes
  have hr := B.returns
  have hts := atoms_spec (ws := w_M_direct) B.pre
  have hT : ∀ w ∈ vzB, w.before ([.ref qo, .int way] : List Value).toArray s = true := fun w h => hts w (List.mem_cons_of_mem _ h)
  have hown : s.vm.findClass "ArrowClassesModel" = some m.cls := findClass_of_methodNamed B.named
  have hlocks := B.notSynchronized
  subst hsz
  have hD := hD0.self (sz := s.heap.size)
  have hA : ∀ q : Nat, s.heap.size ≤ q → va_A [(qo, .inr (3, [.int (nI n), .ref qha, .ref qkn, .ref qtr, .int mc, .ref qhv, .ref qbe, .int (nI Q), .ref qlo, .ref qhi, .ref qpa, .ref qne, .ref qre])), (qha, .inl (cZ, 36, .inl mh)), (qkn, .inl (cZ, 36, .inl mk)), (qtr, .inl (cZ, 36, .inl mt)), (qhv, .inl (cI, 36, .inl mv)), (qbe, .inl (cZ, 36, .inl mb)), (qlo, .inl (cI, 9, .inl ml)), (qhi, .inl (cI, 9, .inl mg)), (qpa, .inl (cI, 6, .inl mp)), (qne, .inl (cI, 6, .inl mx)), (qre, .inl (cI, 6, .inl mr))] s.heap.size q := fun q h => Or.inr h
  have hS : va_S (va_A [(qo, .inr (3, [.int (nI n), .ref qha, .ref qkn, .ref qtr, .int mc, .ref qhv, .ref qbe, .int (nI Q), .ref qlo, .ref qhi, .ref qpa, .ref qne, .ref qre])), (qha, .inl (cZ, 36, .inl mh)), (qkn, .inl (cZ, 36, .inl mk)), (qtr, .inl (cZ, 36, .inl mt)), (qhv, .inl (cI, 36, .inl mv)), (qbe, .inl (cZ, 36, .inl mb)), (qlo, .inl (cI, 9, .inl ml)), (qhi, .inl (cI, 9, .inl mg)), (qpa, .inl (cI, 6, .inl mp)), (qne, .inl (cI, 6, .inl mx)), (qre, .inl (cI, 6, .inl mr))] s.heap.size) s.heap s.heap [] := va_S.rf
  have hl := lv_entry ([.ref qo, .int way]) (n := 6) (Nat.le_of_ble_eq_true rfl)
  rw [lg_entry_eq]
  generalize (lg_sl ([.ref qo, .int way]) ++ List.replicate (6 - (lg_sl ([.ref qo, .int way])).length) Slot.unset).toArray = ls at hl ⊢
  have hl : lv_has ls 6 [(0, .ref qo), (1, .int way)] := hl
  refine lv_iconst (v := 0) hx hb d_M_direct_0 (by decide) ?_
  refine vz_top (y := nI 0) (by decide) ?_
  refine lv_istore_n hx hb d_M_direct_1 rfl hl (by decide) rfl (fun ls hl => ?_)
  have hl : lv_has ls 6 [(2, .int (nI 0)), (0, .ref qo), (1, .int way)] := hl
  have lp_2 : ∀ (k_2 i_2 : Nat) (mt_2 : Nat → Int32) (H : Heap) (locs : List Loc) (ls : Array Slot), i_2 + k_2 = 36 → mDirect_L2 mt ml mg Q way k_2 i_2 mt_2 = (mDirect mt ml mg Q way) → va_P (dC, dI) vwCl [(qo, .inr (3, [.int (nI n), .ref qha, .ref qkn, .ref qtr, .int mc, .ref qhv, .ref qbe, .int (nI Q), .ref qlo, .ref qhi, .ref qpa, .ref qne, .ref qre])), (qha, .inl (cZ, 36, .inl mh)), (qkn, .inl (cZ, 36, .inl mk)), (qtr, .inl (cZ, 36, .inl mt_2)), (qhv, .inl (cI, 36, .inl mv)), (qbe, .inl (cZ, 36, .inl mb)), (qlo, .inl (cI, 9, .inl ml)), (qhi, .inl (cI, 9, .inl mg)), (qpa, .inl (cI, 6, .inl mp)), (qne, .inl (cI, 6, .inl mx)), (qre, .inl (cI, 6, .inl mr))] H → va_D (va_A [(qo, .inr (3, [.int (nI n), .ref qha, .ref qkn, .ref qtr, .int mc, .ref qhv, .ref qbe, .int (nI Q), .ref qlo, .ref qhi, .ref qpa, .ref qne, .ref qre])), (qha, .inl (cZ, 36, .inl mh)), (qkn, .inl (cZ, 36, .inl mk)), (qtr, .inl (cZ, 36, .inl mt)), (qhv, .inl (cI, 36, .inl mv)), (qbe, .inl (cZ, 36, .inl mb)), (qlo, .inl (cI, 9, .inl ml)), (qhi, .inl (cI, 9, .inl mg)), (qpa, .inl (cI, 6, .inl mp)), (qne, .inl (cI, 6, .inl mx)), (qre, .inl (cI, 6, .inl mr))] s.heap.size) [(qo, .inr (3, [.int (nI n), .ref qha, .ref qkn, .ref qtr, .int mc, .ref qhv, .ref qbe, .int (nI Q), .ref qlo, .ref qhi, .ref qpa, .ref qne, .ref qre])), (qha, .inl (cZ, 36, .inl mh)), (qkn, .inl (cZ, 36, .inl mk)), (qtr, .inl (cZ, 36, .inl mt_2)), (qhv, .inl (cI, 36, .inl mv)), (qbe, .inl (cZ, 36, .inl mb)), (qlo, .inl (cI, 9, .inl ml)), (qhi, .inl (cI, 9, .inl mg)), (qpa, .inl (cI, 6, .inl mp)), (qne, .inl (cI, 6, .inl mx)), (qre, .inl (cI, 6, .inl mr))] → va_S (va_A [(qo, .inr (3, [.int (nI n), .ref qha, .ref qkn, .ref qtr, .int mc, .ref qhv, .ref qbe, .int (nI Q), .ref qlo, .ref qhi, .ref qpa, .ref qne, .ref qre])), (qha, .inl (cZ, 36, .inl mh)), (qkn, .inl (cZ, 36, .inl mk)), (qtr, .inl (cZ, 36, .inl mt)), (qhv, .inl (cI, 36, .inl mv)), (qbe, .inl (cZ, 36, .inl mb)), (qlo, .inl (cI, 9, .inl ml)), (qhi, .inl (cI, 9, .inl mg)), (qpa, .inl (cI, 6, .inl mp)), (qne, .inl (cI, 6, .inl mx)), (qre, .inl (cI, 6, .inl mr))] s.heap.size) s.heap H locs → lv_has ls 6 [(2, .int (nI i_2)), (0, .ref qo), (1, .int way)] → W p l e (headSpec w_M_direct rm_M_direct).room s m ([.ref qo, .int way] : List Value).toArray below meth c H locs 0 0 (MQ below (va_Qv (fun _ : Unit => True) (fun (_ : Unit) t => va_P (dC, dI) vwCl [(qo, .inr (3, [.int (nI n), .ref qha, .ref qkn, .ref qtr, .int mc, .ref qhv, .ref qbe, .int (nI Q), .ref qlo, .ref qhi, .ref qpa, .ref qne, .ref qre])), (qha, .inl (cZ, 36, .inl mh)), (qkn, .inl (cZ, 36, .inl mk)), (qtr, .inl (cZ, 36, .inl (mDirect mt ml mg Q way))), (qhv, .inl (cI, 36, .inl mv)), (qbe, .inl (cZ, 36, .inl mb)), (qlo, .inl (cI, 9, .inl ml)), (qhi, .inl (cI, 9, .inl mg)), (qpa, .inl (cI, 6, .inl mp)), (qne, .inl (cI, 6, .inl mx)), (qre, .inl (cI, 6, .inl mr))] t.heap ∧ va_K (dC, dI) vwCl [(cI, .int), (cZ, .boolean)] t ∧ va_D (va_A [(qo, .inr (3, [.int (nI n), .ref qha, .ref qkn, .ref qtr, .int mc, .ref qhv, .ref qbe, .int (nI Q), .ref qlo, .ref qhi, .ref qpa, .ref qne, .ref qre])), (qha, .inl (cZ, 36, .inl mh)), (qkn, .inl (cZ, 36, .inl mk)), (qtr, .inl (cZ, 36, .inl mt)), (qhv, .inl (cI, 36, .inl mv)), (qbe, .inl (cZ, 36, .inl mb)), (qlo, .inl (cI, 9, .inl ml)), (qhi, .inl (cI, 9, .inl mg)), (qpa, .inl (cI, 6, .inl mp)), (qne, .inl (cI, 6, .inl mx)), (qre, .inl (cI, 6, .inl mr))] s.heap.size) [(qo, .inr (3, [.int (nI n), .ref qha, .ref qkn, .ref qtr, .int mc, .ref qhv, .ref qbe, .int (nI Q), .ref qlo, .ref qhi, .ref qpa, .ref qne, .ref qre])), (qha, .inl (cZ, 36, .inl mh)), (qkn, .inl (cZ, 36, .inl mk)), (qtr, .inl (cZ, 36, .inl (mDirect mt ml mg Q way))), (qhv, .inl (cI, 36, .inl mv)), (qbe, .inl (cZ, 36, .inl mb)), (qlo, .inl (cI, 9, .inl ml)), (qhi, .inl (cI, 9, .inl mg)), (qpa, .inl (cI, 6, .inl mp)), (qne, .inl (cI, 6, .inl mx)), (qre, .inl (cI, 6, .inl mr))]) (va_A [(qo, .inr (3, [.int (nI n), .ref qha, .ref qkn, .ref qtr, .int mc, .ref qhv, .ref qbe, .int (nI Q), .ref qlo, .ref qhi, .ref qpa, .ref qne, .ref qre])), (qha, .inl (cZ, 36, .inl mh)), (qkn, .inl (cZ, 36, .inl mk)), (qtr, .inl (cZ, 36, .inl mt)), (qhv, .inl (cI, 36, .inl mv)), (qbe, .inl (cZ, 36, .inl mb)), (qlo, .inl (cI, 9, .inl ml)), (qhi, .inl (cI, 9, .inl mg)), (qpa, .inl (cI, 6, .inl mp)), (qne, .inl (cI, 6, .inl mx)), (qre, .inl (cI, 6, .inl mr))] s.heap.size)) ([.ref qo, .int way] : List Value).toArray s 0 0 (va_A [(qo, .inr (3, [.int (nI n), .ref qha, .ref qkn, .ref qtr, .int mc, .ref qhv, .ref qbe, .int (nI Q), .ref qlo, .ref qhi, .ref qpa, .ref qne, .ref qre])), (qha, .inl (cZ, 36, .inl mh)), (qkn, .inl (cZ, 36, .inl mk)), (qtr, .inl (cZ, 36, .inl mt)), (qhv, .inl (cI, 36, .inl mv)), (qbe, .inl (cZ, 36, .inl mb)), (qlo, .inl (cI, 9, .inl ml)), (qhi, .inl (cI, 9, .inl mg)), (qpa, .inl (cI, 6, .inl mp)), (qne, .inl (cI, 6, .inl mx)), (qre, .inl (cI, 6, .inl mr))] s.heap.size)) (F0 m 2 ls []) := by
    intro k_2
    induction k_2 with
    | zero =>
      intro i_2 mt_2 H locs ls hik_2 hfin_2 hP hD hS hl
      refine lv_iload_n hx hb d_M_direct_2 rfl (lv_at hl 0 rfl) ?_
      refine lv_bipush (v := 36) hx hb d_M_direct_3 (by decide) ?_
      refine vz_top (y := nI 36) (by decide) ?_
      refine lv_icmp_ge (tgt := 21) hx hb d_M_direct_5 (by decide) (fun _ => ?_) (fun h1 => by rw [nI_leI (by omega) (by omega)] at h1; omega)
      refine lv_iconst (v := 0) hx hb d_M_direct_21 (by decide) ?_
      refine vz_top (y := nI 0) (by decide) ?_
      refine lv_istore_n hx hb d_M_direct_22 rfl hl (by decide) rfl (fun ls hl => ?_)
      have hl : lv_has ls 6 [(2, .int (nI 0)), (0, .ref qo), (1, .int way)] := hl
      have lp_23 : ∀ (k_23 i_23 : Nat) (mt_23 : Nat → Int32) (H : Heap) (locs : List Loc) (ls : Array Slot), i_23 + k_23 = Q → mDirect_L23 mt ml mg Q way i_2 mt_2 k_23 i_23 mt_23 = (mDirect mt ml mg Q way) → va_P (dC, dI) vwCl [(qo, .inr (3, [.int (nI n), .ref qha, .ref qkn, .ref qtr, .int mc, .ref qhv, .ref qbe, .int (nI Q), .ref qlo, .ref qhi, .ref qpa, .ref qne, .ref qre])), (qha, .inl (cZ, 36, .inl mh)), (qkn, .inl (cZ, 36, .inl mk)), (qtr, .inl (cZ, 36, .inl mt_23)), (qhv, .inl (cI, 36, .inl mv)), (qbe, .inl (cZ, 36, .inl mb)), (qlo, .inl (cI, 9, .inl ml)), (qhi, .inl (cI, 9, .inl mg)), (qpa, .inl (cI, 6, .inl mp)), (qne, .inl (cI, 6, .inl mx)), (qre, .inl (cI, 6, .inl mr))] H → va_D (va_A [(qo, .inr (3, [.int (nI n), .ref qha, .ref qkn, .ref qtr, .int mc, .ref qhv, .ref qbe, .int (nI Q), .ref qlo, .ref qhi, .ref qpa, .ref qne, .ref qre])), (qha, .inl (cZ, 36, .inl mh)), (qkn, .inl (cZ, 36, .inl mk)), (qtr, .inl (cZ, 36, .inl mt)), (qhv, .inl (cI, 36, .inl mv)), (qbe, .inl (cZ, 36, .inl mb)), (qlo, .inl (cI, 9, .inl ml)), (qhi, .inl (cI, 9, .inl mg)), (qpa, .inl (cI, 6, .inl mp)), (qne, .inl (cI, 6, .inl mx)), (qre, .inl (cI, 6, .inl mr))] s.heap.size) [(qo, .inr (3, [.int (nI n), .ref qha, .ref qkn, .ref qtr, .int mc, .ref qhv, .ref qbe, .int (nI Q), .ref qlo, .ref qhi, .ref qpa, .ref qne, .ref qre])), (qha, .inl (cZ, 36, .inl mh)), (qkn, .inl (cZ, 36, .inl mk)), (qtr, .inl (cZ, 36, .inl mt_23)), (qhv, .inl (cI, 36, .inl mv)), (qbe, .inl (cZ, 36, .inl mb)), (qlo, .inl (cI, 9, .inl ml)), (qhi, .inl (cI, 9, .inl mg)), (qpa, .inl (cI, 6, .inl mp)), (qne, .inl (cI, 6, .inl mx)), (qre, .inl (cI, 6, .inl mr))] → va_S (va_A [(qo, .inr (3, [.int (nI n), .ref qha, .ref qkn, .ref qtr, .int mc, .ref qhv, .ref qbe, .int (nI Q), .ref qlo, .ref qhi, .ref qpa, .ref qne, .ref qre])), (qha, .inl (cZ, 36, .inl mh)), (qkn, .inl (cZ, 36, .inl mk)), (qtr, .inl (cZ, 36, .inl mt)), (qhv, .inl (cI, 36, .inl mv)), (qbe, .inl (cZ, 36, .inl mb)), (qlo, .inl (cI, 9, .inl ml)), (qhi, .inl (cI, 9, .inl mg)), (qpa, .inl (cI, 6, .inl mp)), (qne, .inl (cI, 6, .inl mx)), (qre, .inl (cI, 6, .inl mr))] s.heap.size) s.heap H locs → lv_has ls 6 [(2, .int (nI i_23)), (0, .ref qo), (1, .int way)] → W p l e (headSpec w_M_direct rm_M_direct).room s m ([.ref qo, .int way] : List Value).toArray below meth c H locs 0 0 (MQ below (va_Qv (fun _ : Unit => True) (fun (_ : Unit) t => va_P (dC, dI) vwCl [(qo, .inr (3, [.int (nI n), .ref qha, .ref qkn, .ref qtr, .int mc, .ref qhv, .ref qbe, .int (nI Q), .ref qlo, .ref qhi, .ref qpa, .ref qne, .ref qre])), (qha, .inl (cZ, 36, .inl mh)), (qkn, .inl (cZ, 36, .inl mk)), (qtr, .inl (cZ, 36, .inl (mDirect mt ml mg Q way))), (qhv, .inl (cI, 36, .inl mv)), (qbe, .inl (cZ, 36, .inl mb)), (qlo, .inl (cI, 9, .inl ml)), (qhi, .inl (cI, 9, .inl mg)), (qpa, .inl (cI, 6, .inl mp)), (qne, .inl (cI, 6, .inl mx)), (qre, .inl (cI, 6, .inl mr))] t.heap ∧ va_K (dC, dI) vwCl [(cI, .int), (cZ, .boolean)] t ∧ va_D (va_A [(qo, .inr (3, [.int (nI n), .ref qha, .ref qkn, .ref qtr, .int mc, .ref qhv, .ref qbe, .int (nI Q), .ref qlo, .ref qhi, .ref qpa, .ref qne, .ref qre])), (qha, .inl (cZ, 36, .inl mh)), (qkn, .inl (cZ, 36, .inl mk)), (qtr, .inl (cZ, 36, .inl mt)), (qhv, .inl (cI, 36, .inl mv)), (qbe, .inl (cZ, 36, .inl mb)), (qlo, .inl (cI, 9, .inl ml)), (qhi, .inl (cI, 9, .inl mg)), (qpa, .inl (cI, 6, .inl mp)), (qne, .inl (cI, 6, .inl mx)), (qre, .inl (cI, 6, .inl mr))] s.heap.size) [(qo, .inr (3, [.int (nI n), .ref qha, .ref qkn, .ref qtr, .int mc, .ref qhv, .ref qbe, .int (nI Q), .ref qlo, .ref qhi, .ref qpa, .ref qne, .ref qre])), (qha, .inl (cZ, 36, .inl mh)), (qkn, .inl (cZ, 36, .inl mk)), (qtr, .inl (cZ, 36, .inl (mDirect mt ml mg Q way))), (qhv, .inl (cI, 36, .inl mv)), (qbe, .inl (cZ, 36, .inl mb)), (qlo, .inl (cI, 9, .inl ml)), (qhi, .inl (cI, 9, .inl mg)), (qpa, .inl (cI, 6, .inl mp)), (qne, .inl (cI, 6, .inl mx)), (qre, .inl (cI, 6, .inl mr))]) (va_A [(qo, .inr (3, [.int (nI n), .ref qha, .ref qkn, .ref qtr, .int mc, .ref qhv, .ref qbe, .int (nI Q), .ref qlo, .ref qhi, .ref qpa, .ref qne, .ref qre])), (qha, .inl (cZ, 36, .inl mh)), (qkn, .inl (cZ, 36, .inl mk)), (qtr, .inl (cZ, 36, .inl mt)), (qhv, .inl (cI, 36, .inl mv)), (qbe, .inl (cZ, 36, .inl mb)), (qlo, .inl (cI, 9, .inl ml)), (qhi, .inl (cI, 9, .inl mg)), (qpa, .inl (cI, 6, .inl mp)), (qne, .inl (cI, 6, .inl mx)), (qre, .inl (cI, 6, .inl mr))] s.heap.size)) ([.ref qo, .int way] : List Value).toArray s 0 0 (va_A [(qo, .inr (3, [.int (nI n), .ref qha, .ref qkn, .ref qtr, .int mc, .ref qhv, .ref qbe, .int (nI Q), .ref qlo, .ref qhi, .ref qpa, .ref qne, .ref qre])), (qha, .inl (cZ, 36, .inl mh)), (qkn, .inl (cZ, 36, .inl mk)), (qtr, .inl (cZ, 36, .inl mt)), (qhv, .inl (cI, 36, .inl mv)), (qbe, .inl (cZ, 36, .inl mb)), (qlo, .inl (cI, 9, .inl ml)), (qhi, .inl (cI, 9, .inl mg)), (qpa, .inl (cI, 6, .inl mp)), (qne, .inl (cI, 6, .inl mx)), (qre, .inl (cI, 6, .inl mr))] s.heap.size)) (F0 m 23 ls []) := by
        intro k_23
        induction k_23 with
        | zero =>
          intro i_23 mt_23 H locs ls hik_23 hfin_23 hP hD hS hl
          refine lv_iload_n hx hb d_M_direct_23 rfl (lv_at hl 0 rfl) ?_
          refine lv_aload_n hx hb d_M_direct_24 rfl (lv_at hl 1 rfl) ?_
          refine va_get (D := (dC, dI)) (ci := 3) (v := .int (nI Q)) (C := "ArrowClassesModel") (T := TM) (N := 13) hx hb hT inM hown hK hP 0 rfl rfl 7 (by decide) (hT _ wd_fld_M_93) (fun _ h9 => h9) rfl d_M_direct_25 ?_
          refine lv_icmp_ge (tgt := 114) hx hb d_M_direct_28 (by decide) (fun _ => ?_) (fun h2 => by rw [nI_leI (by omega) (by omega)] at h2; omega)
          have hF : (mDirect mt ml mg Q way) = mt_23 := (hfin_23.symm.trans (by rw [mDirect_L23]))
          exact W.vret hx hb hr (fun t ht hW => ⟨⟨(), rfl, trivial, by rw [hF, ht]; exact hP, va_K.moved hW.alike hK, by rw [hF]; exact hD⟩, hS.F ht⟩) hS.2.2 d_M_direct_114
        | succ k_23 ih_23 =>
          intro i_23 mt_23 H locs ls hik_23 hfin_23 hP hD hS hl
          refine lv_iload_n hx hb d_M_direct_23 rfl (lv_at hl 0 rfl) ?_
          refine lv_aload_n hx hb d_M_direct_24 rfl (lv_at hl 1 rfl) ?_
          refine va_get (D := (dC, dI)) (ci := 3) (v := .int (nI Q)) (C := "ArrowClassesModel") (T := TM) (N := 13) hx hb hT inM hown hK hP 0 rfl rfl 7 (by decide) (hT _ wd_fld_M_93) (fun _ h9 => h9) rfl d_M_direct_25 ?_
          refine lv_icmp_ge (tgt := 114) hx hb d_M_direct_28 (by decide) (fun h3 => by rw [nI_leI (by omega) (by omega)] at h3; omega) (fun _ => ?_)
          refine lv_iload_n hx hb d_M_direct_31 rfl (lv_at hl 2 rfl) ?_
          refine lv_aload_n hx hb d_M_direct_32 rfl (lv_at hl 1 rfl) ?_
          refine va_get (D := (dC, dI)) (ci := 3) (v := .int (nI Q)) (C := "ArrowClassesModel") (T := TM) (N := 13) hx hb hT inM hown hK hP 0 rfl rfl 7 (by decide) (hT _ wd_fld_M_93) (fun _ h9 => h9) rfl d_M_direct_33 ?_
          refine lv_iconst (v := 1) hx hb d_M_direct_36 (by decide) ?_
          refine lv_isub hx hb d_M_direct_37 ?_
          refine lv_iload_n hx hb d_M_direct_38 rfl (lv_at hl 0 rfl) ?_
          refine lv_isub hx hb d_M_direct_39 ?_
          refine lv_ishr hx hb d_M_direct_40 ?_
          refine lv_iconst (v := 1) hx hb d_M_direct_41 (by decide) ?_
          refine lv_iand hx hb d_M_direct_42 ?_
          refine lv_if_ne (tgt := 50) hx hb d_M_direct_43 (by decide) (fun h4 => ?_) (fun h4 => ?_)
          ·
            refine lv_iconst (v := 0) hx hb d_M_direct_50 (by decide) ?_
            refine lv_istore_n hx hb d_M_direct_51 rfl hl (by decide) rfl (fun ls hl => ?_)
            have hl : lv_has ls 6 [(3, .int 0), (2, .int (nI i_23)), (0, .ref qo), (1, .int way)] := hl
            refine lv_iload_n hx hb d_M_direct_52 rfl (lv_at hl 0 rfl) ?_
            refine lv_if_eq (tgt := 65) hx hb d_M_direct_53 (by decide) (fun _ => ?_) (fun h5 => absurd h5 (by decide))
            refine lv_aload_n hx hb d_M_direct_65 rfl (lv_at hl 2 rfl) ?_
            refine va_get (D := (dC, dI)) (ci := 3) (v := .ref qhi) (C := "ArrowClassesModel") (T := TM) (N := 13) hx hb hT inM hown hK hP 0 rfl rfl 9 (by decide) (hT _ wd_fld_M_29) (fun _ h9 => h9) rfl d_M_direct_66 ?_
            refine lv_iload_n hx hb d_M_direct_69 rfl (lv_at hl 1 rfl) ?_
            refine va_iald (D := (dC, dI)) hx hb hK hP 7 0 rfl rfl (vp_in_nI (by omega) (by omega)) d_M_direct_70 ?_
            refine lv_istore hx hb d_M_direct_71 hl (by decide) rfl (fun ls hl => ?_)
            have hl : lv_has ls 6 [(4, .int (mg (nI i_23).toNatClampNeg)), (3, .int 0), (2, .int (nI i_23)), (0, .ref qo), (1, .int way)] := hl
            refine lv_iload_n hx hb d_M_direct_73 rfl (lv_at hl 1 rfl) ?_
            refine lv_if_eq (tgt := 86) hx hb d_M_direct_74 (by decide) (fun _ => ?_) (fun h6 => absurd h6 (by decide))
            refine lv_aload_n hx hb d_M_direct_86 rfl (lv_at hl 3 rfl) ?_
            refine va_get (D := (dC, dI)) (ci := 3) (v := .ref qlo) (C := "ArrowClassesModel") (T := TM) (N := 13) hx hb hT inM hown hK hP 0 rfl rfl 8 (by decide) (hT _ wd_fld_M_26) (fun _ h9 => h9) rfl d_M_direct_87 ?_
            refine lv_iload_n hx hb d_M_direct_90 rfl (lv_at hl 2 rfl) ?_
            refine va_iald (D := (dC, dI)) hx hb hK hP 6 0 rfl rfl (vp_in_nI (by omega) (by omega)) d_M_direct_91 ?_
            refine lv_istore hx hb d_M_direct_92 hl (by decide) rfl (fun ls hl => ?_)
            have hl : lv_has ls 6 [(5, .int (ml (nI i_23).toNatClampNeg)), (4, .int (mg (nI i_23).toNatClampNeg)), (3, .int 0), (2, .int (nI i_23)), (0, .ref qo), (1, .int way)] := hl
            refine lv_aload_n hx hb d_M_direct_94 rfl (lv_at hl 4 rfl) ?_
            refine va_get (D := (dC, dI)) (ci := 3) (v := .ref qtr) (C := "ArrowClassesModel") (T := TM) (N := 13) hx hb hT inM hown hK hP 0 rfl rfl 3 (by decide) (hT _ wd_fld_M_16) (fun _ h9 => h9) rfl d_M_direct_95 ?_
            refine lv_bipush (v := 6) hx hb d_M_direct_98 (by decide) ?_
            refine lv_iload hx hb d_M_direct_100 (lv_at hl 1 rfl) ?_
            refine lv_imul hx hb d_M_direct_102 ?_
            refine lv_iload hx hb d_M_direct_103 (lv_at hl 0 rfl) ?_
            refine lv_iadd hx hb d_M_direct_105 ?_
            refine lv_iconst (v := 1) hx hb d_M_direct_106 (by decide) ?_
            refine va_zast (D := (dC, dI)) hx hb hK hP hD hS 3 1 rfl rfl (vz_ix hn (hmhi _ (by rw [nI_clamp (by omega)]; omega)) (hmlo _ (by rw [nI_clamp (by omega)]; omega))) d_M_direct_107 (fun H locs hP hD hS => ?_)
            have hP : va_P (dC, dI) vwCl [(qo, .inr (3, [.int (nI n), .ref qha, .ref qkn, .ref qtr, .int mc, .ref qhv, .ref qbe, .int (nI Q), .ref qlo, .ref qhi, .ref qpa, .ref qne, .ref qre])), (qha, .inl (cZ, 36, .inl mh)), (qkn, .inl (cZ, 36, .inl mk)), (qtr, .inl (cZ, 36, .inl (upd mt_23 ((6 * (mg (nI i_23).toNatClampNeg)) + (ml (nI i_23).toNatClampNeg)).toNatClampNeg (vp_nar .boolean 1)))), (qhv, .inl (cI, 36, .inl mv)), (qbe, .inl (cZ, 36, .inl mb)), (qlo, .inl (cI, 9, .inl ml)), (qhi, .inl (cI, 9, .inl mg)), (qpa, .inl (cI, 6, .inl mp)), (qne, .inl (cI, 6, .inl mx)), (qre, .inl (cI, 6, .inl mr))] H := hP
            have hD : va_D (va_A [(qo, .inr (3, [.int (nI n), .ref qha, .ref qkn, .ref qtr, .int mc, .ref qhv, .ref qbe, .int (nI Q), .ref qlo, .ref qhi, .ref qpa, .ref qne, .ref qre])), (qha, .inl (cZ, 36, .inl mh)), (qkn, .inl (cZ, 36, .inl mk)), (qtr, .inl (cZ, 36, .inl mt)), (qhv, .inl (cI, 36, .inl mv)), (qbe, .inl (cZ, 36, .inl mb)), (qlo, .inl (cI, 9, .inl ml)), (qhi, .inl (cI, 9, .inl mg)), (qpa, .inl (cI, 6, .inl mp)), (qne, .inl (cI, 6, .inl mx)), (qre, .inl (cI, 6, .inl mr))] s.heap.size) [(qo, .inr (3, [.int (nI n), .ref qha, .ref qkn, .ref qtr, .int mc, .ref qhv, .ref qbe, .int (nI Q), .ref qlo, .ref qhi, .ref qpa, .ref qne, .ref qre])), (qha, .inl (cZ, 36, .inl mh)), (qkn, .inl (cZ, 36, .inl mk)), (qtr, .inl (cZ, 36, .inl (upd mt_23 ((6 * (mg (nI i_23).toNatClampNeg)) + (ml (nI i_23).toNatClampNeg)).toNatClampNeg (vp_nar .boolean 1)))), (qhv, .inl (cI, 36, .inl mv)), (qbe, .inl (cZ, 36, .inl mb)), (qlo, .inl (cI, 9, .inl ml)), (qhi, .inl (cI, 9, .inl mg)), (qpa, .inl (cI, 6, .inl mp)), (qne, .inl (cI, 6, .inl mx)), (qre, .inl (cI, 6, .inl mr))] := hD
            refine lv_iinc (k := 3) (v := nI (i_23 + 1)) hx hb d_M_direct_108 hl rfl (vz_inc i_23) (by decide) rfl (fun ls hl => ?_)
            have hl : lv_has ls 6 [(2, .int (nI (i_23 + 1))), (5, .int (ml (nI i_23).toNatClampNeg)), (4, .int (mg (nI i_23).toNatClampNeg)), (3, .int 0), (0, .ref qo), (1, .int way)] := hl
            refine lv_goto (tgt := 23) hx hb d_M_direct_111 (by decide) ?_
            exact ih_23 (i_23 + 1) (upd mt_23 ((6 * (mg (nI i_23).toNatClampNeg)) + (ml (nI i_23).toNatClampNeg)).toNatClampNeg (vp_nar .boolean 1)) H locs ls (by omega) (by rw [mDirect_L23, if_neg h4] at hfin_23; exact hfin_23) hP hD hS (lv_sub hl [0, 4, 5] rfl)
          ·
            refine lv_iconst (v := 1) hx hb d_M_direct_46 (by decide) ?_
            refine lv_goto (tgt := 51) hx hb d_M_direct_47 (by decide) ?_
            refine lv_istore_n hx hb d_M_direct_51 rfl hl (by decide) rfl (fun ls hl => ?_)
            have hl : lv_has ls 6 [(3, .int 1), (2, .int (nI i_23)), (0, .ref qo), (1, .int way)] := hl
            refine lv_iload_n hx hb d_M_direct_52 rfl (lv_at hl 0 rfl) ?_
            refine lv_if_eq (tgt := 65) hx hb d_M_direct_53 (by decide) (fun h7 => absurd h7 (by decide)) (fun _ => ?_)
            refine lv_aload_n hx hb d_M_direct_56 rfl (lv_at hl 2 rfl) ?_
            refine va_get (D := (dC, dI)) (ci := 3) (v := .ref qlo) (C := "ArrowClassesModel") (T := TM) (N := 13) hx hb hT inM hown hK hP 0 rfl rfl 8 (by decide) (hT _ wd_fld_M_26) (fun _ h9 => h9) rfl d_M_direct_57 ?_
            refine lv_iload_n hx hb d_M_direct_60 rfl (lv_at hl 1 rfl) ?_
            refine va_iald (D := (dC, dI)) hx hb hK hP 6 0 rfl rfl (vp_in_nI (by omega) (by omega)) d_M_direct_61 ?_
            refine lv_goto (tgt := 71) hx hb d_M_direct_62 (by decide) ?_
            refine lv_istore hx hb d_M_direct_71 hl (by decide) rfl (fun ls hl => ?_)
            have hl : lv_has ls 6 [(4, .int (ml (nI i_23).toNatClampNeg)), (3, .int 1), (2, .int (nI i_23)), (0, .ref qo), (1, .int way)] := hl
            refine lv_iload_n hx hb d_M_direct_73 rfl (lv_at hl 1 rfl) ?_
            refine lv_if_eq (tgt := 86) hx hb d_M_direct_74 (by decide) (fun h8 => absurd h8 (by decide)) (fun _ => ?_)
            refine lv_aload_n hx hb d_M_direct_77 rfl (lv_at hl 3 rfl) ?_
            refine va_get (D := (dC, dI)) (ci := 3) (v := .ref qhi) (C := "ArrowClassesModel") (T := TM) (N := 13) hx hb hT inM hown hK hP 0 rfl rfl 9 (by decide) (hT _ wd_fld_M_29) (fun _ h9 => h9) rfl d_M_direct_78 ?_
            refine lv_iload_n hx hb d_M_direct_81 rfl (lv_at hl 2 rfl) ?_
            refine va_iald (D := (dC, dI)) hx hb hK hP 7 0 rfl rfl (vp_in_nI (by omega) (by omega)) d_M_direct_82 ?_
            refine lv_goto (tgt := 92) hx hb d_M_direct_83 (by decide) ?_
            refine lv_istore hx hb d_M_direct_92 hl (by decide) rfl (fun ls hl => ?_)
            have hl : lv_has ls 6 [(5, .int (mg (nI i_23).toNatClampNeg)), (4, .int (ml (nI i_23).toNatClampNeg)), (3, .int 1), (2, .int (nI i_23)), (0, .ref qo), (1, .int way)] := hl
            refine lv_aload_n hx hb d_M_direct_94 rfl (lv_at hl 4 rfl) ?_
            refine va_get (D := (dC, dI)) (ci := 3) (v := .ref qtr) (C := "ArrowClassesModel") (T := TM) (N := 13) hx hb hT inM hown hK hP 0 rfl rfl 3 (by decide) (hT _ wd_fld_M_16) (fun _ h9 => h9) rfl d_M_direct_95 ?_
            refine lv_bipush (v := 6) hx hb d_M_direct_98 (by decide) ?_
            refine lv_iload hx hb d_M_direct_100 (lv_at hl 1 rfl) ?_
            refine lv_imul hx hb d_M_direct_102 ?_
            refine lv_iload hx hb d_M_direct_103 (lv_at hl 0 rfl) ?_
            refine lv_iadd hx hb d_M_direct_105 ?_
            refine lv_iconst (v := 1) hx hb d_M_direct_106 (by decide) ?_
            refine va_zast (D := (dC, dI)) hx hb hK hP hD hS 3 1 rfl rfl (vz_ix hn (hmlo _ (by rw [nI_clamp (by omega)]; omega)) (hmhi _ (by rw [nI_clamp (by omega)]; omega))) d_M_direct_107 (fun H locs hP hD hS => ?_)
            have hP : va_P (dC, dI) vwCl [(qo, .inr (3, [.int (nI n), .ref qha, .ref qkn, .ref qtr, .int mc, .ref qhv, .ref qbe, .int (nI Q), .ref qlo, .ref qhi, .ref qpa, .ref qne, .ref qre])), (qha, .inl (cZ, 36, .inl mh)), (qkn, .inl (cZ, 36, .inl mk)), (qtr, .inl (cZ, 36, .inl (upd mt_23 ((6 * (ml (nI i_23).toNatClampNeg)) + (mg (nI i_23).toNatClampNeg)).toNatClampNeg (vp_nar .boolean 1)))), (qhv, .inl (cI, 36, .inl mv)), (qbe, .inl (cZ, 36, .inl mb)), (qlo, .inl (cI, 9, .inl ml)), (qhi, .inl (cI, 9, .inl mg)), (qpa, .inl (cI, 6, .inl mp)), (qne, .inl (cI, 6, .inl mx)), (qre, .inl (cI, 6, .inl mr))] H := hP
            have hD : va_D (va_A [(qo, .inr (3, [.int (nI n), .ref qha, .ref qkn, .ref qtr, .int mc, .ref qhv, .ref qbe, .int (nI Q), .ref qlo, .ref qhi, .ref qpa, .ref qne, .ref qre])), (qha, .inl (cZ, 36, .inl mh)), (qkn, .inl (cZ, 36, .inl mk)), (qtr, .inl (cZ, 36, .inl mt)), (qhv, .inl (cI, 36, .inl mv)), (qbe, .inl (cZ, 36, .inl mb)), (qlo, .inl (cI, 9, .inl ml)), (qhi, .inl (cI, 9, .inl mg)), (qpa, .inl (cI, 6, .inl mp)), (qne, .inl (cI, 6, .inl mx)), (qre, .inl (cI, 6, .inl mr))] s.heap.size) [(qo, .inr (3, [.int (nI n), .ref qha, .ref qkn, .ref qtr, .int mc, .ref qhv, .ref qbe, .int (nI Q), .ref qlo, .ref qhi, .ref qpa, .ref qne, .ref qre])), (qha, .inl (cZ, 36, .inl mh)), (qkn, .inl (cZ, 36, .inl mk)), (qtr, .inl (cZ, 36, .inl (upd mt_23 ((6 * (ml (nI i_23).toNatClampNeg)) + (mg (nI i_23).toNatClampNeg)).toNatClampNeg (vp_nar .boolean 1)))), (qhv, .inl (cI, 36, .inl mv)), (qbe, .inl (cZ, 36, .inl mb)), (qlo, .inl (cI, 9, .inl ml)), (qhi, .inl (cI, 9, .inl mg)), (qpa, .inl (cI, 6, .inl mp)), (qne, .inl (cI, 6, .inl mx)), (qre, .inl (cI, 6, .inl mr))] := hD
            refine lv_iinc (k := 3) (v := nI (i_23 + 1)) hx hb d_M_direct_108 hl rfl (vz_inc i_23) (by decide) rfl (fun ls hl => ?_)
            have hl : lv_has ls 6 [(2, .int (nI (i_23 + 1))), (5, .int (mg (nI i_23).toNatClampNeg)), (4, .int (ml (nI i_23).toNatClampNeg)), (3, .int 1), (0, .ref qo), (1, .int way)] := hl
            refine lv_goto (tgt := 23) hx hb d_M_direct_111 (by decide) ?_
            exact ih_23 (i_23 + 1) (upd mt_23 ((6 * (ml (nI i_23).toNatClampNeg)) + (mg (nI i_23).toNatClampNeg)).toNatClampNeg (vp_nar .boolean 1)) H locs ls (by omega) (by rw [mDirect_L23, if_pos h4] at hfin_23; exact hfin_23) hP hD hS (lv_sub hl [0, 4, 5] rfl)
      exact lp_23 Q 0 mt_2 _ _ _ (by omega) (by rw [mDirect_L2] at hfin_2; exact hfin_2) hP hD hS (lv_sub hl [0, 1, 2] rfl)
    | succ k_2 ih_2 =>
      intro i_2 mt_2 H locs ls hik_2 hfin_2 hP hD hS hl
      refine lv_iload_n hx hb d_M_direct_2 rfl (lv_at hl 0 rfl) ?_
      refine lv_bipush (v := 36) hx hb d_M_direct_3 (by decide) ?_
      refine vz_top (y := nI 36) (by decide) ?_
      refine lv_icmp_ge (tgt := 21) hx hb d_M_direct_5 (by decide) (fun h9 => by rw [nI_leI (by omega) (by omega)] at h9; omega) (fun _ => ?_)
      refine lv_aload_n hx hb d_M_direct_8 rfl (lv_at hl 1 rfl) ?_
      refine va_get (D := (dC, dI)) (ci := 3) (v := .ref qtr) (C := "ArrowClassesModel") (T := TM) (N := 13) hx hb hT inM hown hK hP 0 rfl rfl 3 (by decide) (hT _ wd_fld_M_16) (fun _ h9 => h9) rfl d_M_direct_9 ?_
      refine lv_iload_n hx hb d_M_direct_12 rfl (lv_at hl 0 rfl) ?_
      refine lv_iconst (v := 0) hx hb d_M_direct_13 (by decide) ?_
      refine va_zast (D := (dC, dI)) hx hb hK hP hD hS 3 1 rfl rfl (vp_in_nI (by omega) (by omega)) d_M_direct_14 (fun H locs hP hD hS => ?_)
      have hP : va_P (dC, dI) vwCl [(qo, .inr (3, [.int (nI n), .ref qha, .ref qkn, .ref qtr, .int mc, .ref qhv, .ref qbe, .int (nI Q), .ref qlo, .ref qhi, .ref qpa, .ref qne, .ref qre])), (qha, .inl (cZ, 36, .inl mh)), (qkn, .inl (cZ, 36, .inl mk)), (qtr, .inl (cZ, 36, .inl (upd mt_2 (nI i_2).toNatClampNeg (vp_nar .boolean 0)))), (qhv, .inl (cI, 36, .inl mv)), (qbe, .inl (cZ, 36, .inl mb)), (qlo, .inl (cI, 9, .inl ml)), (qhi, .inl (cI, 9, .inl mg)), (qpa, .inl (cI, 6, .inl mp)), (qne, .inl (cI, 6, .inl mx)), (qre, .inl (cI, 6, .inl mr))] H := hP
      have hD : va_D (va_A [(qo, .inr (3, [.int (nI n), .ref qha, .ref qkn, .ref qtr, .int mc, .ref qhv, .ref qbe, .int (nI Q), .ref qlo, .ref qhi, .ref qpa, .ref qne, .ref qre])), (qha, .inl (cZ, 36, .inl mh)), (qkn, .inl (cZ, 36, .inl mk)), (qtr, .inl (cZ, 36, .inl mt)), (qhv, .inl (cI, 36, .inl mv)), (qbe, .inl (cZ, 36, .inl mb)), (qlo, .inl (cI, 9, .inl ml)), (qhi, .inl (cI, 9, .inl mg)), (qpa, .inl (cI, 6, .inl mp)), (qne, .inl (cI, 6, .inl mx)), (qre, .inl (cI, 6, .inl mr))] s.heap.size) [(qo, .inr (3, [.int (nI n), .ref qha, .ref qkn, .ref qtr, .int mc, .ref qhv, .ref qbe, .int (nI Q), .ref qlo, .ref qhi, .ref qpa, .ref qne, .ref qre])), (qha, .inl (cZ, 36, .inl mh)), (qkn, .inl (cZ, 36, .inl mk)), (qtr, .inl (cZ, 36, .inl (upd mt_2 (nI i_2).toNatClampNeg (vp_nar .boolean 0)))), (qhv, .inl (cI, 36, .inl mv)), (qbe, .inl (cZ, 36, .inl mb)), (qlo, .inl (cI, 9, .inl ml)), (qhi, .inl (cI, 9, .inl mg)), (qpa, .inl (cI, 6, .inl mp)), (qne, .inl (cI, 6, .inl mx)), (qre, .inl (cI, 6, .inl mr))] := hD
      refine lv_iinc (k := 0) (v := nI (i_2 + 1)) hx hb d_M_direct_15 hl rfl (vz_inc i_2) (by decide) rfl (fun ls hl => ?_)
      have hl : lv_has ls 6 [(2, .int (nI (i_2 + 1))), (0, .ref qo), (1, .int way)] := hl
      refine lv_goto (tgt := 2) hx hb d_M_direct_18 (by decide) ?_
      exact ih_2 (i_2 + 1) (upd mt_2 (nI i_2).toNatClampNeg (vp_nar .boolean 0)) H locs ls (by omega) (by rw [mDirect_L2] at hfin_2; exact hfin_2) hP hD hS (lv_sub hl [0, 1, 2] rfl)
  exact lp_2 36 0 mt _ _ _ (by omega) (by rw [mDirect]) hP hD hS (lv_sub hl [0, 1, 2] rfl)
set_option maxRecDepth 100000 in
set_option maxHeartbeats 4000000 in
theorem c_M_hasRing (l : Launch) (dC : Nat → ClassId) (dI : Nat → Nat → Nat) (cI cZ : ClassId) (qo qha qkn qtr qhv qbe qlo qhi qpa qne qre : Nat) (mh : Nat → Int32) (mk : Nat → Int32) (mv : Nat → Int32) (mb : Nat → Int32) (ml : Nat → Int32) (mg : Nat → Int32) (mp : Nat → Int32) (mx : Nat → Int32) (mr : Nat → Int32) (mc : Int32) (Q : Nat) (n : Nat) (mt : Nat → Int32) (hn : n ≤ 6) : Met l y_M_hasRing w_M_hasRing rm_M_hasRing (va_Pc [.ref qo] (vz_B (dC, dI) vwCl [(qo, .inr (3, [.int (nI n), .ref qha, .ref qkn, .ref qtr, .int mc, .ref qhv, .ref qbe, .int (nI Q), .ref qlo, .ref qhi, .ref qpa, .ref qne, .ref qre])), (qha, .inl (cZ, 36, .inl mh)), (qkn, .inl (cZ, 36, .inl mk)), (qtr, .inl (cZ, 36, .inl mt)), (qhv, .inl (cI, 36, .inl mv)), (qbe, .inl (cZ, 36, .inl mb)), (qlo, .inl (cI, 9, .inl ml)), (qhi, .inl (cI, 9, .inl mg)), (qpa, .inl (cI, 6, .inl mp)), (qne, .inl (cI, 6, .inl mx)), (qre, .inl (cI, 6, .inl mr))] [(cI, .int), (cZ, .boolean)])) (QcRead (mRing n mt)) 0 0 (fun _ => False) := by
  refine Met.ofW (cc := b_M_hasRing) (maxL := 6) (ret := (some .boolean)) (by decide) rfl ?_
  intro p e s m args below meth c s₁ B hml hv
  obtain ⟨rfl, hP, hK, hN⟩ := hv
  have hx := B.exec
  have hb := B.bytes
  have hr := B.returns
  have hts := atoms_spec (ws := w_M_hasRing) B.pre
  have hT : ∀ w ∈ vzB, w.before ([.ref qo] : List Value).toArray s = true := fun w h => hts w (List.mem_cons_of_mem _ h)
  have hown : s.vm.findClass "ArrowClassesModel" = some m.cls := findClass_of_methodNamed B.named
  have hlocks := B.notSynchronized
  have hl := lv_entry ([.ref qo]) (n := 6) (Nat.le_of_ble_eq_true rfl)
  rw [lg_entry_eq]
  generalize (lg_sl ([.ref qo]) ++ List.replicate (6 - (lg_sl ([.ref qo])).length) Slot.unset).toArray = ls at hl ⊢
  have hl : lv_has ls 6 [(0, .ref qo)] := hl
  refine lv_iconst (v := 1) hx hb d_M_hasRing_0 (by decide) ?_
  refine lv_aload_n hx hb d_M_hasRing_1 rfl (lv_at hl 0 rfl) ?_
  refine va_get (D := (dC, dI)) (ci := 3) (v := .int (nI n)) (C := "ArrowClassesModel") (T := TM) (N := 13) hx hb hT inM hown hK hP 0 rfl rfl 0 (by decide) (hT _ wd_fld_M_41) (fun _ h9 => h9) rfl d_M_hasRing_2 ?_
  refine lv_ishl hx hb d_M_hasRing_5 ?_
  refine lv_iconst (v := 1) hx hb d_M_hasRing_6 (by decide) ?_
  refine lv_isub hx hb d_M_hasRing_7 ?_
  refine lv_istore_n hx hb d_M_hasRing_8 rfl hl (by decide) rfl (fun ls hl => ?_)
  have hl : lv_has ls 6 [(1, .int ((1 <<< ((nI n) &&& 31)) - 1)), (0, .ref qo)] := hl
  refine lv_iconst (v := 0) hx hb d_M_hasRing_9 (by decide) ?_
  refine vz_top (y := nI 0) (by decide) ?_
  refine lv_istore_n hx hb d_M_hasRing_10 rfl hl (by decide) rfl (fun ls hl => ?_)
  have hl : lv_has ls 6 [(2, .int (nI 0)), (1, .int ((1 <<< ((nI n) &&& 31)) - 1)), (0, .ref qo)] := hl
  have lp_11 : ∀ (k_11 i_11 : Nat) (le_11 : Int32) (ls : Array Slot), i_11 + k_11 = 6 → mRing_L11 n mt k_11 i_11 le_11 = (mRing n mt) → lv_has ls 6 [(2, .int (nI i_11)), (1, .int le_11), (0, .ref qo)] → W p l e (headSpec w_M_hasRing rm_M_hasRing).room s m ([.ref qo] : List Value).toArray below meth c s.heap [] 0 0 (MQ below (QcRead (mRing n mt)) ([.ref qo] : List Value).toArray s 0 0 (fun _ => False)) (F0 m 11 ls []) := by
    intro k_11
    induction k_11 with
    | zero =>
      intro i_11 le_11 ls hik_11 hfin_11 hl
      refine lv_iload_n hx hb d_M_hasRing_11 rfl (lv_at hl 0 rfl) ?_
      refine lv_bipush (v := 6) hx hb d_M_hasRing_12 (by decide) ?_
      refine vz_top (y := nI 6) (by decide) ?_
      refine lv_icmp_ge (tgt := 114) hx hb d_M_hasRing_14 (by decide) (fun _ => ?_) (fun h1 => by rw [nI_leI (by omega) (by omega)] at h1; omega)
      refine lv_iload_n hx hb d_M_hasRing_114 rfl (lv_at hl 1 rfl) ?_
      refine lv_if_eq (tgt := 122) hx hb d_M_hasRing_115 (by decide) (fun h2 => ?_) (fun h2 => ?_)
      ·
        refine lv_iconst (v := 0) hx hb d_M_hasRing_122 (by decide) ?_
        exact W.zret hx hb hr (by decide) (fun t ht hW => ⟨by rw [show (mRing n mt) = (0 : Int32) from (hfin_11.symm.trans (by rw [mRing_L11, if_pos h2]))], ht⟩) (fun q h => absurd h List.not_mem_nil) d_M_hasRing_123
      ·
        refine lv_iconst (v := 1) hx hb d_M_hasRing_118 (by decide) ?_
        refine lv_goto (tgt := 123) hx hb d_M_hasRing_119 (by decide) ?_
        exact W.zret hx hb hr (by decide) (fun t ht hW => ⟨by rw [show (mRing n mt) = (1 : Int32) from (hfin_11.symm.trans (by rw [mRing_L11, if_neg h2]))], ht⟩) (fun q h => absurd h List.not_mem_nil) d_M_hasRing_123
    | succ k_11 ih_11 =>
      intro i_11 le_11 ls hik_11 hfin_11 hl
      refine lv_iload_n hx hb d_M_hasRing_11 rfl (lv_at hl 0 rfl) ?_
      refine lv_bipush (v := 6) hx hb d_M_hasRing_12 (by decide) ?_
      refine vz_top (y := nI 6) (by decide) ?_
      refine lv_icmp_ge (tgt := 114) hx hb d_M_hasRing_14 (by decide) (fun h3 => by rw [nI_leI (by omega) (by omega)] at h3; omega) (fun _ => ?_)
      refine lv_iconst (v := 0) hx hb d_M_hasRing_17 (by decide) ?_
      refine vz_top (y := nI 0) (by decide) ?_
      refine lv_istore_n hx hb d_M_hasRing_18 rfl hl (by decide) rfl (fun ls hl => ?_)
      have hl : lv_has ls 6 [(3, .int (nI 0)), (2, .int (nI i_11)), (1, .int le_11), (0, .ref qo)] := hl
      have lp_19 : ∀ (k_19 i_19 : Nat) (le_19 : Int32) (ls : Array Slot), i_19 + k_19 = n → mRing_L19 n mt i_11 le_11 (fun w0 => mRing_L11 n mt k_11 (i_11 + 1) w0) k_19 i_19 le_19 = (mRing n mt) → lv_has ls 6 [(3, .int (nI i_19)), (2, .int (nI i_11)), (1, .int le_19), (0, .ref qo)] → W p l e (headSpec w_M_hasRing rm_M_hasRing).room s m ([.ref qo] : List Value).toArray below meth c s.heap [] 0 0 (MQ below (QcRead (mRing n mt)) ([.ref qo] : List Value).toArray s 0 0 (fun _ => False)) (F0 m 19 ls []) := by
        intro k_19
        induction k_19 with
        | zero =>
          intro i_19 le_19 ls hik_19 hfin_19 hl
          refine lv_iload_n hx hb d_M_hasRing_19 rfl (lv_at hl 0 rfl) ?_
          refine lv_aload_n hx hb d_M_hasRing_20 rfl (lv_at hl 3 rfl) ?_
          refine va_get (D := (dC, dI)) (ci := 3) (v := .int (nI n)) (C := "ArrowClassesModel") (T := TM) (N := 13) hx hb hT inM hown hK hP 0 rfl rfl 0 (by decide) (hT _ wd_fld_M_41) (fun _ h9 => h9) rfl d_M_hasRing_21 ?_
          refine lv_icmp_ge (tgt := 108) hx hb d_M_hasRing_24 (by decide) (fun _ => ?_) (fun h4 => by rw [nI_leI (by omega) (by omega)] at h4; omega)
          refine lv_iinc (k := 1) (v := nI (i_11 + 1)) hx hb d_M_hasRing_108 hl rfl (vz_inc i_11) (by decide) rfl (fun ls hl => ?_)
          have hl : lv_has ls 6 [(2, .int (nI (i_11 + 1))), (3, .int (nI i_19)), (1, .int le_19), (0, .ref qo)] := hl
          refine lv_goto (tgt := 11) hx hb d_M_hasRing_111 (by decide) ?_
          exact ih_11 (i_11 + 1) le_19 ls (by omega) (by rw [mRing_L19] at hfin_19; exact hfin_19) (lv_sub hl [0, 2, 3] rfl)
        | succ k_19 ih_19 =>
          intro i_19 le_19 ls hik_19 hfin_19 hl
          refine lv_iload_n hx hb d_M_hasRing_19 rfl (lv_at hl 0 rfl) ?_
          refine lv_aload_n hx hb d_M_hasRing_20 rfl (lv_at hl 3 rfl) ?_
          refine va_get (D := (dC, dI)) (ci := 3) (v := .int (nI n)) (C := "ArrowClassesModel") (T := TM) (N := 13) hx hb hT inM hown hK hP 0 rfl rfl 0 (by decide) (hT _ wd_fld_M_41) (fun _ h9 => h9) rfl d_M_hasRing_21 ?_
          refine lv_icmp_ge (tgt := 108) hx hb d_M_hasRing_24 (by decide) (fun h5 => by rw [nI_leI (by omega) (by omega)] at h5; omega) (fun _ => ?_)
          refine lv_iconst (v := 1) hx hb d_M_hasRing_27 (by decide) ?_
          refine lv_istore hx hb d_M_hasRing_28 hl (by decide) rfl (fun ls hl => ?_)
          have hl : lv_has ls 6 [(4, .int 1), (3, .int (nI i_19)), (2, .int (nI i_11)), (1, .int le_19), (0, .ref qo)] := hl
          refine lv_iconst (v := 0) hx hb d_M_hasRing_30 (by decide) ?_
          refine vz_top (y := nI 0) (by decide) ?_
          refine lv_istore hx hb d_M_hasRing_31 hl (by decide) rfl (fun ls hl => ?_)
          have hl : lv_has ls 6 [(5, .int (nI 0)), (4, .int 1), (3, .int (nI i_19)), (2, .int (nI i_11)), (1, .int le_19), (0, .ref qo)] := hl
          have lp_33 : ∀ (k_33 i_33 : Nat) (ba_33 : Int32) (ls : Array Slot), i_33 + k_33 = n → mRing_L33 n mt i_11 le_11 i_19 le_19 (fun w0 => mRing_L19 n mt i_11 le_11 (fun w0 => mRing_L11 n mt k_11 (i_11 + 1) w0) k_19 (i_19 + 1) w0) k_33 i_33 ba_33 = (mRing n mt) → lv_has ls 6 [(5, .int (nI i_33)), (4, .int ba_33), (3, .int (nI i_19)), (2, .int (nI i_11)), (1, .int le_19), (0, .ref qo)] → W p l e (headSpec w_M_hasRing rm_M_hasRing).room s m ([.ref qo] : List Value).toArray below meth c s.heap [] 0 0 (MQ below (QcRead (mRing n mt)) ([.ref qo] : List Value).toArray s 0 0 (fun _ => False)) (F0 m 33 ls []) := by
            intro k_33
            induction k_33 with
            | zero =>
              intro i_33 ba_33 ls hik_33 hfin_33 hl
              refine lv_iload hx hb d_M_hasRing_33 (lv_at hl 0 rfl) ?_
              refine lv_aload_n hx hb d_M_hasRing_35 rfl (lv_at hl 5 rfl) ?_
              refine va_get (D := (dC, dI)) (ci := 3) (v := .int (nI n)) (C := "ArrowClassesModel") (T := TM) (N := 13) hx hb hT inM hown hK hP 0 rfl rfl 0 (by decide) (hT _ wd_fld_M_41) (fun _ h9 => h9) rfl d_M_hasRing_36 ?_
              refine lv_icmp_ge (tgt := 85) hx hb d_M_hasRing_39 (by decide) (fun _ => ?_) (fun h6 => by rw [nI_leI (by omega) (by omega)] at h6; omega)
              refine lv_iload hx hb d_M_hasRing_85 (lv_at hl 1 rfl) ?_
              refine lv_if_eq (tgt := 100) hx hb d_M_hasRing_87 (by decide) (fun h7 => ?_) (fun h7 => ?_)
              ·
                refine lv_iload_n hx hb d_M_hasRing_100 rfl (lv_at hl 4 rfl) ?_
                refine lv_istore_n hx hb d_M_hasRing_101 rfl hl (by decide) rfl (fun ls hl => ?_)
                have hl : lv_has ls 6 [(1, .int le_19), (5, .int (nI i_33)), (4, .int ba_33), (3, .int (nI i_19)), (2, .int (nI i_11)), (0, .ref qo)] := hl
                refine lv_iinc (k := 3) (v := nI (i_19 + 1)) hx hb d_M_hasRing_102 hl rfl (vz_inc i_19) (by decide) rfl (fun ls hl => ?_)
                have hl : lv_has ls 6 [(3, .int (nI (i_19 + 1))), (1, .int le_19), (5, .int (nI i_33)), (4, .int ba_33), (2, .int (nI i_11)), (0, .ref qo)] := hl
                refine lv_goto (tgt := 19) hx hb d_M_hasRing_105 (by decide) ?_
                exact ih_19 (i_19 + 1) le_19 ls (by omega) (by rw [mRing_L33, if_pos h7] at hfin_33; exact hfin_33) (lv_sub hl [0, 4, 1, 5] rfl)
              ·
                refine lv_iload_n hx hb d_M_hasRing_90 rfl (lv_at hl 4 rfl) ?_
                refine lv_iconst (v := 1) hx hb d_M_hasRing_91 (by decide) ?_
                refine lv_iload_n hx hb d_M_hasRing_92 rfl (lv_at hl 2 rfl) ?_
                refine lv_ishl hx hb d_M_hasRing_93 ?_
                refine lv_iconst (v := -1) hx hb d_M_hasRing_94 (by decide) ?_
                refine lv_ixor hx hb d_M_hasRing_95 ?_
                refine lv_iand hx hb d_M_hasRing_96 ?_
                refine lv_goto (tgt := 101) hx hb d_M_hasRing_97 (by decide) ?_
                refine lv_istore_n hx hb d_M_hasRing_101 rfl hl (by decide) rfl (fun ls hl => ?_)
                have hl : lv_has ls 6 [(1, .int (le_19 &&& ((1 <<< ((nI i_19) &&& 31)) ^^^ (-1)))), (5, .int (nI i_33)), (4, .int ba_33), (3, .int (nI i_19)), (2, .int (nI i_11)), (0, .ref qo)] := hl
                refine lv_iinc (k := 3) (v := nI (i_19 + 1)) hx hb d_M_hasRing_102 hl rfl (vz_inc i_19) (by decide) rfl (fun ls hl => ?_)
                have hl : lv_has ls 6 [(3, .int (nI (i_19 + 1))), (1, .int (le_19 &&& ((1 <<< ((nI i_19) &&& 31)) ^^^ (-1)))), (5, .int (nI i_33)), (4, .int ba_33), (2, .int (nI i_11)), (0, .ref qo)] := hl
                refine lv_goto (tgt := 19) hx hb d_M_hasRing_105 (by decide) ?_
                exact ih_19 (i_19 + 1) (le_19 &&& ((1 <<< ((nI i_19) &&& 31)) ^^^ (-1))) ls (by omega) (by rw [mRing_L33, if_neg h7] at hfin_33; exact hfin_33) (lv_sub hl [0, 4, 1, 5] rfl)
            | succ k_33 ih_33 =>
              intro i_33 ba_33 ls hik_33 hfin_33 hl
              refine lv_iload hx hb d_M_hasRing_33 (lv_at hl 0 rfl) ?_
              refine lv_aload_n hx hb d_M_hasRing_35 rfl (lv_at hl 5 rfl) ?_
              refine va_get (D := (dC, dI)) (ci := 3) (v := .int (nI n)) (C := "ArrowClassesModel") (T := TM) (N := 13) hx hb hT inM hown hK hP 0 rfl rfl 0 (by decide) (hT _ wd_fld_M_41) (fun _ h9 => h9) rfl d_M_hasRing_36 ?_
              refine lv_icmp_ge (tgt := 85) hx hb d_M_hasRing_39 (by decide) (fun h8 => by rw [nI_leI (by omega) (by omega)] at h8; omega) (fun _ => ?_)
              refine lv_iload hx hb d_M_hasRing_42 (lv_at hl 1 rfl) ?_
              refine lv_if_eq (tgt := 76) hx hb d_M_hasRing_44 (by decide) (fun h9 => ?_) (fun h9 => ?_)
              ·
                refine lv_iconst (v := 0) hx hb d_M_hasRing_76 (by decide) ?_
                refine lv_istore hx hb d_M_hasRing_77 hl (by decide) rfl (fun ls hl => ?_)
                have hl : lv_has ls 6 [(4, .int 0), (5, .int (nI i_33)), (3, .int (nI i_19)), (2, .int (nI i_11)), (1, .int le_19), (0, .ref qo)] := hl
                refine lv_iinc (k := 1) (v := nI (i_33 + 1)) hx hb d_M_hasRing_79 hl rfl (vz_inc i_33) (by decide) rfl (fun ls hl => ?_)
                have hl : lv_has ls 6 [(5, .int (nI (i_33 + 1))), (4, .int 0), (3, .int (nI i_19)), (2, .int (nI i_11)), (1, .int le_19), (0, .ref qo)] := hl
                refine lv_goto (tgt := 33) hx hb d_M_hasRing_82 (by decide) ?_
                exact ih_33 (i_33 + 1) 0 ls (by omega) (by rw [mRing_L33, if_pos h9] at hfin_33; exact hfin_33) (lv_sub hl [0, 1, 2, 3, 4, 5] rfl)
              ·
                refine lv_aload_n hx hb d_M_hasRing_47 rfl (lv_at hl 5 rfl) ?_
                refine va_get (D := (dC, dI)) (ci := 3) (v := .ref qtr) (C := "ArrowClassesModel") (T := TM) (N := 13) hx hb hT inM hown hK hP 0 rfl rfl 3 (by decide) (hT _ wd_fld_M_16) (fun _ h9 => h9) rfl d_M_hasRing_48 ?_
                refine lv_bipush (v := 6) hx hb d_M_hasRing_51 (by decide) ?_
                refine lv_iload hx hb d_M_hasRing_53 (lv_at hl 0 rfl) ?_
                refine lv_imul hx hb d_M_hasRing_55 ?_
                refine lv_iload_n hx hb d_M_hasRing_56 rfl (lv_at hl 2 rfl) ?_
                refine lv_iadd hx hb d_M_hasRing_57 ?_
                refine va_zald (D := (dC, dI)) hx hb hK hP 3 1 rfl rfl (vz_ix hn (vp_in_nI (by omega) (by omega)) (vp_in_nI (by omega) (by omega))) d_M_hasRing_58 ?_
                refine lv_if_eq (tgt := 72) hx hb d_M_hasRing_59 (by decide) (fun h10 => ?_) (fun h10 => ?_)
                ·
                  refine lv_iconst (v := 1) hx hb d_M_hasRing_72 (by decide) ?_
                  refine lv_goto (tgt := 77) hx hb d_M_hasRing_73 (by decide) ?_
                  refine lv_istore hx hb d_M_hasRing_77 hl (by decide) rfl (fun ls hl => ?_)
                  have hl : lv_has ls 6 [(4, .int 1), (5, .int (nI i_33)), (3, .int (nI i_19)), (2, .int (nI i_11)), (1, .int le_19), (0, .ref qo)] := hl
                  refine lv_iinc (k := 1) (v := nI (i_33 + 1)) hx hb d_M_hasRing_79 hl rfl (vz_inc i_33) (by decide) rfl (fun ls hl => ?_)
                  have hl : lv_has ls 6 [(5, .int (nI (i_33 + 1))), (4, .int 1), (3, .int (nI i_19)), (2, .int (nI i_11)), (1, .int le_19), (0, .ref qo)] := hl
                  refine lv_goto (tgt := 33) hx hb d_M_hasRing_82 (by decide) ?_
                  exact ih_33 (i_33 + 1) 1 ls (by omega) (by rw [mRing_L33, if_neg h9, if_pos h10] at hfin_33; exact hfin_33) (lv_sub hl [0, 1, 2, 3, 4, 5] rfl)
                ·
                  refine lv_iload_n hx hb d_M_hasRing_62 rfl (lv_at hl 4 rfl) ?_
                  refine lv_iload hx hb d_M_hasRing_63 (lv_at hl 0 rfl) ?_
                  refine lv_ishr hx hb d_M_hasRing_65 ?_
                  refine lv_iconst (v := 1) hx hb d_M_hasRing_66 (by decide) ?_
                  refine lv_iand hx hb d_M_hasRing_67 ?_
                  refine lv_iconst (v := 1) hx hb d_M_hasRing_68 (by decide) ?_
                  refine lv_icmp_eq (tgt := 76) hx hb d_M_hasRing_69 (by decide) (fun h11 => ?_) (fun h11 => ?_)
                  ·
                    refine lv_iconst (v := 0) hx hb d_M_hasRing_76 (by decide) ?_
                    refine lv_istore hx hb d_M_hasRing_77 hl (by decide) rfl (fun ls hl => ?_)
                    have hl : lv_has ls 6 [(4, .int 0), (5, .int (nI i_33)), (3, .int (nI i_19)), (2, .int (nI i_11)), (1, .int le_19), (0, .ref qo)] := hl
                    refine lv_iinc (k := 1) (v := nI (i_33 + 1)) hx hb d_M_hasRing_79 hl rfl (vz_inc i_33) (by decide) rfl (fun ls hl => ?_)
                    have hl : lv_has ls 6 [(5, .int (nI (i_33 + 1))), (4, .int 0), (3, .int (nI i_19)), (2, .int (nI i_11)), (1, .int le_19), (0, .ref qo)] := hl
                    refine lv_goto (tgt := 33) hx hb d_M_hasRing_82 (by decide) ?_
                    exact ih_33 (i_33 + 1) 0 ls (by omega) (by rw [mRing_L33, if_neg h9, if_neg h10, if_pos h11] at hfin_33; exact hfin_33) (lv_sub hl [0, 1, 2, 3, 4, 5] rfl)
                  ·
                    refine lv_iconst (v := 1) hx hb d_M_hasRing_72 (by decide) ?_
                    refine lv_goto (tgt := 77) hx hb d_M_hasRing_73 (by decide) ?_
                    refine lv_istore hx hb d_M_hasRing_77 hl (by decide) rfl (fun ls hl => ?_)
                    have hl : lv_has ls 6 [(4, .int 1), (5, .int (nI i_33)), (3, .int (nI i_19)), (2, .int (nI i_11)), (1, .int le_19), (0, .ref qo)] := hl
                    refine lv_iinc (k := 1) (v := nI (i_33 + 1)) hx hb d_M_hasRing_79 hl rfl (vz_inc i_33) (by decide) rfl (fun ls hl => ?_)
                    have hl : lv_has ls 6 [(5, .int (nI (i_33 + 1))), (4, .int 1), (3, .int (nI i_19)), (2, .int (nI i_11)), (1, .int le_19), (0, .ref qo)] := hl
                    refine lv_goto (tgt := 33) hx hb d_M_hasRing_82 (by decide) ?_
                    exact ih_33 (i_33 + 1) 1 ls (by omega) (by rw [mRing_L33, if_neg h9, if_neg h10, if_neg h11] at hfin_33; exact hfin_33) (lv_sub hl [0, 1, 2, 3, 4, 5] rfl)
          exact lp_33 n 0 1 _ (by omega) (by rw [mRing_L19] at hfin_19; exact hfin_19) (lv_sub hl [0, 1, 2, 3, 4, 5] rfl)
      exact lp_19 n 0 le_11 _ (by omega) (by rw [mRing_L11] at hfin_11; exact hfin_11) (lv_sub hl [0, 1, 2, 3] rfl)
  exact lp_11 6 0 ((1 <<< ((nI n) &&& 31)) - 1) _ (by omega) (by rw [mRing]) (lv_sub hl [0, 1, 2] rfl)
set_option maxRecDepth 100000 in
set_option maxHeartbeats 4000000 in
theorem c_M_isMember (l : Launch) (dC : Nat → ClassId) (dI : Nat → Nat → Nat) (cI cZ : ClassId) (qo qha qkn qtr qhv qbe qlo qhi qpa qne qre : Nat) (mv : Nat → Int32) (mb : Nat → Int32) (ml : Nat → Int32) (mg : Nat → Int32) (mp : Nat → Int32) (mx : Nat → Int32) (mr : Nat → Int32) (mc : Int32) (Q : Nat) (n : Nat) (mh : Nat → Int32) (mk : Nat → Int32) (mt : Nat → Int32) (hn : n ≤ 6) : Met l y_M_isMember w_M_isMember rm_M_isMember (va_Pc [.ref qo] (vz_B (dC, dI) vwCl [(qo, .inr (3, [.int (nI n), .ref qha, .ref qkn, .ref qtr, .int mc, .ref qhv, .ref qbe, .int (nI Q), .ref qlo, .ref qhi, .ref qpa, .ref qne, .ref qre])), (qha, .inl (cZ, 36, .inl mh)), (qkn, .inl (cZ, 36, .inl mk)), (qtr, .inl (cZ, 36, .inl mt)), (qhv, .inl (cI, 36, .inl mv)), (qbe, .inl (cZ, 36, .inl mb)), (qlo, .inl (cI, 9, .inl ml)), (qhi, .inl (cI, 9, .inl mg)), (qpa, .inl (cI, 6, .inl mp)), (qne, .inl (cI, 6, .inl mx)), (qre, .inl (cI, 6, .inl mr))] [(cI, .int), (cZ, .boolean)])) (QcRead (mMember n mh mk mt)) 0 0 (fun _ => False) := by
  refine Met.ofW (cc := b_M_isMember) (maxL := 4) (ret := (some .boolean)) (by decide) rfl ?_
  intro p e s m args below meth c s₁ B hml hv
  obtain ⟨rfl, hP, hK, hN⟩ := hv
  have hx := B.exec
  have hb := B.bytes
  have hr := B.returns
  have hts := atoms_spec (ws := w_M_isMember) B.pre
  have hT : ∀ w ∈ vzB, w.before ([.ref qo] : List Value).toArray s = true := fun w h => hts w (List.mem_cons_of_mem _ h)
  have hown : s.vm.findClass "ArrowClassesModel" = some m.cls := findClass_of_methodNamed B.named
  have hlocks := B.notSynchronized
  have hl := lv_entry ([.ref qo]) (n := 4) (Nat.le_of_ble_eq_true rfl)
  rw [lg_entry_eq]
  generalize (lg_sl ([.ref qo]) ++ List.replicate (4 - (lg_sl ([.ref qo])).length) Slot.unset).toArray = ls at hl ⊢
  have hl : lv_has ls 4 [(0, .ref qo)] := hl
  refine lv_iconst (v := 0) hx hb d_M_isMember_0 (by decide) ?_
  refine vz_top (y := nI 0) (by decide) ?_
  refine lv_istore_n hx hb d_M_isMember_1 rfl hl (by decide) rfl (fun ls hl => ?_)
  have hl : lv_has ls 4 [(1, .int (nI 0)), (0, .ref qo)] := hl
  have lp_2 : ∀ (k_2 i_2 : Nat) (ls : Array Slot), i_2 + k_2 = 36 → mMember_L2 n mh mk mt k_2 i_2 = (mMember n mh mk mt) → lv_has ls 4 [(1, .int (nI i_2)), (0, .ref qo)] → W p l e (headSpec w_M_isMember rm_M_isMember).room s m ([.ref qo] : List Value).toArray below meth c s.heap [] 0 0 (MQ below (QcRead (mMember n mh mk mt)) ([.ref qo] : List Value).toArray s 0 0 (fun _ => False)) (F0 m 2 ls []) := by
    intro k_2
    induction k_2 with
    | zero =>
      intro i_2 ls hik_2 hfin_2 hl
      refine lv_iload_n hx hb d_M_isMember_2 rfl (lv_at hl 0 rfl) ?_
      refine lv_bipush (v := 36) hx hb d_M_isMember_3 (by decide) ?_
      refine vz_top (y := nI 36) (by decide) ?_
      refine lv_icmp_ge (tgt := 34) hx hb d_M_isMember_5 (by decide) (fun _ => ?_) (fun h1 => by rw [nI_leI (by omega) (by omega)] at h1; omega)
      refine lv_iconst (v := 0) hx hb d_M_isMember_34 (by decide) ?_
      refine vz_top (y := nI 0) (by decide) ?_
      refine lv_istore_n hx hb d_M_isMember_35 rfl hl (by decide) rfl (fun ls hl => ?_)
      have hl : lv_has ls 4 [(1, .int (nI 0)), (0, .ref qo)] := hl
      have lp_36 : ∀ (k_36 i_36 : Nat) (ls : Array Slot), i_36 + k_36 = n → mMember_L36 n mh mk mt i_2 k_36 i_36 = (mMember n mh mk mt) → lv_has ls 4 [(1, .int (nI i_36)), (0, .ref qo)] → W p l e (headSpec w_M_isMember rm_M_isMember).room s m ([.ref qo] : List Value).toArray below meth c s.heap [] 0 0 (MQ below (QcRead (mMember n mh mk mt)) ([.ref qo] : List Value).toArray s 0 0 (fun _ => False)) (F0 m 36 ls []) := by
        intro k_36
        induction k_36 with
        | zero =>
          intro i_36 ls hik_36 hfin_36 hl
          refine lv_iload_n hx hb d_M_isMember_36 rfl (lv_at hl 0 rfl) ?_
          refine lv_aload_n hx hb d_M_isMember_37 rfl (lv_at hl 1 rfl) ?_
          refine va_get (D := (dC, dI)) (ci := 3) (v := .int (nI n)) (C := "ArrowClassesModel") (T := TM) (N := 13) hx hb hT inM hown hK hP 0 rfl rfl 0 (by decide) (hT _ wd_fld_M_41) (fun _ h9 => h9) rfl d_M_isMember_38 ?_
          refine lv_icmp_ge (tgt := 109) hx hb d_M_isMember_41 (by decide) (fun _ => ?_) (fun h2 => by rw [nI_leI (by omega) (by omega)] at h2; omega)
          refine lv_aload_n hx hb d_M_isMember_109 rfl (lv_at hl 1 rfl) ?_
          refine vz_ro (va_runV (As := []) (rest := []) ⟨hx, hb, hml, hown, hT⟩ (c_M_hasRing l dC dI cI cZ qo qha qkn qtr qhv qbe qlo qhi qpa qne qre mh mk mv mb ml mg mp mx mr mc Q n mt (by omega)) (vz_cwV (n := 0) hT wd_link_M_96 wd_inst_M_hasRing wd_sel_M_hasRing wd_ini_M wd_code_M_hasRing (by decide +kernel) ⟨Nat.le_of_ble_eq_true rfl, Nat.le_of_ble_eq_true rfl⟩) (vz_pv (q0 := 0) (ci := 3) (q := ("ArrowClassesModel", TM, 13)) hN hK hP [0, 1, 2, 3, 4, 5, 6, 7, 8, 9, 10] rfl rfl rfl) rfl rfl hl.1 rfl (lv_room (Nat.le_of_ble_eq_true rfl)) d_M_isMember_110 ⟨Nat.zero_le _, Nat.zero_le _⟩) ?_
          refine lv_if_ne (tgt := 120) hx hb d_M_isMember_113 (by decide) (fun h3 => ?_) (fun h3 => ?_)
          ·
            refine lv_iconst (v := 0) hx hb d_M_isMember_120 (by decide) ?_
            exact W.zret hx hb hr (by decide) (fun t ht hW => ⟨by rw [show (mMember n mh mk mt) = (0 : Int32) from (hfin_36.symm.trans (by rw [mMember_L36, if_neg h3]))], ht⟩) (fun q h => absurd h List.not_mem_nil) d_M_isMember_121
          ·
            refine lv_iconst (v := 1) hx hb d_M_isMember_116 (by decide) ?_
            refine lv_goto (tgt := 121) hx hb d_M_isMember_117 (by decide) ?_
            exact W.zret hx hb hr (by decide) (fun t ht hW => ⟨by rw [show (mMember n mh mk mt) = (1 : Int32) from (hfin_36.symm.trans (by rw [mMember_L36, if_pos h3]))], ht⟩) (fun q h => absurd h List.not_mem_nil) d_M_isMember_121
        | succ k_36 ih_36 =>
          intro i_36 ls hik_36 hfin_36 hl
          refine lv_iload_n hx hb d_M_isMember_36 rfl (lv_at hl 0 rfl) ?_
          refine lv_aload_n hx hb d_M_isMember_37 rfl (lv_at hl 1 rfl) ?_
          refine va_get (D := (dC, dI)) (ci := 3) (v := .int (nI n)) (C := "ArrowClassesModel") (T := TM) (N := 13) hx hb hT inM hown hK hP 0 rfl rfl 0 (by decide) (hT _ wd_fld_M_41) (fun _ h9 => h9) rfl d_M_isMember_38 ?_
          refine lv_icmp_ge (tgt := 109) hx hb d_M_isMember_41 (by decide) (fun h4 => by rw [nI_leI (by omega) (by omega)] at h4; omega) (fun _ => ?_)
          refine lv_iconst (v := 0) hx hb d_M_isMember_44 (by decide) ?_
          refine vz_top (y := nI 0) (by decide) ?_
          refine lv_istore_n hx hb d_M_isMember_45 rfl hl (by decide) rfl (fun ls hl => ?_)
          have hl : lv_has ls 4 [(2, .int (nI 0)), (1, .int (nI i_36)), (0, .ref qo)] := hl
          have lp_46 : ∀ (k_46 i_46 : Nat) (ls : Array Slot), i_46 + k_46 = n → mMember_L46 n mh mk mt i_2 i_36 (fun (_ : Unit) => mMember_L36 n mh mk mt i_2 k_36 (i_36 + 1)) k_46 i_46 = (mMember n mh mk mt) → lv_has ls 4 [(2, .int (nI i_46)), (1, .int (nI i_36)), (0, .ref qo)] → W p l e (headSpec w_M_isMember rm_M_isMember).room s m ([.ref qo] : List Value).toArray below meth c s.heap [] 0 0 (MQ below (QcRead (mMember n mh mk mt)) ([.ref qo] : List Value).toArray s 0 0 (fun _ => False)) (F0 m 46 ls []) := by
            intro k_46
            induction k_46 with
            | zero =>
              intro i_46 ls hik_46 hfin_46 hl
              refine lv_iload_n hx hb d_M_isMember_46 rfl (lv_at hl 0 rfl) ?_
              refine lv_aload_n hx hb d_M_isMember_47 rfl (lv_at hl 2 rfl) ?_
              refine va_get (D := (dC, dI)) (ci := 3) (v := .int (nI n)) (C := "ArrowClassesModel") (T := TM) (N := 13) hx hb hT inM hown hK hP 0 rfl rfl 0 (by decide) (hT _ wd_fld_M_41) (fun _ h9 => h9) rfl d_M_isMember_48 ?_
              refine lv_icmp_ge (tgt := 103) hx hb d_M_isMember_51 (by decide) (fun _ => ?_) (fun h5 => by rw [nI_leI (by omega) (by omega)] at h5; omega)
              refine lv_iinc (k := 1) (v := nI (i_36 + 1)) hx hb d_M_isMember_103 hl rfl (vz_inc i_36) (by decide) rfl (fun ls hl => ?_)
              have hl : lv_has ls 4 [(1, .int (nI (i_36 + 1))), (2, .int (nI i_46)), (0, .ref qo)] := hl
              refine lv_goto (tgt := 36) hx hb d_M_isMember_106 (by decide) ?_
              exact ih_36 (i_36 + 1) ls (by omega) (by rw [mMember_L46] at hfin_46; exact hfin_46) (lv_sub hl [0, 2] rfl)
            | succ k_46 ih_46 =>
              intro i_46 ls hik_46 hfin_46 hl
              refine lv_iload_n hx hb d_M_isMember_46 rfl (lv_at hl 0 rfl) ?_
              refine lv_aload_n hx hb d_M_isMember_47 rfl (lv_at hl 2 rfl) ?_
              refine va_get (D := (dC, dI)) (ci := 3) (v := .int (nI n)) (C := "ArrowClassesModel") (T := TM) (N := 13) hx hb hT inM hown hK hP 0 rfl rfl 0 (by decide) (hT _ wd_fld_M_41) (fun _ h9 => h9) rfl d_M_isMember_48 ?_
              refine lv_icmp_ge (tgt := 103) hx hb d_M_isMember_51 (by decide) (fun h6 => by rw [nI_leI (by omega) (by omega)] at h6; omega) (fun _ => ?_)
              refine lv_iload_n hx hb d_M_isMember_54 rfl (lv_at hl 0 rfl) ?_
              refine lv_iconst (v := 1) hx hb d_M_isMember_55 (by decide) ?_
              refine lv_iadd hx hb d_M_isMember_56 ?_
              refine vz_top (y := nI (i_46 + 1)) (nI_1 i_46) ?_
              refine lv_istore_n hx hb d_M_isMember_57 rfl hl (by decide) rfl (fun ls hl => ?_)
              have hl : lv_has ls 4 [(3, .int (nI (i_46 + 1))), (2, .int (nI i_46)), (1, .int (nI i_36)), (0, .ref qo)] := hl
              have lp_58 : ∀ (k_58 i_58 : Nat) (ls : Array Slot), i_58 + k_58 = n → mMember_L58 n mh mk mt i_2 i_36 i_46 (fun (_ : Unit) => mMember_L46 n mh mk mt i_2 i_36 (fun (_ : Unit) => mMember_L36 n mh mk mt i_2 k_36 (i_36 + 1)) k_46 (i_46 + 1)) k_58 i_58 = (mMember n mh mk mt) → lv_has ls 4 [(3, .int (nI i_58)), (2, .int (nI i_46)), (1, .int (nI i_36)), (0, .ref qo)] → W p l e (headSpec w_M_isMember rm_M_isMember).room s m ([.ref qo] : List Value).toArray below meth c s.heap [] 0 0 (MQ below (QcRead (mMember n mh mk mt)) ([.ref qo] : List Value).toArray s 0 0 (fun _ => False)) (F0 m 58 ls []) := by
                intro k_58
                induction k_58 with
                | zero =>
                  intro i_58 ls hik_58 hfin_58 hl
                  refine lv_iload_n hx hb d_M_isMember_58 rfl (lv_at hl 0 rfl) ?_
                  refine lv_aload_n hx hb d_M_isMember_59 rfl (lv_at hl 3 rfl) ?_
                  refine va_get (D := (dC, dI)) (ci := 3) (v := .int (nI n)) (C := "ArrowClassesModel") (T := TM) (N := 13) hx hb hT inM hown hK hP 0 rfl rfl 0 (by decide) (hT _ wd_fld_M_41) (fun _ h9 => h9) rfl d_M_isMember_60 ?_
                  refine lv_icmp_ge (tgt := 97) hx hb d_M_isMember_63 (by decide) (fun _ => ?_) (fun h7 => by rw [nI_leI (by omega) (by omega)] at h7; omega)
                  refine lv_iinc (k := 1) (v := nI (i_46 + 1)) hx hb d_M_isMember_97 hl rfl (vz_inc i_46) (by decide) rfl (fun ls hl => ?_)
                  have hl : lv_has ls 4 [(2, .int (nI (i_46 + 1))), (3, .int (nI i_58)), (1, .int (nI i_36)), (0, .ref qo)] := hl
                  refine lv_goto (tgt := 46) hx hb d_M_isMember_100 (by decide) ?_
                  exact ih_46 (i_46 + 1) ls (by omega) (by rw [mMember_L58] at hfin_58; exact hfin_58) (lv_sub hl [0, 2, 3] rfl)
                | succ k_58 ih_58 =>
                  intro i_58 ls hik_58 hfin_58 hl
                  refine lv_iload_n hx hb d_M_isMember_58 rfl (lv_at hl 0 rfl) ?_
                  refine lv_aload_n hx hb d_M_isMember_59 rfl (lv_at hl 3 rfl) ?_
                  refine va_get (D := (dC, dI)) (ci := 3) (v := .int (nI n)) (C := "ArrowClassesModel") (T := TM) (N := 13) hx hb hT inM hown hK hP 0 rfl rfl 0 (by decide) (hT _ wd_fld_M_41) (fun _ h9 => h9) rfl d_M_isMember_60 ?_
                  refine lv_icmp_ge (tgt := 97) hx hb d_M_isMember_63 (by decide) (fun h8 => by rw [nI_leI (by omega) (by omega)] at h8; omega) (fun _ => ?_)
                  refine lv_aload_n hx hb d_M_isMember_66 rfl (lv_at hl 3 rfl) ?_
                  refine va_get (D := (dC, dI)) (ci := 3) (v := .ref qha) (C := "ArrowClassesModel") (T := TM) (N := 13) hx hb hT inM hown hK hP 0 rfl rfl 1 (by decide) (hT _ wd_fld_M_7) (fun _ h9 => h9) rfl d_M_isMember_67 ?_
                  refine lv_iload_n hx hb d_M_isMember_70 rfl (lv_at hl 1 rfl) ?_
                  refine lv_iload_n hx hb d_M_isMember_71 rfl (lv_at hl 2 rfl) ?_
                  refine lv_iload_n hx hb d_M_isMember_72 rfl (lv_at hl 0 rfl) ?_
                  refine vz_ro (va_runS (As := [.ref qha, .int (nI i_46), .int (nI i_36), .int (nI i_58)]) (rest := []) ⟨hx, hb, hml, hown, hT⟩ (c_M_collides l dC dI cI cZ qha n mh (nI i_46) (nI i_36) (nI i_58) (by omega) (vp_in_nI (by omega) (by omega)) (vp_in_nI (by omega) (by omega)) (vp_in_nI (by omega) (by omega))) (vz_cwS (n := 4) hT wd_link_M_70 wd_stat_M_collides wd_ini_M wd_code_M_collides (by decide +kernel) ⟨Nat.le_of_ble_eq_true rfl, Nat.le_of_ble_eq_true rfl⟩) (vz_ps hN hK hP [1] rfl) rfl rfl hl.1 rfl (lv_room (Nat.le_of_ble_eq_true rfl)) d_M_isMember_73 ⟨Nat.zero_le _, Nat.zero_le _⟩) ?_
                  refine lv_aload_n hx hb d_M_isMember_76 rfl (lv_at hl 3 rfl) ?_
                  refine va_get (D := (dC, dI)) (ci := 3) (v := .ref qtr) (C := "ArrowClassesModel") (T := TM) (N := 13) hx hb hT inM hown hK hP 0 rfl rfl 3 (by decide) (hT _ wd_fld_M_16) (fun _ h9 => h9) rfl d_M_isMember_77 ?_
                  refine lv_iload_n hx hb d_M_isMember_80 rfl (lv_at hl 1 rfl) ?_
                  refine lv_iload_n hx hb d_M_isMember_81 rfl (lv_at hl 2 rfl) ?_
                  refine lv_iload_n hx hb d_M_isMember_82 rfl (lv_at hl 0 rfl) ?_
                  refine vz_ro (va_runS (As := [.ref qtr, .int (nI i_46), .int (nI i_36), .int (nI i_58)]) (rest := [.int (mColl1 mh (nI i_46) (nI i_36) (nI i_58))]) ⟨hx, hb, hml, hown, hT⟩ (c_M_collides l dC dI cI cZ qtr n mt (nI i_46) (nI i_36) (nI i_58) (by omega) (vp_in_nI (by omega) (by omega)) (vp_in_nI (by omega) (by omega)) (vp_in_nI (by omega) (by omega))) (vz_cwS (n := 4) hT wd_link_M_70 wd_stat_M_collides wd_ini_M wd_code_M_collides (by decide +kernel) ⟨Nat.le_of_ble_eq_true rfl, Nat.le_of_ble_eq_true rfl⟩) (vz_ps hN hK hP [3] rfl) rfl rfl hl.1 rfl (lv_room (Nat.le_of_ble_eq_true rfl)) d_M_isMember_83 ⟨Nat.zero_le _, Nat.zero_le _⟩) ?_
                  refine lv_icmp_eq (tgt := 91) hx hb d_M_isMember_86 (by decide) (fun h9 => ?_) (fun h9 => ?_)
                  ·
                    refine lv_iinc (k := 0) (v := nI (i_58 + 1)) hx hb d_M_isMember_91 hl rfl (vz_inc i_58) (by decide) rfl (fun ls hl => ?_)
                    have hl : lv_has ls 4 [(3, .int (nI (i_58 + 1))), (2, .int (nI i_46)), (1, .int (nI i_36)), (0, .ref qo)] := hl
                    refine lv_goto (tgt := 58) hx hb d_M_isMember_94 (by decide) ?_
                    exact ih_58 (i_58 + 1) ls (by omega) (by rw [mMember_L58, if_pos h9] at hfin_58; exact hfin_58) (lv_sub hl [0, 1, 2, 3] rfl)
                  ·
                    refine lv_iconst (v := 0) hx hb d_M_isMember_89 (by decide) ?_
                    exact W.zret hx hb hr (by decide) (fun t ht hW => ⟨by rw [show (mMember n mh mk mt) = (0 : Int32) from (hfin_58.symm.trans (by rw [mMember_L58, if_neg h9]))], ht⟩) (fun q h => absurd h List.not_mem_nil) d_M_isMember_90
              exact lp_58 (n - (i_46 + 1)) (i_46 + 1) _ (by omega) (by rw [mMember_L46] at hfin_46; exact hfin_46) (lv_sub hl [0, 1, 2, 3] rfl)
          exact lp_46 n 0 _ (by omega) (by rw [mMember_L36] at hfin_36; exact hfin_36) (lv_sub hl [0, 1, 2] rfl)
      exact lp_36 n 0 _ (by omega) (by rw [mMember_L2] at hfin_2; exact hfin_2) (lv_sub hl [0, 1] rfl)
    | succ k_2 ih_2 =>
      intro i_2 ls hik_2 hfin_2 hl
      refine lv_iload_n hx hb d_M_isMember_2 rfl (lv_at hl 0 rfl) ?_
      refine lv_bipush (v := 36) hx hb d_M_isMember_3 (by decide) ?_
      refine vz_top (y := nI 36) (by decide) ?_
      refine lv_icmp_ge (tgt := 34) hx hb d_M_isMember_5 (by decide) (fun h10 => by rw [nI_leI (by omega) (by omega)] at h10; omega) (fun _ => ?_)
      refine lv_aload_n hx hb d_M_isMember_8 rfl (lv_at hl 1 rfl) ?_
      refine va_get (D := (dC, dI)) (ci := 3) (v := .ref qkn) (C := "ArrowClassesModel") (T := TM) (N := 13) hx hb hT inM hown hK hP 0 rfl rfl 2 (by decide) (hT _ wd_fld_M_13) (fun _ h9 => h9) rfl d_M_isMember_9 ?_
      refine lv_iload_n hx hb d_M_isMember_12 rfl (lv_at hl 0 rfl) ?_
      refine va_zald (D := (dC, dI)) hx hb hK hP 2 1 rfl rfl (vp_in_nI (by omega) (by omega)) d_M_isMember_13 ?_
      refine lv_if_eq (tgt := 28) hx hb d_M_isMember_14 (by decide) (fun h11 => ?_) (fun h11 => ?_)
      ·
        refine lv_iinc (k := 0) (v := nI (i_2 + 1)) hx hb d_M_isMember_28 hl rfl (vz_inc i_2) (by decide) rfl (fun ls hl => ?_)
        have hl : lv_has ls 4 [(1, .int (nI (i_2 + 1))), (0, .ref qo)] := hl
        refine lv_goto (tgt := 2) hx hb d_M_isMember_31 (by decide) ?_
        exact ih_2 (i_2 + 1) ls (by omega) (by rw [mMember_L2, if_pos h11] at hfin_2; exact hfin_2) (lv_sub hl [0, 1] rfl)
      ·
        refine lv_aload_n hx hb d_M_isMember_17 rfl (lv_at hl 1 rfl) ?_
        refine va_get (D := (dC, dI)) (ci := 3) (v := .ref qtr) (C := "ArrowClassesModel") (T := TM) (N := 13) hx hb hT inM hown hK hP 0 rfl rfl 3 (by decide) (hT _ wd_fld_M_16) (fun _ h9 => h9) rfl d_M_isMember_18 ?_
        refine lv_iload_n hx hb d_M_isMember_21 rfl (lv_at hl 0 rfl) ?_
        refine va_zald (D := (dC, dI)) hx hb hK hP 3 1 rfl rfl (vp_in_nI (by omega) (by omega)) d_M_isMember_22 ?_
        refine lv_if_ne (tgt := 28) hx hb d_M_isMember_23 (by decide) (fun h12 => ?_) (fun h12 => ?_)
        ·
          refine lv_iinc (k := 0) (v := nI (i_2 + 1)) hx hb d_M_isMember_28 hl rfl (vz_inc i_2) (by decide) rfl (fun ls hl => ?_)
          have hl : lv_has ls 4 [(1, .int (nI (i_2 + 1))), (0, .ref qo)] := hl
          refine lv_goto (tgt := 2) hx hb d_M_isMember_31 (by decide) ?_
          exact ih_2 (i_2 + 1) ls (by omega) (by rw [mMember_L2, if_neg h11, if_neg h12] at hfin_2; exact hfin_2) (lv_sub hl [0, 1] rfl)
        ·
          refine lv_iconst (v := 0) hx hb d_M_isMember_26 (by decide) ?_
          exact W.zret hx hb hr (by decide) (fun t ht hW => ⟨by rw [show (mMember n mh mk mt) = (0 : Int32) from (hfin_2.symm.trans (by rw [mMember_L2, if_neg h11, if_pos h12]))], ht⟩) (fun q h => absurd h List.not_mem_nil) d_M_isMember_27
  exact lp_2 36 0 _ (by omega) (by rw [mMember]) (lv_sub hl [0, 1] rfl)
set_option maxRecDepth 100000 in
set_option maxHeartbeats 4000000 in
theorem c_M_goThrough (l : Launch) (dC : Nat → ClassId) (dI : Nat → Nat → Nat) (cI cZ : ClassId) (qo qha qkn qtr qhv qbe qlo qhi qpa qne qre : Nat) (mp : Nat → Int32) (mx : Nat → Int32) (mr : Nat → Int32) (n : Nat) (mh : Nat → Int32) (mk : Nat → Int32) (mt : Nat → Int32) (mv : Nat → Int32) (mb : Nat → Int32) (ml : Nat → Int32) (mg : Nat → Int32) (mc : Int32) (Q : Nat) (hn : n ≤ 6) (hJ : jcO mh n n 0 ≤ 9) (sz : Nat) : Met l y_M_goThrough w_M_goThrough rm_M_goThrough (va_Pc [.ref qo] (vz_Bw (dC, dI) vwCl [(qo, .inr (3, [.int (nI n), .ref qha, .ref qkn, .ref qtr, .int mc, .ref qhv, .ref qbe, .int (nI Q), .ref qlo, .ref qhi, .ref qpa, .ref qne, .ref qre])), (qha, .inl (cZ, 36, .inl mh)), (qkn, .inl (cZ, 36, .inl mk)), (qtr, .inl (cZ, 36, .inl mt)), (qhv, .inl (cI, 36, .inl mv)), (qbe, .inl (cZ, 36, .inl mb)), (qlo, .inl (cI, 9, .inl ml)), (qhi, .inl (cI, 9, .inl mg)), (qpa, .inl (cI, 6, .inl mp)), (qne, .inl (cI, 6, .inl mx)), (qre, .inl (cI, 6, .inl mr))] [(cI, .int), (cZ, .boolean)] sz)) (va_Qv (fun _ : Unit => True) (fun (_ : Unit) t => va_P (dC, dI) vwCl [(qo, .inr (3, [.int (nI n), .ref qha, .ref qkn, .ref qtr, .int ((mGo n mh mk mt mv mb ml mg mc Q).2.2.2.1), .ref qhv, .ref qbe, .int (nI ((mGo n mh mk mt mv mb ml mg mc Q).1)), .ref qlo, .ref qhi, .ref qpa, .ref qne, .ref qre])), (qha, .inl (cZ, 36, .inl mh)), (qkn, .inl (cZ, 36, .inl mk)), (qtr, .inl (cZ, 36, .inl ((mGo n mh mk mt mv mb ml mg mc Q).2.2.2.2.2.1))), (qhv, .inl (cI, 36, .inl ((mGo n mh mk mt mv mb ml mg mc Q).2.2.2.2.1))), (qbe, .inl (cZ, 36, .inl ((mGo n mh mk mt mv mb ml mg mc Q).2.2.2.2.2.2))), (qlo, .inl (cI, 9, .inl ((mGo n mh mk mt mv mb ml mg mc Q).2.1))), (qhi, .inl (cI, 9, .inl ((mGo n mh mk mt mv mb ml mg mc Q).2.2.1))), (qpa, .inl (cI, 6, .inl mp)), (qne, .inl (cI, 6, .inl mx)), (qre, .inl (cI, 6, .inl mr))] t.heap ∧ va_K (dC, dI) vwCl [(cI, .int), (cZ, .boolean)] t ∧ va_D (va_A [(qo, .inr (3, [.int (nI n), .ref qha, .ref qkn, .ref qtr, .int mc, .ref qhv, .ref qbe, .int (nI Q), .ref qlo, .ref qhi, .ref qpa, .ref qne, .ref qre])), (qha, .inl (cZ, 36, .inl mh)), (qkn, .inl (cZ, 36, .inl mk)), (qtr, .inl (cZ, 36, .inl mt)), (qhv, .inl (cI, 36, .inl mv)), (qbe, .inl (cZ, 36, .inl mb)), (qlo, .inl (cI, 9, .inl ml)), (qhi, .inl (cI, 9, .inl mg)), (qpa, .inl (cI, 6, .inl mp)), (qne, .inl (cI, 6, .inl mx)), (qre, .inl (cI, 6, .inl mr))] sz) [(qo, .inr (3, [.int (nI n), .ref qha, .ref qkn, .ref qtr, .int ((mGo n mh mk mt mv mb ml mg mc Q).2.2.2.1), .ref qhv, .ref qbe, .int (nI ((mGo n mh mk mt mv mb ml mg mc Q).1)), .ref qlo, .ref qhi, .ref qpa, .ref qne, .ref qre])), (qha, .inl (cZ, 36, .inl mh)), (qkn, .inl (cZ, 36, .inl mk)), (qtr, .inl (cZ, 36, .inl ((mGo n mh mk mt mv mb ml mg mc Q).2.2.2.2.2.1))), (qhv, .inl (cI, 36, .inl ((mGo n mh mk mt mv mb ml mg mc Q).2.2.2.2.1))), (qbe, .inl (cZ, 36, .inl ((mGo n mh mk mt mv mb ml mg mc Q).2.2.2.2.2.2))), (qlo, .inl (cI, 9, .inl ((mGo n mh mk mt mv mb ml mg mc Q).2.1))), (qhi, .inl (cI, 9, .inl ((mGo n mh mk mt mv mb ml mg mc Q).2.2.1))), (qpa, .inl (cI, 6, .inl mp)), (qne, .inl (cI, 6, .inl mx)), (qre, .inl (cI, 6, .inl mr))]) (va_A [(qo, .inr (3, [.int (nI n), .ref qha, .ref qkn, .ref qtr, .int mc, .ref qhv, .ref qbe, .int (nI Q), .ref qlo, .ref qhi, .ref qpa, .ref qne, .ref qre])), (qha, .inl (cZ, 36, .inl mh)), (qkn, .inl (cZ, 36, .inl mk)), (qtr, .inl (cZ, 36, .inl mt)), (qhv, .inl (cI, 36, .inl mv)), (qbe, .inl (cZ, 36, .inl mb)), (qlo, .inl (cI, 9, .inl ml)), (qhi, .inl (cI, 9, .inl mg)), (qpa, .inl (cI, 6, .inl mp)), (qne, .inl (cI, 6, .inl mx)), (qre, .inl (cI, 6, .inl mr))] sz)) 0 0 (va_A [(qo, .inr (3, [.int (nI n), .ref qha, .ref qkn, .ref qtr, .int mc, .ref qhv, .ref qbe, .int (nI Q), .ref qlo, .ref qhi, .ref qpa, .ref qne, .ref qre])), (qha, .inl (cZ, 36, .inl mh)), (qkn, .inl (cZ, 36, .inl mk)), (qtr, .inl (cZ, 36, .inl mt)), (qhv, .inl (cI, 36, .inl mv)), (qbe, .inl (cZ, 36, .inl mb)), (qlo, .inl (cI, 9, .inl ml)), (qhi, .inl (cI, 9, .inl mg)), (qpa, .inl (cI, 6, .inl mp)), (qne, .inl (cI, 6, .inl mx)), (qre, .inl (cI, 6, .inl mr))] sz) := by
  refine Met.ofW (cc := b_M_goThrough) (maxL := 3) (ret := none) (by decide) rfl ?_
  intro p e s m args below meth c s₁ B hml hv
  obtain ⟨rfl, hsz, hP, hK, hD0, hN⟩ := hv
  have hx := B.exec
  have hb := B.bytes
  have hr := B.returns
  have hts := atoms_spec (ws := w_M_goThrough) B.pre
  have hT : ∀ w ∈ vzB, w.before ([.ref qo] : List Value).toArray s = true := fun w h => hts w (List.mem_cons_of_mem _ h)
  have hown : s.vm.findClass "ArrowClassesModel" = some m.cls := findClass_of_methodNamed B.named
  have hlocks := B.notSynchronized
  subst hsz
  have hD := hD0.self (sz := s.heap.size)
  have hA : ∀ q : Nat, s.heap.size ≤ q → va_A [(qo, .inr (3, [.int (nI n), .ref qha, .ref qkn, .ref qtr, .int mc, .ref qhv, .ref qbe, .int (nI Q), .ref qlo, .ref qhi, .ref qpa, .ref qne, .ref qre])), (qha, .inl (cZ, 36, .inl mh)), (qkn, .inl (cZ, 36, .inl mk)), (qtr, .inl (cZ, 36, .inl mt)), (qhv, .inl (cI, 36, .inl mv)), (qbe, .inl (cZ, 36, .inl mb)), (qlo, .inl (cI, 9, .inl ml)), (qhi, .inl (cI, 9, .inl mg)), (qpa, .inl (cI, 6, .inl mp)), (qne, .inl (cI, 6, .inl mx)), (qre, .inl (cI, 6, .inl mr))] s.heap.size q := fun q h => Or.inr h
  have hS : va_S (va_A [(qo, .inr (3, [.int (nI n), .ref qha, .ref qkn, .ref qtr, .int mc, .ref qhv, .ref qbe, .int (nI Q), .ref qlo, .ref qhi, .ref qpa, .ref qne, .ref qre])), (qha, .inl (cZ, 36, .inl mh)), (qkn, .inl (cZ, 36, .inl mk)), (qtr, .inl (cZ, 36, .inl mt)), (qhv, .inl (cI, 36, .inl mv)), (qbe, .inl (cZ, 36, .inl mb)), (qlo, .inl (cI, 9, .inl ml)), (qhi, .inl (cI, 9, .inl mg)), (qpa, .inl (cI, 6, .inl mp)), (qne, .inl (cI, 6, .inl mx)), (qre, .inl (cI, 6, .inl mr))] s.heap.size) s.heap s.heap [] := va_S.rf
  have hl := lv_entry ([.ref qo]) (n := 3) (Nat.le_of_ble_eq_true rfl)
  rw [lg_entry_eq]
  generalize (lg_sl ([.ref qo]) ++ List.replicate (3 - (lg_sl ([.ref qo])).length) Slot.unset).toArray = ls at hl ⊢
  have hl : lv_has ls 3 [(0, .ref qo)] := hl
  have hQf := mFind_le (ml := ml) (mg := mg) hn hJ
  have hlf := mFind_lo (ml := ml) (mg := mg) hn hJ
  have hgf := mFind_hi (ml := ml) (mg := mg) hn hJ
  have hP512 : 2 ^ (mFind n mh ml mg).1 ≤ 512 := vz_p512 hQf
  refine lv_aload_n hx hb d_M_goThrough_0 rfl (lv_at hl 0 rfl) ?_
  refine vz_rv (wr := []) (w1 := [(qo, .inr (3, [.int (nI n), .ref qha, .ref qkn, .ref qtr, .int mc, .ref qhv, .ref qbe, .int (nI ((mFind n mh ml mg).1)), .ref qlo, .ref qhi, .ref qpa, .ref qne, .ref qre])), (qha, .inl (cZ, 36, .inl mh)), (qkn, .inl (cZ, 36, .inl mk)), (qtr, .inl (cZ, 36, .inl mt)), (qhv, .inl (cI, 36, .inl mv)), (qbe, .inl (cZ, 36, .inl mb)), (qlo, .inl (cI, 9, .inl ((mFind n mh ml mg).2.1))), (qhi, .inl (cI, 9, .inl ((mFind n mh ml mg).2.2))), (qpa, .inl (cI, 6, .inl mp)), (qne, .inl (cI, 6, .inl mx)), (qre, .inl (cI, 6, .inl mr))]) (va_runV (As := []) (rest := []) ⟨hx, hb, hml, hown, hT⟩ (c_M_findPairs l dC dI cI cZ qo qha qkn qtr qhv qbe qlo qhi qpa qne qre mk mt mv mb mp mx mr mc Q n mh ml mg (by omega) (by assumption) s.heap.size) (vz_cwV (n := 0) hT wd_link_M_100 wd_inst_M_findPairs wd_sel_M_findPairs wd_ini_M wd_code_M_findPairs (by decide +kernel) ⟨Nat.le_of_ble_eq_true rfl, Nat.le_of_ble_eq_true rfl⟩) (vz_pvw (q0 := 0) (ci := 3) (q := ("ArrowClassesModel", TM, 13)) hN hK hP hD [0, 1, 2, 3, 4, 5, 6, 7, 8, 9, 10] rfl (by decide) rfl rfl rfl) rfl rfl hl.1 rfl (lv_room (Nat.le_of_ble_eq_true rfl)) d_M_goThrough_1 ⟨Nat.zero_le _, Nat.zero_le _⟩) hP hD hS hA [0, 1, 2, 3, 4, 5, 6, 7, 8, 9, 10] [] rfl rfl (by decide) (by decide) (fun H locs hP hD hS => ?_)
  have hP : va_P (dC, dI) vwCl [(qo, .inr (3, [.int (nI n), .ref qha, .ref qkn, .ref qtr, .int mc, .ref qhv, .ref qbe, .int (nI ((mFind n mh ml mg).1)), .ref qlo, .ref qhi, .ref qpa, .ref qne, .ref qre])), (qha, .inl (cZ, 36, .inl mh)), (qkn, .inl (cZ, 36, .inl mk)), (qtr, .inl (cZ, 36, .inl mt)), (qhv, .inl (cI, 36, .inl mv)), (qbe, .inl (cZ, 36, .inl mb)), (qlo, .inl (cI, 9, .inl ((mFind n mh ml mg).2.1))), (qhi, .inl (cI, 9, .inl ((mFind n mh ml mg).2.2))), (qpa, .inl (cI, 6, .inl mp)), (qne, .inl (cI, 6, .inl mx)), (qre, .inl (cI, 6, .inl mr))] H := hP.sub [0, 1, 2, 3, 4, 5, 6, 7, 8, 9, 10] rfl
  have hD : va_D (va_A [(qo, .inr (3, [.int (nI n), .ref qha, .ref qkn, .ref qtr, .int mc, .ref qhv, .ref qbe, .int (nI Q), .ref qlo, .ref qhi, .ref qpa, .ref qne, .ref qre])), (qha, .inl (cZ, 36, .inl mh)), (qkn, .inl (cZ, 36, .inl mk)), (qtr, .inl (cZ, 36, .inl mt)), (qhv, .inl (cI, 36, .inl mv)), (qbe, .inl (cZ, 36, .inl mb)), (qlo, .inl (cI, 9, .inl ml)), (qhi, .inl (cI, 9, .inl mg)), (qpa, .inl (cI, 6, .inl mp)), (qne, .inl (cI, 6, .inl mx)), (qre, .inl (cI, 6, .inl mr))] s.heap.size) [(qo, .inr (3, [.int (nI n), .ref qha, .ref qkn, .ref qtr, .int mc, .ref qhv, .ref qbe, .int (nI ((mFind n mh ml mg).1)), .ref qlo, .ref qhi, .ref qpa, .ref qne, .ref qre])), (qha, .inl (cZ, 36, .inl mh)), (qkn, .inl (cZ, 36, .inl mk)), (qtr, .inl (cZ, 36, .inl mt)), (qhv, .inl (cI, 36, .inl mv)), (qbe, .inl (cZ, 36, .inl mb)), (qlo, .inl (cI, 9, .inl ((mFind n mh ml mg).2.1))), (qhi, .inl (cI, 9, .inl ((mFind n mh ml mg).2.2))), (qpa, .inl (cI, 6, .inl mp)), (qne, .inl (cI, 6, .inl mx)), (qre, .inl (cI, 6, .inl mr))] := hD.sub [0, 1, 2, 3, 4, 5, 6, 7, 8, 9, 10] (by decide) rfl
  refine lv_aload_n hx hb d_M_goThrough_4 rfl (lv_at hl 0 rfl) ?_
  refine lv_iconst (v := 0) hx hb d_M_goThrough_5 (by decide) ?_
  refine va_put (D := (dC, dI)) (ci := 3) (v := .int 0) (ty := .int) (C := "ArrowClassesModel") (T := TM) (N := 13) hx hb hT inM tyM okM nmM hown hK hP hD hS 0 rfl rfl 4 (by decide) (hT _ wd_fld_M_103) (fun _ h9 => h9) rfl (by decide +kernel) rfl rfl (Nat.le_of_ble_eq_true rfl) d_M_goThrough_6 (fun H locs hP hD hS => ?_)
  have hP : va_P (dC, dI) vwCl [(qo, .inr (3, [.int (nI n), .ref qha, .ref qkn, .ref qtr, .int 0, .ref qhv, .ref qbe, .int (nI ((mFind n mh ml mg).1)), .ref qlo, .ref qhi, .ref qpa, .ref qne, .ref qre])), (qha, .inl (cZ, 36, .inl mh)), (qkn, .inl (cZ, 36, .inl mk)), (qtr, .inl (cZ, 36, .inl mt)), (qhv, .inl (cI, 36, .inl mv)), (qbe, .inl (cZ, 36, .inl mb)), (qlo, .inl (cI, 9, .inl ((mFind n mh ml mg).2.1))), (qhi, .inl (cI, 9, .inl ((mFind n mh ml mg).2.2))), (qpa, .inl (cI, 6, .inl mp)), (qne, .inl (cI, 6, .inl mx)), (qre, .inl (cI, 6, .inl mr))] H := hP
  have hD : va_D (va_A [(qo, .inr (3, [.int (nI n), .ref qha, .ref qkn, .ref qtr, .int mc, .ref qhv, .ref qbe, .int (nI Q), .ref qlo, .ref qhi, .ref qpa, .ref qne, .ref qre])), (qha, .inl (cZ, 36, .inl mh)), (qkn, .inl (cZ, 36, .inl mk)), (qtr, .inl (cZ, 36, .inl mt)), (qhv, .inl (cI, 36, .inl mv)), (qbe, .inl (cZ, 36, .inl mb)), (qlo, .inl (cI, 9, .inl ml)), (qhi, .inl (cI, 9, .inl mg)), (qpa, .inl (cI, 6, .inl mp)), (qne, .inl (cI, 6, .inl mx)), (qre, .inl (cI, 6, .inl mr))] s.heap.size) [(qo, .inr (3, [.int (nI n), .ref qha, .ref qkn, .ref qtr, .int 0, .ref qhv, .ref qbe, .int (nI ((mFind n mh ml mg).1)), .ref qlo, .ref qhi, .ref qpa, .ref qne, .ref qre])), (qha, .inl (cZ, 36, .inl mh)), (qkn, .inl (cZ, 36, .inl mk)), (qtr, .inl (cZ, 36, .inl mt)), (qhv, .inl (cI, 36, .inl mv)), (qbe, .inl (cZ, 36, .inl mb)), (qlo, .inl (cI, 9, .inl ((mFind n mh ml mg).2.1))), (qhi, .inl (cI, 9, .inl ((mFind n mh ml mg).2.2))), (qpa, .inl (cI, 6, .inl mp)), (qne, .inl (cI, 6, .inl mx)), (qre, .inl (cI, 6, .inl mr))] := hD
  refine lv_iconst (v := 0) hx hb d_M_goThrough_9 (by decide) ?_
  refine vz_top (y := nI 0) (by decide) ?_
  refine lv_istore_n hx hb d_M_goThrough_10 rfl hl (by decide) rfl (fun ls hl => ?_)
  have hl : lv_has ls 3 [(1, .int (nI 0)), (0, .ref qo)] := hl
  have lp_11 : ∀ (k_11 i_11 : Nat) (mv_11 : Nat → Int32) (H : Heap) (locs : List Loc) (ls : Array Slot), i_11 + k_11 = 36 → mGo_L11 n mh mk mt mv mb ml mg mc Q k_11 i_11 mv_11 = (mGo n mh mk mt mv mb ml mg mc Q) → va_P (dC, dI) vwCl [(qo, .inr (3, [.int (nI n), .ref qha, .ref qkn, .ref qtr, .int 0, .ref qhv, .ref qbe, .int (nI ((mFind n mh ml mg).1)), .ref qlo, .ref qhi, .ref qpa, .ref qne, .ref qre])), (qha, .inl (cZ, 36, .inl mh)), (qkn, .inl (cZ, 36, .inl mk)), (qtr, .inl (cZ, 36, .inl mt)), (qhv, .inl (cI, 36, .inl mv_11)), (qbe, .inl (cZ, 36, .inl mb)), (qlo, .inl (cI, 9, .inl ((mFind n mh ml mg).2.1))), (qhi, .inl (cI, 9, .inl ((mFind n mh ml mg).2.2))), (qpa, .inl (cI, 6, .inl mp)), (qne, .inl (cI, 6, .inl mx)), (qre, .inl (cI, 6, .inl mr))] H → va_D (va_A [(qo, .inr (3, [.int (nI n), .ref qha, .ref qkn, .ref qtr, .int mc, .ref qhv, .ref qbe, .int (nI Q), .ref qlo, .ref qhi, .ref qpa, .ref qne, .ref qre])), (qha, .inl (cZ, 36, .inl mh)), (qkn, .inl (cZ, 36, .inl mk)), (qtr, .inl (cZ, 36, .inl mt)), (qhv, .inl (cI, 36, .inl mv)), (qbe, .inl (cZ, 36, .inl mb)), (qlo, .inl (cI, 9, .inl ml)), (qhi, .inl (cI, 9, .inl mg)), (qpa, .inl (cI, 6, .inl mp)), (qne, .inl (cI, 6, .inl mx)), (qre, .inl (cI, 6, .inl mr))] s.heap.size) [(qo, .inr (3, [.int (nI n), .ref qha, .ref qkn, .ref qtr, .int 0, .ref qhv, .ref qbe, .int (nI ((mFind n mh ml mg).1)), .ref qlo, .ref qhi, .ref qpa, .ref qne, .ref qre])), (qha, .inl (cZ, 36, .inl mh)), (qkn, .inl (cZ, 36, .inl mk)), (qtr, .inl (cZ, 36, .inl mt)), (qhv, .inl (cI, 36, .inl mv_11)), (qbe, .inl (cZ, 36, .inl mb)), (qlo, .inl (cI, 9, .inl ((mFind n mh ml mg).2.1))), (qhi, .inl (cI, 9, .inl ((mFind n mh ml mg).2.2))), (qpa, .inl (cI, 6, .inl mp)), (qne, .inl (cI, 6, .inl mx)), (qre, .inl (cI, 6, .inl mr))] → va_S (va_A [(qo, .inr (3, [.int (nI n), .ref qha, .ref qkn, .ref qtr, .int mc, .ref qhv, .ref qbe, .int (nI Q), .ref qlo, .ref qhi, .ref qpa, .ref qne, .ref qre])), (qha, .inl (cZ, 36, .inl mh)), (qkn, .inl (cZ, 36, .inl mk)), (qtr, .inl (cZ, 36, .inl mt)), (qhv, .inl (cI, 36, .inl mv)), (qbe, .inl (cZ, 36, .inl mb)), (qlo, .inl (cI, 9, .inl ml)), (qhi, .inl (cI, 9, .inl mg)), (qpa, .inl (cI, 6, .inl mp)), (qne, .inl (cI, 6, .inl mx)), (qre, .inl (cI, 6, .inl mr))] s.heap.size) s.heap H locs → lv_has ls 3 [(1, .int (nI i_11)), (0, .ref qo)] → W p l e (headSpec w_M_goThrough rm_M_goThrough).room s m ([.ref qo] : List Value).toArray below meth c H locs 0 0 (MQ below (va_Qv (fun _ : Unit => True) (fun (_ : Unit) t => va_P (dC, dI) vwCl [(qo, .inr (3, [.int (nI n), .ref qha, .ref qkn, .ref qtr, .int ((mGo n mh mk mt mv mb ml mg mc Q).2.2.2.1), .ref qhv, .ref qbe, .int (nI ((mGo n mh mk mt mv mb ml mg mc Q).1)), .ref qlo, .ref qhi, .ref qpa, .ref qne, .ref qre])), (qha, .inl (cZ, 36, .inl mh)), (qkn, .inl (cZ, 36, .inl mk)), (qtr, .inl (cZ, 36, .inl ((mGo n mh mk mt mv mb ml mg mc Q).2.2.2.2.2.1))), (qhv, .inl (cI, 36, .inl ((mGo n mh mk mt mv mb ml mg mc Q).2.2.2.2.1))), (qbe, .inl (cZ, 36, .inl ((mGo n mh mk mt mv mb ml mg mc Q).2.2.2.2.2.2))), (qlo, .inl (cI, 9, .inl ((mGo n mh mk mt mv mb ml mg mc Q).2.1))), (qhi, .inl (cI, 9, .inl ((mGo n mh mk mt mv mb ml mg mc Q).2.2.1))), (qpa, .inl (cI, 6, .inl mp)), (qne, .inl (cI, 6, .inl mx)), (qre, .inl (cI, 6, .inl mr))] t.heap ∧ va_K (dC, dI) vwCl [(cI, .int), (cZ, .boolean)] t ∧ va_D (va_A [(qo, .inr (3, [.int (nI n), .ref qha, .ref qkn, .ref qtr, .int mc, .ref qhv, .ref qbe, .int (nI Q), .ref qlo, .ref qhi, .ref qpa, .ref qne, .ref qre])), (qha, .inl (cZ, 36, .inl mh)), (qkn, .inl (cZ, 36, .inl mk)), (qtr, .inl (cZ, 36, .inl mt)), (qhv, .inl (cI, 36, .inl mv)), (qbe, .inl (cZ, 36, .inl mb)), (qlo, .inl (cI, 9, .inl ml)), (qhi, .inl (cI, 9, .inl mg)), (qpa, .inl (cI, 6, .inl mp)), (qne, .inl (cI, 6, .inl mx)), (qre, .inl (cI, 6, .inl mr))] s.heap.size) [(qo, .inr (3, [.int (nI n), .ref qha, .ref qkn, .ref qtr, .int ((mGo n mh mk mt mv mb ml mg mc Q).2.2.2.1), .ref qhv, .ref qbe, .int (nI ((mGo n mh mk mt mv mb ml mg mc Q).1)), .ref qlo, .ref qhi, .ref qpa, .ref qne, .ref qre])), (qha, .inl (cZ, 36, .inl mh)), (qkn, .inl (cZ, 36, .inl mk)), (qtr, .inl (cZ, 36, .inl ((mGo n mh mk mt mv mb ml mg mc Q).2.2.2.2.2.1))), (qhv, .inl (cI, 36, .inl ((mGo n mh mk mt mv mb ml mg mc Q).2.2.2.2.1))), (qbe, .inl (cZ, 36, .inl ((mGo n mh mk mt mv mb ml mg mc Q).2.2.2.2.2.2))), (qlo, .inl (cI, 9, .inl ((mGo n mh mk mt mv mb ml mg mc Q).2.1))), (qhi, .inl (cI, 9, .inl ((mGo n mh mk mt mv mb ml mg mc Q).2.2.1))), (qpa, .inl (cI, 6, .inl mp)), (qne, .inl (cI, 6, .inl mx)), (qre, .inl (cI, 6, .inl mr))]) (va_A [(qo, .inr (3, [.int (nI n), .ref qha, .ref qkn, .ref qtr, .int mc, .ref qhv, .ref qbe, .int (nI Q), .ref qlo, .ref qhi, .ref qpa, .ref qne, .ref qre])), (qha, .inl (cZ, 36, .inl mh)), (qkn, .inl (cZ, 36, .inl mk)), (qtr, .inl (cZ, 36, .inl mt)), (qhv, .inl (cI, 36, .inl mv)), (qbe, .inl (cZ, 36, .inl mb)), (qlo, .inl (cI, 9, .inl ml)), (qhi, .inl (cI, 9, .inl mg)), (qpa, .inl (cI, 6, .inl mp)), (qne, .inl (cI, 6, .inl mx)), (qre, .inl (cI, 6, .inl mr))] s.heap.size)) ([.ref qo] : List Value).toArray s 0 0 (va_A [(qo, .inr (3, [.int (nI n), .ref qha, .ref qkn, .ref qtr, .int mc, .ref qhv, .ref qbe, .int (nI Q), .ref qlo, .ref qhi, .ref qpa, .ref qne, .ref qre])), (qha, .inl (cZ, 36, .inl mh)), (qkn, .inl (cZ, 36, .inl mk)), (qtr, .inl (cZ, 36, .inl mt)), (qhv, .inl (cI, 36, .inl mv)), (qbe, .inl (cZ, 36, .inl mb)), (qlo, .inl (cI, 9, .inl ml)), (qhi, .inl (cI, 9, .inl mg)), (qpa, .inl (cI, 6, .inl mp)), (qne, .inl (cI, 6, .inl mx)), (qre, .inl (cI, 6, .inl mr))] s.heap.size)) (F0 m 11 ls []) := by
    intro k_11
    induction k_11 with
    | zero =>
      intro i_11 mv_11 H locs ls hik_11 hfin_11 hP hD hS hl
      refine lv_iload_n hx hb d_M_goThrough_11 rfl (lv_at hl 0 rfl) ?_
      refine lv_bipush (v := 36) hx hb d_M_goThrough_12 (by decide) ?_
      refine vz_top (y := nI 36) (by decide) ?_
      refine lv_icmp_ge (tgt := 30) hx hb d_M_goThrough_14 (by decide) (fun _ => ?_) (fun h1 => by rw [nI_leI (by omega) (by omega)] at h1; omega)
      refine lv_iconst (v := 0) hx hb d_M_goThrough_30 (by decide) ?_
      refine vz_top (y := nI 0) (by decide) ?_
      refine lv_istore_n hx hb d_M_goThrough_31 rfl hl (by decide) rfl (fun ls hl => ?_)
      have hl : lv_has ls 3 [(1, .int (nI 0)), (0, .ref qo)] := hl
      have lp_32 : ∀ (k_32 i_32 : Nat) (mc_32 : Int32) (mv_32 : Nat → Int32) (mb_32 : Nat → Int32) (mt_32 : Nat → Int32) (H : Heap) (locs : List Loc) (ls : Array Slot), i_32 + k_32 = (2 ^ (mFind n mh ml mg).1) → mGo_L32 n mh mk mt mv mb ml mg mc Q i_11 mv_11 k_32 i_32 mc_32 mv_32 mb_32 mt_32 = (mGo n mh mk mt mv mb ml mg mc Q) → va_P (dC, dI) vwCl [(qo, .inr (3, [.int (nI n), .ref qha, .ref qkn, .ref qtr, .int mc_32, .ref qhv, .ref qbe, .int (nI ((mFind n mh ml mg).1)), .ref qlo, .ref qhi, .ref qpa, .ref qne, .ref qre])), (qha, .inl (cZ, 36, .inl mh)), (qkn, .inl (cZ, 36, .inl mk)), (qtr, .inl (cZ, 36, .inl mt_32)), (qhv, .inl (cI, 36, .inl mv_32)), (qbe, .inl (cZ, 36, .inl mb_32)), (qlo, .inl (cI, 9, .inl ((mFind n mh ml mg).2.1))), (qhi, .inl (cI, 9, .inl ((mFind n mh ml mg).2.2))), (qpa, .inl (cI, 6, .inl mp)), (qne, .inl (cI, 6, .inl mx)), (qre, .inl (cI, 6, .inl mr))] H → va_D (va_A [(qo, .inr (3, [.int (nI n), .ref qha, .ref qkn, .ref qtr, .int mc, .ref qhv, .ref qbe, .int (nI Q), .ref qlo, .ref qhi, .ref qpa, .ref qne, .ref qre])), (qha, .inl (cZ, 36, .inl mh)), (qkn, .inl (cZ, 36, .inl mk)), (qtr, .inl (cZ, 36, .inl mt)), (qhv, .inl (cI, 36, .inl mv)), (qbe, .inl (cZ, 36, .inl mb)), (qlo, .inl (cI, 9, .inl ml)), (qhi, .inl (cI, 9, .inl mg)), (qpa, .inl (cI, 6, .inl mp)), (qne, .inl (cI, 6, .inl mx)), (qre, .inl (cI, 6, .inl mr))] s.heap.size) [(qo, .inr (3, [.int (nI n), .ref qha, .ref qkn, .ref qtr, .int mc_32, .ref qhv, .ref qbe, .int (nI ((mFind n mh ml mg).1)), .ref qlo, .ref qhi, .ref qpa, .ref qne, .ref qre])), (qha, .inl (cZ, 36, .inl mh)), (qkn, .inl (cZ, 36, .inl mk)), (qtr, .inl (cZ, 36, .inl mt_32)), (qhv, .inl (cI, 36, .inl mv_32)), (qbe, .inl (cZ, 36, .inl mb_32)), (qlo, .inl (cI, 9, .inl ((mFind n mh ml mg).2.1))), (qhi, .inl (cI, 9, .inl ((mFind n mh ml mg).2.2))), (qpa, .inl (cI, 6, .inl mp)), (qne, .inl (cI, 6, .inl mx)), (qre, .inl (cI, 6, .inl mr))] → va_S (va_A [(qo, .inr (3, [.int (nI n), .ref qha, .ref qkn, .ref qtr, .int mc, .ref qhv, .ref qbe, .int (nI Q), .ref qlo, .ref qhi, .ref qpa, .ref qne, .ref qre])), (qha, .inl (cZ, 36, .inl mh)), (qkn, .inl (cZ, 36, .inl mk)), (qtr, .inl (cZ, 36, .inl mt)), (qhv, .inl (cI, 36, .inl mv)), (qbe, .inl (cZ, 36, .inl mb)), (qlo, .inl (cI, 9, .inl ml)), (qhi, .inl (cI, 9, .inl mg)), (qpa, .inl (cI, 6, .inl mp)), (qne, .inl (cI, 6, .inl mx)), (qre, .inl (cI, 6, .inl mr))] s.heap.size) s.heap H locs → lv_has ls 3 [(1, .int (nI i_32)), (0, .ref qo)] → W p l e (headSpec w_M_goThrough rm_M_goThrough).room s m ([.ref qo] : List Value).toArray below meth c H locs 0 0 (MQ below (va_Qv (fun _ : Unit => True) (fun (_ : Unit) t => va_P (dC, dI) vwCl [(qo, .inr (3, [.int (nI n), .ref qha, .ref qkn, .ref qtr, .int ((mGo n mh mk mt mv mb ml mg mc Q).2.2.2.1), .ref qhv, .ref qbe, .int (nI ((mGo n mh mk mt mv mb ml mg mc Q).1)), .ref qlo, .ref qhi, .ref qpa, .ref qne, .ref qre])), (qha, .inl (cZ, 36, .inl mh)), (qkn, .inl (cZ, 36, .inl mk)), (qtr, .inl (cZ, 36, .inl ((mGo n mh mk mt mv mb ml mg mc Q).2.2.2.2.2.1))), (qhv, .inl (cI, 36, .inl ((mGo n mh mk mt mv mb ml mg mc Q).2.2.2.2.1))), (qbe, .inl (cZ, 36, .inl ((mGo n mh mk mt mv mb ml mg mc Q).2.2.2.2.2.2))), (qlo, .inl (cI, 9, .inl ((mGo n mh mk mt mv mb ml mg mc Q).2.1))), (qhi, .inl (cI, 9, .inl ((mGo n mh mk mt mv mb ml mg mc Q).2.2.1))), (qpa, .inl (cI, 6, .inl mp)), (qne, .inl (cI, 6, .inl mx)), (qre, .inl (cI, 6, .inl mr))] t.heap ∧ va_K (dC, dI) vwCl [(cI, .int), (cZ, .boolean)] t ∧ va_D (va_A [(qo, .inr (3, [.int (nI n), .ref qha, .ref qkn, .ref qtr, .int mc, .ref qhv, .ref qbe, .int (nI Q), .ref qlo, .ref qhi, .ref qpa, .ref qne, .ref qre])), (qha, .inl (cZ, 36, .inl mh)), (qkn, .inl (cZ, 36, .inl mk)), (qtr, .inl (cZ, 36, .inl mt)), (qhv, .inl (cI, 36, .inl mv)), (qbe, .inl (cZ, 36, .inl mb)), (qlo, .inl (cI, 9, .inl ml)), (qhi, .inl (cI, 9, .inl mg)), (qpa, .inl (cI, 6, .inl mp)), (qne, .inl (cI, 6, .inl mx)), (qre, .inl (cI, 6, .inl mr))] s.heap.size) [(qo, .inr (3, [.int (nI n), .ref qha, .ref qkn, .ref qtr, .int ((mGo n mh mk mt mv mb ml mg mc Q).2.2.2.1), .ref qhv, .ref qbe, .int (nI ((mGo n mh mk mt mv mb ml mg mc Q).1)), .ref qlo, .ref qhi, .ref qpa, .ref qne, .ref qre])), (qha, .inl (cZ, 36, .inl mh)), (qkn, .inl (cZ, 36, .inl mk)), (qtr, .inl (cZ, 36, .inl ((mGo n mh mk mt mv mb ml mg mc Q).2.2.2.2.2.1))), (qhv, .inl (cI, 36, .inl ((mGo n mh mk mt mv mb ml mg mc Q).2.2.2.2.1))), (qbe, .inl (cZ, 36, .inl ((mGo n mh mk mt mv mb ml mg mc Q).2.2.2.2.2.2))), (qlo, .inl (cI, 9, .inl ((mGo n mh mk mt mv mb ml mg mc Q).2.1))), (qhi, .inl (cI, 9, .inl ((mGo n mh mk mt mv mb ml mg mc Q).2.2.1))), (qpa, .inl (cI, 6, .inl mp)), (qne, .inl (cI, 6, .inl mx)), (qre, .inl (cI, 6, .inl mr))]) (va_A [(qo, .inr (3, [.int (nI n), .ref qha, .ref qkn, .ref qtr, .int mc, .ref qhv, .ref qbe, .int (nI Q), .ref qlo, .ref qhi, .ref qpa, .ref qne, .ref qre])), (qha, .inl (cZ, 36, .inl mh)), (qkn, .inl (cZ, 36, .inl mk)), (qtr, .inl (cZ, 36, .inl mt)), (qhv, .inl (cI, 36, .inl mv)), (qbe, .inl (cZ, 36, .inl mb)), (qlo, .inl (cI, 9, .inl ml)), (qhi, .inl (cI, 9, .inl mg)), (qpa, .inl (cI, 6, .inl mp)), (qne, .inl (cI, 6, .inl mx)), (qre, .inl (cI, 6, .inl mr))] s.heap.size)) ([.ref qo] : List Value).toArray s 0 0 (va_A [(qo, .inr (3, [.int (nI n), .ref qha, .ref qkn, .ref qtr, .int mc, .ref qhv, .ref qbe, .int (nI Q), .ref qlo, .ref qhi, .ref qpa, .ref qne, .ref qre])), (qha, .inl (cZ, 36, .inl mh)), (qkn, .inl (cZ, 36, .inl mk)), (qtr, .inl (cZ, 36, .inl mt)), (qhv, .inl (cI, 36, .inl mv)), (qbe, .inl (cZ, 36, .inl mb)), (qlo, .inl (cI, 9, .inl ml)), (qhi, .inl (cI, 9, .inl mg)), (qpa, .inl (cI, 6, .inl mp)), (qne, .inl (cI, 6, .inl mx)), (qre, .inl (cI, 6, .inl mr))] s.heap.size)) (F0 m 32 ls []) := by
        intro k_32
        induction k_32 with
        | zero =>
          intro i_32 mc_32 mv_32 mb_32 mt_32 H locs ls hik_32 hfin_32 hP hD hS hl
          refine lv_iload_n hx hb d_M_goThrough_32 rfl (lv_at hl 0 rfl) ?_
          refine lv_iconst (v := 1) hx hb d_M_goThrough_33 (by decide) ?_
          refine lv_aload_n hx hb d_M_goThrough_34 rfl (lv_at hl 1 rfl) ?_
          refine va_get (D := (dC, dI)) (ci := 3) (v := .int (nI ((mFind n mh ml mg).1))) (C := "ArrowClassesModel") (T := TM) (N := 13) hx hb hT inM hown hK hP 0 rfl rfl 7 (by decide) (hT _ wd_fld_M_93) (fun _ h9 => h9) rfl d_M_goThrough_35 ?_
          refine lv_ishl hx hb d_M_goThrough_38 ?_
          refine vz_top (y := nI (2 ^ (mFind n mh ml mg).1)) (vz_pow (by omega)) ?_
          refine lv_icmp_ge (tgt := 144) hx hb d_M_goThrough_39 (by decide) (fun _ => ?_) (fun h2 => by rw [nI_leI (by omega) (by omega)] at h2; omega)
          have hF : (mGo n mh mk mt mv mb ml mg mc Q) = (((mFind n mh ml mg).1), (mFind n mh ml mg).2.1, (mFind n mh ml mg).2.2, mc_32, mv_32, mt_32, mb_32) := (hfin_32.symm.trans (by rw [mGo_L32]))
          exact W.vret hx hb hr (fun t ht hW => ⟨⟨(), rfl, trivial, by rw [hF, ht]; exact hP, va_K.moved hW.alike hK, by rw [hF]; exact hD⟩, hS.F ht⟩) hS.2.2 d_M_goThrough_144
        | succ k_32 ih_32 =>
          intro i_32 mc_32 mv_32 mb_32 mt_32 H locs ls hik_32 hfin_32 hP hD hS hl
          refine lv_iload_n hx hb d_M_goThrough_32 rfl (lv_at hl 0 rfl) ?_
          refine lv_iconst (v := 1) hx hb d_M_goThrough_33 (by decide) ?_
          refine lv_aload_n hx hb d_M_goThrough_34 rfl (lv_at hl 1 rfl) ?_
          refine va_get (D := (dC, dI)) (ci := 3) (v := .int (nI ((mFind n mh ml mg).1))) (C := "ArrowClassesModel") (T := TM) (N := 13) hx hb hT inM hown hK hP 0 rfl rfl 7 (by decide) (hT _ wd_fld_M_93) (fun _ h9 => h9) rfl d_M_goThrough_35 ?_
          refine lv_ishl hx hb d_M_goThrough_38 ?_
          refine vz_top (y := nI (2 ^ (mFind n mh ml mg).1)) (vz_pow (by omega)) ?_
          refine lv_icmp_ge (tgt := 144) hx hb d_M_goThrough_39 (by decide) (fun h3 => by rw [nI_leI (by omega) (by omega)] at h3; omega) (fun _ => ?_)
          refine lv_aload_n hx hb d_M_goThrough_42 rfl (lv_at hl 1 rfl) ?_
          refine lv_iload_n hx hb d_M_goThrough_43 rfl (lv_at hl 0 rfl) ?_
          refine vz_rv (wr := []) (w1 := [(qo, .inr (3, [.int (nI n), .ref qha, .ref qkn, .ref qtr, .int mc_32, .ref qhv, .ref qbe, .int (nI ((mFind n mh ml mg).1)), .ref qlo, .ref qhi, .ref qpa, .ref qne, .ref qre])), (qha, .inl (cZ, 36, .inl mh)), (qkn, .inl (cZ, 36, .inl mk)), (qtr, .inl (cZ, 36, .inl (mDirect mt_32 ((mFind n mh ml mg).2.1) ((mFind n mh ml mg).2.2) ((mFind n mh ml mg).1) (nI i_32)))), (qhv, .inl (cI, 36, .inl mv_32)), (qbe, .inl (cZ, 36, .inl mb_32)), (qlo, .inl (cI, 9, .inl ((mFind n mh ml mg).2.1))), (qhi, .inl (cI, 9, .inl ((mFind n mh ml mg).2.2))), (qpa, .inl (cI, 6, .inl mp)), (qne, .inl (cI, 6, .inl mx)), (qre, .inl (cI, 6, .inl mr))]) (va_runV (As := [.int (nI i_32)]) (rest := []) ⟨hx, hb, hml, hown, hT⟩ (c_M_direct l dC dI cI cZ qo qha qkn qtr qhv qbe qlo qhi qpa qne qre n mh mk mv_32 mb_32 mp mx mr mc_32 mt_32 ((mFind n mh ml mg).2.1) ((mFind n mh ml mg).2.2) ((mFind n mh ml mg).1) (nI i_32) (by omega) (by assumption) (by assumption) (by assumption) H.size) (vz_cwV (n := 1) hT wd_link_M_106 wd_inst_M_direct wd_sel_M_direct wd_ini_M wd_code_M_direct (by decide +kernel) ⟨Nat.le_of_ble_eq_true rfl, Nat.le_of_ble_eq_true rfl⟩) (vz_pvw (q0 := 0) (ci := 3) (q := ("ArrowClassesModel", TM, 13)) hN hK hP hD [0, 1, 2, 3, 4, 5, 6, 7, 8, 9, 10] rfl (by decide) rfl rfl rfl) rfl rfl hl.1 rfl (lv_room (Nat.le_of_ble_eq_true rfl)) d_M_goThrough_44 ⟨Nat.zero_le _, Nat.zero_le _⟩) hP hD hS hA [0, 1, 2, 3, 4, 5, 6, 7, 8, 9, 10] [] rfl rfl (by decide) (by decide) (fun H locs hP hD hS => ?_)
          have hP : va_P (dC, dI) vwCl [(qo, .inr (3, [.int (nI n), .ref qha, .ref qkn, .ref qtr, .int mc_32, .ref qhv, .ref qbe, .int (nI ((mFind n mh ml mg).1)), .ref qlo, .ref qhi, .ref qpa, .ref qne, .ref qre])), (qha, .inl (cZ, 36, .inl mh)), (qkn, .inl (cZ, 36, .inl mk)), (qtr, .inl (cZ, 36, .inl (mDirect mt_32 ((mFind n mh ml mg).2.1) ((mFind n mh ml mg).2.2) ((mFind n mh ml mg).1) (nI i_32)))), (qhv, .inl (cI, 36, .inl mv_32)), (qbe, .inl (cZ, 36, .inl mb_32)), (qlo, .inl (cI, 9, .inl ((mFind n mh ml mg).2.1))), (qhi, .inl (cI, 9, .inl ((mFind n mh ml mg).2.2))), (qpa, .inl (cI, 6, .inl mp)), (qne, .inl (cI, 6, .inl mx)), (qre, .inl (cI, 6, .inl mr))] H := hP.sub [0, 1, 2, 3, 4, 5, 6, 7, 8, 9, 10] rfl
          have hD : va_D (va_A [(qo, .inr (3, [.int (nI n), .ref qha, .ref qkn, .ref qtr, .int mc, .ref qhv, .ref qbe, .int (nI Q), .ref qlo, .ref qhi, .ref qpa, .ref qne, .ref qre])), (qha, .inl (cZ, 36, .inl mh)), (qkn, .inl (cZ, 36, .inl mk)), (qtr, .inl (cZ, 36, .inl mt)), (qhv, .inl (cI, 36, .inl mv)), (qbe, .inl (cZ, 36, .inl mb)), (qlo, .inl (cI, 9, .inl ml)), (qhi, .inl (cI, 9, .inl mg)), (qpa, .inl (cI, 6, .inl mp)), (qne, .inl (cI, 6, .inl mx)), (qre, .inl (cI, 6, .inl mr))] s.heap.size) [(qo, .inr (3, [.int (nI n), .ref qha, .ref qkn, .ref qtr, .int mc_32, .ref qhv, .ref qbe, .int (nI ((mFind n mh ml mg).1)), .ref qlo, .ref qhi, .ref qpa, .ref qne, .ref qre])), (qha, .inl (cZ, 36, .inl mh)), (qkn, .inl (cZ, 36, .inl mk)), (qtr, .inl (cZ, 36, .inl (mDirect mt_32 ((mFind n mh ml mg).2.1) ((mFind n mh ml mg).2.2) ((mFind n mh ml mg).1) (nI i_32)))), (qhv, .inl (cI, 36, .inl mv_32)), (qbe, .inl (cZ, 36, .inl mb_32)), (qlo, .inl (cI, 9, .inl ((mFind n mh ml mg).2.1))), (qhi, .inl (cI, 9, .inl ((mFind n mh ml mg).2.2))), (qpa, .inl (cI, 6, .inl mp)), (qne, .inl (cI, 6, .inl mx)), (qre, .inl (cI, 6, .inl mr))] := hD.sub [0, 1, 2, 3, 4, 5, 6, 7, 8, 9, 10] (by decide) rfl
          refine lv_aload_n hx hb d_M_goThrough_47 rfl (lv_at hl 1 rfl) ?_
          refine vz_ro (va_runV (As := []) (rest := []) ⟨hx, hb, hml, hown, hT⟩ (c_M_isMember l dC dI cI cZ qo qha qkn qtr qhv qbe qlo qhi qpa qne qre mv_32 mb_32 ((mFind n mh ml mg).2.1) ((mFind n mh ml mg).2.2) mp mx mr mc_32 ((mFind n mh ml mg).1) n mh mk (mDirect mt_32 ((mFind n mh ml mg).2.1) ((mFind n mh ml mg).2.2) ((mFind n mh ml mg).1) (nI i_32)) (by omega)) (vz_cwV (n := 0) hT wd_link_M_110 wd_inst_M_isMember wd_sel_M_isMember wd_ini_M wd_code_M_isMember (by decide +kernel) ⟨Nat.le_of_ble_eq_true rfl, Nat.le_of_ble_eq_true rfl⟩) (vz_pv (q0 := 0) (ci := 3) (q := ("ArrowClassesModel", TM, 13)) hN hK hP [0, 1, 2, 3, 4, 5, 6, 7, 8, 9, 10] rfl rfl rfl) rfl rfl hl.1 rfl (lv_room (Nat.le_of_ble_eq_true rfl)) d_M_goThrough_48 ⟨Nat.zero_le _, Nat.zero_le _⟩) ?_
          refine lv_if_eq (tgt := 138) hx hb d_M_goThrough_51 (by decide) (fun h4 => ?_) (fun h4 => ?_)
          ·
            refine lv_iinc (k := 0) (v := nI (i_32 + 1)) hx hb d_M_goThrough_138 hl rfl (vz_inc i_32) (by decide) rfl (fun ls hl => ?_)
            have hl : lv_has ls 3 [(1, .int (nI (i_32 + 1))), (0, .ref qo)] := hl
            refine lv_goto (tgt := 32) hx hb d_M_goThrough_141 (by decide) ?_
            exact ih_32 (i_32 + 1) mc_32 mv_32 mb_32 (mDirect mt_32 ((mFind n mh ml mg).2.1) ((mFind n mh ml mg).2.2) ((mFind n mh ml mg).1) (nI i_32)) H locs ls (by omega) (by rw [mGo_L32, if_pos h4] at hfin_32; exact hfin_32) hP hD hS (lv_sub hl [0, 1] rfl)
          ·
            refine lv_iconst (v := 0) hx hb d_M_goThrough_54 (by decide) ?_
            refine vz_top (y := nI 0) (by decide) ?_
            refine lv_istore_n hx hb d_M_goThrough_55 rfl hl (by decide) rfl (fun ls hl => ?_)
            have hl : lv_has ls 3 [(2, .int (nI 0)), (1, .int (nI i_32)), (0, .ref qo)] := hl
            have lp_56 : ∀ (k_56 i_56 : Nat) (mv_56 : Nat → Int32) (mb_56 : Nat → Int32) (H : Heap) (locs : List Loc) (ls : Array Slot), i_56 + k_56 = 36 → mGo_L56 n mh mk mt mv mb ml mg mc Q i_11 mv_11 i_32 mc_32 mv_32 mb_32 mt_32 (fun w0 w1 w2 w3 => mGo_L32 n mh mk mt mv mb ml mg mc Q i_11 mv_11 k_32 (i_32 + 1) w0 w1 w2 w3) k_56 i_56 mv_56 mb_56 = (mGo n mh mk mt mv mb ml mg mc Q) → va_P (dC, dI) vwCl [(qo, .inr (3, [.int (nI n), .ref qha, .ref qkn, .ref qtr, .int mc_32, .ref qhv, .ref qbe, .int (nI ((mFind n mh ml mg).1)), .ref qlo, .ref qhi, .ref qpa, .ref qne, .ref qre])), (qha, .inl (cZ, 36, .inl mh)), (qkn, .inl (cZ, 36, .inl mk)), (qtr, .inl (cZ, 36, .inl (mDirect mt_32 ((mFind n mh ml mg).2.1) ((mFind n mh ml mg).2.2) ((mFind n mh ml mg).1) (nI i_32)))), (qhv, .inl (cI, 36, .inl mv_56)), (qbe, .inl (cZ, 36, .inl mb_56)), (qlo, .inl (cI, 9, .inl ((mFind n mh ml mg).2.1))), (qhi, .inl (cI, 9, .inl ((mFind n mh ml mg).2.2))), (qpa, .inl (cI, 6, .inl mp)), (qne, .inl (cI, 6, .inl mx)), (qre, .inl (cI, 6, .inl mr))] H → va_D (va_A [(qo, .inr (3, [.int (nI n), .ref qha, .ref qkn, .ref qtr, .int mc, .ref qhv, .ref qbe, .int (nI Q), .ref qlo, .ref qhi, .ref qpa, .ref qne, .ref qre])), (qha, .inl (cZ, 36, .inl mh)), (qkn, .inl (cZ, 36, .inl mk)), (qtr, .inl (cZ, 36, .inl mt)), (qhv, .inl (cI, 36, .inl mv)), (qbe, .inl (cZ, 36, .inl mb)), (qlo, .inl (cI, 9, .inl ml)), (qhi, .inl (cI, 9, .inl mg)), (qpa, .inl (cI, 6, .inl mp)), (qne, .inl (cI, 6, .inl mx)), (qre, .inl (cI, 6, .inl mr))] s.heap.size) [(qo, .inr (3, [.int (nI n), .ref qha, .ref qkn, .ref qtr, .int mc_32, .ref qhv, .ref qbe, .int (nI ((mFind n mh ml mg).1)), .ref qlo, .ref qhi, .ref qpa, .ref qne, .ref qre])), (qha, .inl (cZ, 36, .inl mh)), (qkn, .inl (cZ, 36, .inl mk)), (qtr, .inl (cZ, 36, .inl (mDirect mt_32 ((mFind n mh ml mg).2.1) ((mFind n mh ml mg).2.2) ((mFind n mh ml mg).1) (nI i_32)))), (qhv, .inl (cI, 36, .inl mv_56)), (qbe, .inl (cZ, 36, .inl mb_56)), (qlo, .inl (cI, 9, .inl ((mFind n mh ml mg).2.1))), (qhi, .inl (cI, 9, .inl ((mFind n mh ml mg).2.2))), (qpa, .inl (cI, 6, .inl mp)), (qne, .inl (cI, 6, .inl mx)), (qre, .inl (cI, 6, .inl mr))] → va_S (va_A [(qo, .inr (3, [.int (nI n), .ref qha, .ref qkn, .ref qtr, .int mc, .ref qhv, .ref qbe, .int (nI Q), .ref qlo, .ref qhi, .ref qpa, .ref qne, .ref qre])), (qha, .inl (cZ, 36, .inl mh)), (qkn, .inl (cZ, 36, .inl mk)), (qtr, .inl (cZ, 36, .inl mt)), (qhv, .inl (cI, 36, .inl mv)), (qbe, .inl (cZ, 36, .inl mb)), (qlo, .inl (cI, 9, .inl ml)), (qhi, .inl (cI, 9, .inl mg)), (qpa, .inl (cI, 6, .inl mp)), (qne, .inl (cI, 6, .inl mx)), (qre, .inl (cI, 6, .inl mr))] s.heap.size) s.heap H locs → lv_has ls 3 [(2, .int (nI i_56)), (1, .int (nI i_32)), (0, .ref qo)] → W p l e (headSpec w_M_goThrough rm_M_goThrough).room s m ([.ref qo] : List Value).toArray below meth c H locs 0 0 (MQ below (va_Qv (fun _ : Unit => True) (fun (_ : Unit) t => va_P (dC, dI) vwCl [(qo, .inr (3, [.int (nI n), .ref qha, .ref qkn, .ref qtr, .int ((mGo n mh mk mt mv mb ml mg mc Q).2.2.2.1), .ref qhv, .ref qbe, .int (nI ((mGo n mh mk mt mv mb ml mg mc Q).1)), .ref qlo, .ref qhi, .ref qpa, .ref qne, .ref qre])), (qha, .inl (cZ, 36, .inl mh)), (qkn, .inl (cZ, 36, .inl mk)), (qtr, .inl (cZ, 36, .inl ((mGo n mh mk mt mv mb ml mg mc Q).2.2.2.2.2.1))), (qhv, .inl (cI, 36, .inl ((mGo n mh mk mt mv mb ml mg mc Q).2.2.2.2.1))), (qbe, .inl (cZ, 36, .inl ((mGo n mh mk mt mv mb ml mg mc Q).2.2.2.2.2.2))), (qlo, .inl (cI, 9, .inl ((mGo n mh mk mt mv mb ml mg mc Q).2.1))), (qhi, .inl (cI, 9, .inl ((mGo n mh mk mt mv mb ml mg mc Q).2.2.1))), (qpa, .inl (cI, 6, .inl mp)), (qne, .inl (cI, 6, .inl mx)), (qre, .inl (cI, 6, .inl mr))] t.heap ∧ va_K (dC, dI) vwCl [(cI, .int), (cZ, .boolean)] t ∧ va_D (va_A [(qo, .inr (3, [.int (nI n), .ref qha, .ref qkn, .ref qtr, .int mc, .ref qhv, .ref qbe, .int (nI Q), .ref qlo, .ref qhi, .ref qpa, .ref qne, .ref qre])), (qha, .inl (cZ, 36, .inl mh)), (qkn, .inl (cZ, 36, .inl mk)), (qtr, .inl (cZ, 36, .inl mt)), (qhv, .inl (cI, 36, .inl mv)), (qbe, .inl (cZ, 36, .inl mb)), (qlo, .inl (cI, 9, .inl ml)), (qhi, .inl (cI, 9, .inl mg)), (qpa, .inl (cI, 6, .inl mp)), (qne, .inl (cI, 6, .inl mx)), (qre, .inl (cI, 6, .inl mr))] s.heap.size) [(qo, .inr (3, [.int (nI n), .ref qha, .ref qkn, .ref qtr, .int ((mGo n mh mk mt mv mb ml mg mc Q).2.2.2.1), .ref qhv, .ref qbe, .int (nI ((mGo n mh mk mt mv mb ml mg mc Q).1)), .ref qlo, .ref qhi, .ref qpa, .ref qne, .ref qre])), (qha, .inl (cZ, 36, .inl mh)), (qkn, .inl (cZ, 36, .inl mk)), (qtr, .inl (cZ, 36, .inl ((mGo n mh mk mt mv mb ml mg mc Q).2.2.2.2.2.1))), (qhv, .inl (cI, 36, .inl ((mGo n mh mk mt mv mb ml mg mc Q).2.2.2.2.1))), (qbe, .inl (cZ, 36, .inl ((mGo n mh mk mt mv mb ml mg mc Q).2.2.2.2.2.2))), (qlo, .inl (cI, 9, .inl ((mGo n mh mk mt mv mb ml mg mc Q).2.1))), (qhi, .inl (cI, 9, .inl ((mGo n mh mk mt mv mb ml mg mc Q).2.2.1))), (qpa, .inl (cI, 6, .inl mp)), (qne, .inl (cI, 6, .inl mx)), (qre, .inl (cI, 6, .inl mr))]) (va_A [(qo, .inr (3, [.int (nI n), .ref qha, .ref qkn, .ref qtr, .int mc, .ref qhv, .ref qbe, .int (nI Q), .ref qlo, .ref qhi, .ref qpa, .ref qne, .ref qre])), (qha, .inl (cZ, 36, .inl mh)), (qkn, .inl (cZ, 36, .inl mk)), (qtr, .inl (cZ, 36, .inl mt)), (qhv, .inl (cI, 36, .inl mv)), (qbe, .inl (cZ, 36, .inl mb)), (qlo, .inl (cI, 9, .inl ml)), (qhi, .inl (cI, 9, .inl mg)), (qpa, .inl (cI, 6, .inl mp)), (qne, .inl (cI, 6, .inl mx)), (qre, .inl (cI, 6, .inl mr))] s.heap.size)) ([.ref qo] : List Value).toArray s 0 0 (va_A [(qo, .inr (3, [.int (nI n), .ref qha, .ref qkn, .ref qtr, .int mc, .ref qhv, .ref qbe, .int (nI Q), .ref qlo, .ref qhi, .ref qpa, .ref qne, .ref qre])), (qha, .inl (cZ, 36, .inl mh)), (qkn, .inl (cZ, 36, .inl mk)), (qtr, .inl (cZ, 36, .inl mt)), (qhv, .inl (cI, 36, .inl mv)), (qbe, .inl (cZ, 36, .inl mb)), (qlo, .inl (cI, 9, .inl ml)), (qhi, .inl (cI, 9, .inl mg)), (qpa, .inl (cI, 6, .inl mp)), (qne, .inl (cI, 6, .inl mx)), (qre, .inl (cI, 6, .inl mr))] s.heap.size)) (F0 m 56 ls []) := by
              intro k_56
              induction k_56 with
              | zero =>
                intro i_56 mv_56 mb_56 H locs ls hik_56 hfin_56 hP hD hS hl
                refine lv_iload_n hx hb d_M_goThrough_56 rfl (lv_at hl 0 rfl) ?_
                refine lv_bipush (v := 36) hx hb d_M_goThrough_57 (by decide) ?_
                refine vz_top (y := nI 36) (by decide) ?_
                refine lv_icmp_ge (tgt := 128) hx hb d_M_goThrough_59 (by decide) (fun _ => ?_) (fun h5 => by rw [nI_leI (by omega) (by omega)] at h5; omega)
                refine lv_aload_n hx hb d_M_goThrough_128 rfl (lv_at hl 2 rfl) ?_
                refine lv_dup hx hb d_M_goThrough_129 rfl ?_
                refine va_get (D := (dC, dI)) (ci := 3) (v := .int mc_32) (C := "ArrowClassesModel") (T := TM) (N := 13) hx hb hT inM hown hK hP 0 rfl rfl 4 (by decide) (hT _ wd_fld_M_103) (fun _ h9 => h9) rfl d_M_goThrough_130 ?_
                refine lv_iconst (v := 1) hx hb d_M_goThrough_133 (by decide) ?_
                refine lv_iadd hx hb d_M_goThrough_134 ?_
                refine va_put (D := (dC, dI)) (ci := 3) (v := .int (mc_32 + 1)) (ty := .int) (C := "ArrowClassesModel") (T := TM) (N := 13) hx hb hT inM tyM okM nmM hown hK hP hD hS 0 rfl rfl 4 (by decide) (hT _ wd_fld_M_103) (fun _ h9 => h9) rfl (by decide +kernel) rfl rfl (Nat.le_of_ble_eq_true rfl) d_M_goThrough_135 (fun H locs hP hD hS => ?_)
                have hP : va_P (dC, dI) vwCl [(qo, .inr (3, [.int (nI n), .ref qha, .ref qkn, .ref qtr, .int (mc_32 + 1), .ref qhv, .ref qbe, .int (nI ((mFind n mh ml mg).1)), .ref qlo, .ref qhi, .ref qpa, .ref qne, .ref qre])), (qha, .inl (cZ, 36, .inl mh)), (qkn, .inl (cZ, 36, .inl mk)), (qtr, .inl (cZ, 36, .inl (mDirect mt_32 ((mFind n mh ml mg).2.1) ((mFind n mh ml mg).2.2) ((mFind n mh ml mg).1) (nI i_32)))), (qhv, .inl (cI, 36, .inl mv_56)), (qbe, .inl (cZ, 36, .inl mb_56)), (qlo, .inl (cI, 9, .inl ((mFind n mh ml mg).2.1))), (qhi, .inl (cI, 9, .inl ((mFind n mh ml mg).2.2))), (qpa, .inl (cI, 6, .inl mp)), (qne, .inl (cI, 6, .inl mx)), (qre, .inl (cI, 6, .inl mr))] H := hP
                have hD : va_D (va_A [(qo, .inr (3, [.int (nI n), .ref qha, .ref qkn, .ref qtr, .int mc, .ref qhv, .ref qbe, .int (nI Q), .ref qlo, .ref qhi, .ref qpa, .ref qne, .ref qre])), (qha, .inl (cZ, 36, .inl mh)), (qkn, .inl (cZ, 36, .inl mk)), (qtr, .inl (cZ, 36, .inl mt)), (qhv, .inl (cI, 36, .inl mv)), (qbe, .inl (cZ, 36, .inl mb)), (qlo, .inl (cI, 9, .inl ml)), (qhi, .inl (cI, 9, .inl mg)), (qpa, .inl (cI, 6, .inl mp)), (qne, .inl (cI, 6, .inl mx)), (qre, .inl (cI, 6, .inl mr))] s.heap.size) [(qo, .inr (3, [.int (nI n), .ref qha, .ref qkn, .ref qtr, .int (mc_32 + 1), .ref qhv, .ref qbe, .int (nI ((mFind n mh ml mg).1)), .ref qlo, .ref qhi, .ref qpa, .ref qne, .ref qre])), (qha, .inl (cZ, 36, .inl mh)), (qkn, .inl (cZ, 36, .inl mk)), (qtr, .inl (cZ, 36, .inl (mDirect mt_32 ((mFind n mh ml mg).2.1) ((mFind n mh ml mg).2.2) ((mFind n mh ml mg).1) (nI i_32)))), (qhv, .inl (cI, 36, .inl mv_56)), (qbe, .inl (cZ, 36, .inl mb_56)), (qlo, .inl (cI, 9, .inl ((mFind n mh ml mg).2.1))), (qhi, .inl (cI, 9, .inl ((mFind n mh ml mg).2.2))), (qpa, .inl (cI, 6, .inl mp)), (qne, .inl (cI, 6, .inl mx)), (qre, .inl (cI, 6, .inl mr))] := hD
                refine lv_iinc (k := 1) (v := nI (i_32 + 1)) hx hb d_M_goThrough_138 hl rfl (vz_inc i_32) (by decide) rfl (fun ls hl => ?_)
                have hl : lv_has ls 3 [(1, .int (nI (i_32 + 1))), (2, .int (nI i_56)), (0, .ref qo)] := hl
                refine lv_goto (tgt := 32) hx hb d_M_goThrough_141 (by decide) ?_
                exact ih_32 (i_32 + 1) (mc_32 + 1) mv_56 mb_56 (mDirect mt_32 ((mFind n mh ml mg).2.1) ((mFind n mh ml mg).2.2) ((mFind n mh ml mg).1) (nI i_32)) H locs ls (by omega) (by rw [mGo_L56] at hfin_56; exact hfin_56) hP hD hS (lv_sub hl [0, 2] rfl)
              | succ k_56 ih_56 =>
                intro i_56 mv_56 mb_56 H locs ls hik_56 hfin_56 hP hD hS hl
                refine lv_iload_n hx hb d_M_goThrough_56 rfl (lv_at hl 0 rfl) ?_
                refine lv_bipush (v := 36) hx hb d_M_goThrough_57 (by decide) ?_
                refine vz_top (y := nI 36) (by decide) ?_
                refine lv_icmp_ge (tgt := 128) hx hb d_M_goThrough_59 (by decide) (fun h6 => by rw [nI_leI (by omega) (by omega)] at h6; omega) (fun _ => ?_)
                refine lv_aload_n hx hb d_M_goThrough_62 rfl (lv_at hl 2 rfl) ?_
                refine va_get (D := (dC, dI)) (ci := 3) (v := .ref qbe) (C := "ArrowClassesModel") (T := TM) (N := 13) hx hb hT inM hown hK hP 0 rfl rfl 6 (by decide) (hT _ wd_fld_M_23) (fun _ h9 => h9) rfl d_M_goThrough_63 ?_
                refine lv_iload_n hx hb d_M_goThrough_66 rfl (lv_at hl 0 rfl) ?_
                refine lv_aload_n hx hb d_M_goThrough_67 rfl (lv_at hl 2 rfl) ?_
                refine va_get (D := (dC, dI)) (ci := 3) (v := .int mc_32) (C := "ArrowClassesModel") (T := TM) (N := 13) hx hb hT inM hown hK hP 0 rfl rfl 4 (by decide) (hT _ wd_fld_M_103) (fun _ h9 => h9) rfl d_M_goThrough_68 ?_
                refine lv_if_ne (tgt := 83) hx hb d_M_goThrough_71 (by decide) (fun h7 => ?_) (fun h7 => ?_)
                ·
                  refine lv_aload_n hx hb d_M_goThrough_83 rfl (lv_at hl 2 rfl) ?_
                  refine va_get (D := (dC, dI)) (ci := 3) (v := .ref qbe) (C := "ArrowClassesModel") (T := TM) (N := 13) hx hb hT inM hown hK hP 0 rfl rfl 6 (by decide) (hT _ wd_fld_M_23) (fun _ h9 => h9) rfl d_M_goThrough_84 ?_
                  refine lv_iload_n hx hb d_M_goThrough_87 rfl (lv_at hl 0 rfl) ?_
                  refine va_zald (D := (dC, dI)) hx hb hK hP 5 1 rfl rfl (vp_in_nI (by omega) (by omega)) d_M_goThrough_88 ?_
                  refine va_zast (D := (dC, dI)) hx hb hK hP hD hS 5 1 rfl rfl (vp_in_nI (by omega) (by omega)) d_M_goThrough_89 (fun H locs hP hD hS => ?_)
                  have hP : va_P (dC, dI) vwCl [(qo, .inr (3, [.int (nI n), .ref qha, .ref qkn, .ref qtr, .int mc_32, .ref qhv, .ref qbe, .int (nI ((mFind n mh ml mg).1)), .ref qlo, .ref qhi, .ref qpa, .ref qne, .ref qre])), (qha, .inl (cZ, 36, .inl mh)), (qkn, .inl (cZ, 36, .inl mk)), (qtr, .inl (cZ, 36, .inl (mDirect mt_32 ((mFind n mh ml mg).2.1) ((mFind n mh ml mg).2.2) ((mFind n mh ml mg).1) (nI i_32)))), (qhv, .inl (cI, 36, .inl mv_56)), (qbe, .inl (cZ, 36, .inl (upd mb_56 (nI i_56).toNatClampNeg (vp_nar .boolean (mb_56 (nI i_56).toNatClampNeg))))), (qlo, .inl (cI, 9, .inl ((mFind n mh ml mg).2.1))), (qhi, .inl (cI, 9, .inl ((mFind n mh ml mg).2.2))), (qpa, .inl (cI, 6, .inl mp)), (qne, .inl (cI, 6, .inl mx)), (qre, .inl (cI, 6, .inl mr))] H := hP
                  have hD : va_D (va_A [(qo, .inr (3, [.int (nI n), .ref qha, .ref qkn, .ref qtr, .int mc, .ref qhv, .ref qbe, .int (nI Q), .ref qlo, .ref qhi, .ref qpa, .ref qne, .ref qre])), (qha, .inl (cZ, 36, .inl mh)), (qkn, .inl (cZ, 36, .inl mk)), (qtr, .inl (cZ, 36, .inl mt)), (qhv, .inl (cI, 36, .inl mv)), (qbe, .inl (cZ, 36, .inl mb)), (qlo, .inl (cI, 9, .inl ml)), (qhi, .inl (cI, 9, .inl mg)), (qpa, .inl (cI, 6, .inl mp)), (qne, .inl (cI, 6, .inl mx)), (qre, .inl (cI, 6, .inl mr))] s.heap.size) [(qo, .inr (3, [.int (nI n), .ref qha, .ref qkn, .ref qtr, .int mc_32, .ref qhv, .ref qbe, .int (nI ((mFind n mh ml mg).1)), .ref qlo, .ref qhi, .ref qpa, .ref qne, .ref qre])), (qha, .inl (cZ, 36, .inl mh)), (qkn, .inl (cZ, 36, .inl mk)), (qtr, .inl (cZ, 36, .inl (mDirect mt_32 ((mFind n mh ml mg).2.1) ((mFind n mh ml mg).2.2) ((mFind n mh ml mg).1) (nI i_32)))), (qhv, .inl (cI, 36, .inl mv_56)), (qbe, .inl (cZ, 36, .inl (upd mb_56 (nI i_56).toNatClampNeg (vp_nar .boolean (mb_56 (nI i_56).toNatClampNeg))))), (qlo, .inl (cI, 9, .inl ((mFind n mh ml mg).2.1))), (qhi, .inl (cI, 9, .inl ((mFind n mh ml mg).2.2))), (qpa, .inl (cI, 6, .inl mp)), (qne, .inl (cI, 6, .inl mx)), (qre, .inl (cI, 6, .inl mr))] := hD
                  refine lv_aload_n hx hb d_M_goThrough_90 rfl (lv_at hl 2 rfl) ?_
                  refine va_get (D := (dC, dI)) (ci := 3) (v := .ref qhv) (C := "ArrowClassesModel") (T := TM) (N := 13) hx hb hT inM hown hK hP 0 rfl rfl 5 (by decide) (hT _ wd_fld_M_19) (fun _ h9 => h9) rfl d_M_goThrough_91 ?_
                  refine lv_iload_n hx hb d_M_goThrough_94 rfl (lv_at hl 0 rfl) ?_
                  refine lv_aload_n hx hb d_M_goThrough_95 rfl (lv_at hl 2 rfl) ?_
                  refine va_get (D := (dC, dI)) (ci := 3) (v := .ref qtr) (C := "ArrowClassesModel") (T := TM) (N := 13) hx hb hT inM hown hK hP 0 rfl rfl 3 (by decide) (hT _ wd_fld_M_16) (fun _ h9 => h9) rfl d_M_goThrough_96 ?_
                  refine lv_iload_n hx hb d_M_goThrough_99 rfl (lv_at hl 0 rfl) ?_
                  refine va_zald (D := (dC, dI)) hx hb hK hP 3 1 rfl rfl (vp_in_nI (by omega) (by omega)) d_M_goThrough_100 ?_
                  refine lv_if_eq (tgt := 115) hx hb d_M_goThrough_101 (by decide) (fun h8 => ?_) (fun h8 => ?_)
                  ·
                    refine lv_aload_n hx hb d_M_goThrough_115 rfl (lv_at hl 2 rfl) ?_
                    refine va_get (D := (dC, dI)) (ci := 3) (v := .ref qhv) (C := "ArrowClassesModel") (T := TM) (N := 13) hx hb hT inM hown hK hP 0 rfl rfl 5 (by decide) (hT _ wd_fld_M_19) (fun _ h9 => h9) rfl d_M_goThrough_116 ?_
                    refine lv_iload_n hx hb d_M_goThrough_119 rfl (lv_at hl 0 rfl) ?_
                    refine va_iald (D := (dC, dI)) hx hb hK hP 4 0 rfl rfl (vp_in_nI (by omega) (by omega)) d_M_goThrough_120 ?_
                    refine va_iast (D := (dC, dI)) hx hb hK hP hD hS 4 0 rfl rfl (vp_in_nI (by omega) (by omega)) d_M_goThrough_121 (fun H locs hP hD hS => ?_)
                    have hP : va_P (dC, dI) vwCl [(qo, .inr (3, [.int (nI n), .ref qha, .ref qkn, .ref qtr, .int mc_32, .ref qhv, .ref qbe, .int (nI ((mFind n mh ml mg).1)), .ref qlo, .ref qhi, .ref qpa, .ref qne, .ref qre])), (qha, .inl (cZ, 36, .inl mh)), (qkn, .inl (cZ, 36, .inl mk)), (qtr, .inl (cZ, 36, .inl (mDirect mt_32 ((mFind n mh ml mg).2.1) ((mFind n mh ml mg).2.2) ((mFind n mh ml mg).1) (nI i_32)))), (qhv, .inl (cI, 36, .inl (upd mv_56 (nI i_56).toNatClampNeg (mv_56 (nI i_56).toNatClampNeg)))), (qbe, .inl (cZ, 36, .inl (upd mb_56 (nI i_56).toNatClampNeg (vp_nar .boolean (mb_56 (nI i_56).toNatClampNeg))))), (qlo, .inl (cI, 9, .inl ((mFind n mh ml mg).2.1))), (qhi, .inl (cI, 9, .inl ((mFind n mh ml mg).2.2))), (qpa, .inl (cI, 6, .inl mp)), (qne, .inl (cI, 6, .inl mx)), (qre, .inl (cI, 6, .inl mr))] H := hP
                    have hD : va_D (va_A [(qo, .inr (3, [.int (nI n), .ref qha, .ref qkn, .ref qtr, .int mc, .ref qhv, .ref qbe, .int (nI Q), .ref qlo, .ref qhi, .ref qpa, .ref qne, .ref qre])), (qha, .inl (cZ, 36, .inl mh)), (qkn, .inl (cZ, 36, .inl mk)), (qtr, .inl (cZ, 36, .inl mt)), (qhv, .inl (cI, 36, .inl mv)), (qbe, .inl (cZ, 36, .inl mb)), (qlo, .inl (cI, 9, .inl ml)), (qhi, .inl (cI, 9, .inl mg)), (qpa, .inl (cI, 6, .inl mp)), (qne, .inl (cI, 6, .inl mx)), (qre, .inl (cI, 6, .inl mr))] s.heap.size) [(qo, .inr (3, [.int (nI n), .ref qha, .ref qkn, .ref qtr, .int mc_32, .ref qhv, .ref qbe, .int (nI ((mFind n mh ml mg).1)), .ref qlo, .ref qhi, .ref qpa, .ref qne, .ref qre])), (qha, .inl (cZ, 36, .inl mh)), (qkn, .inl (cZ, 36, .inl mk)), (qtr, .inl (cZ, 36, .inl (mDirect mt_32 ((mFind n mh ml mg).2.1) ((mFind n mh ml mg).2.2) ((mFind n mh ml mg).1) (nI i_32)))), (qhv, .inl (cI, 36, .inl (upd mv_56 (nI i_56).toNatClampNeg (mv_56 (nI i_56).toNatClampNeg)))), (qbe, .inl (cZ, 36, .inl (upd mb_56 (nI i_56).toNatClampNeg (vp_nar .boolean (mb_56 (nI i_56).toNatClampNeg))))), (qlo, .inl (cI, 9, .inl ((mFind n mh ml mg).2.1))), (qhi, .inl (cI, 9, .inl ((mFind n mh ml mg).2.2))), (qpa, .inl (cI, 6, .inl mp)), (qne, .inl (cI, 6, .inl mx)), (qre, .inl (cI, 6, .inl mr))] := hD
                    refine lv_iinc (k := 0) (v := nI (i_56 + 1)) hx hb d_M_goThrough_122 hl rfl (vz_inc i_56) (by decide) rfl (fun ls hl => ?_)
                    have hl : lv_has ls 3 [(2, .int (nI (i_56 + 1))), (1, .int (nI i_32)), (0, .ref qo)] := hl
                    refine lv_goto (tgt := 56) hx hb d_M_goThrough_125 (by decide) ?_
                    exact ih_56 (i_56 + 1) (upd mv_56 (nI i_56).toNatClampNeg (mv_56 (nI i_56).toNatClampNeg)) (upd mb_56 (nI i_56).toNatClampNeg (vp_nar .boolean (mb_56 (nI i_56).toNatClampNeg))) H locs ls (by omega) (by rw [mGo_L56, if_neg h7, if_pos h8] at hfin_56; exact hfin_56) hP hD hS (lv_sub hl [0, 1, 2] rfl)
                  ·
                    refine lv_aload_n hx hb d_M_goThrough_104 rfl (lv_at hl 2 rfl) ?_
                    refine va_get (D := (dC, dI)) (ci := 3) (v := .ref qhv) (C := "ArrowClassesModel") (T := TM) (N := 13) hx hb hT inM hown hK hP 0 rfl rfl 5 (by decide) (hT _ wd_fld_M_19) (fun _ h9 => h9) rfl d_M_goThrough_105 ?_
                    refine lv_iload_n hx hb d_M_goThrough_108 rfl (lv_at hl 0 rfl) ?_
                    refine va_iald (D := (dC, dI)) hx hb hK hP 4 0 rfl rfl (vp_in_nI (by omega) (by omega)) d_M_goThrough_109 ?_
                    refine lv_iconst (v := 1) hx hb d_M_goThrough_110 (by decide) ?_
                    refine lv_iadd hx hb d_M_goThrough_111 ?_
                    refine lv_goto (tgt := 121) hx hb d_M_goThrough_112 (by decide) ?_
                    refine va_iast (D := (dC, dI)) hx hb hK hP hD hS 4 0 rfl rfl (vp_in_nI (by omega) (by omega)) d_M_goThrough_121 (fun H locs hP hD hS => ?_)
                    have hP : va_P (dC, dI) vwCl [(qo, .inr (3, [.int (nI n), .ref qha, .ref qkn, .ref qtr, .int mc_32, .ref qhv, .ref qbe, .int (nI ((mFind n mh ml mg).1)), .ref qlo, .ref qhi, .ref qpa, .ref qne, .ref qre])), (qha, .inl (cZ, 36, .inl mh)), (qkn, .inl (cZ, 36, .inl mk)), (qtr, .inl (cZ, 36, .inl (mDirect mt_32 ((mFind n mh ml mg).2.1) ((mFind n mh ml mg).2.2) ((mFind n mh ml mg).1) (nI i_32)))), (qhv, .inl (cI, 36, .inl (upd mv_56 (nI i_56).toNatClampNeg ((mv_56 (nI i_56).toNatClampNeg) + 1)))), (qbe, .inl (cZ, 36, .inl (upd mb_56 (nI i_56).toNatClampNeg (vp_nar .boolean (mb_56 (nI i_56).toNatClampNeg))))), (qlo, .inl (cI, 9, .inl ((mFind n mh ml mg).2.1))), (qhi, .inl (cI, 9, .inl ((mFind n mh ml mg).2.2))), (qpa, .inl (cI, 6, .inl mp)), (qne, .inl (cI, 6, .inl mx)), (qre, .inl (cI, 6, .inl mr))] H := hP
                    have hD : va_D (va_A [(qo, .inr (3, [.int (nI n), .ref qha, .ref qkn, .ref qtr, .int mc, .ref qhv, .ref qbe, .int (nI Q), .ref qlo, .ref qhi, .ref qpa, .ref qne, .ref qre])), (qha, .inl (cZ, 36, .inl mh)), (qkn, .inl (cZ, 36, .inl mk)), (qtr, .inl (cZ, 36, .inl mt)), (qhv, .inl (cI, 36, .inl mv)), (qbe, .inl (cZ, 36, .inl mb)), (qlo, .inl (cI, 9, .inl ml)), (qhi, .inl (cI, 9, .inl mg)), (qpa, .inl (cI, 6, .inl mp)), (qne, .inl (cI, 6, .inl mx)), (qre, .inl (cI, 6, .inl mr))] s.heap.size) [(qo, .inr (3, [.int (nI n), .ref qha, .ref qkn, .ref qtr, .int mc_32, .ref qhv, .ref qbe, .int (nI ((mFind n mh ml mg).1)), .ref qlo, .ref qhi, .ref qpa, .ref qne, .ref qre])), (qha, .inl (cZ, 36, .inl mh)), (qkn, .inl (cZ, 36, .inl mk)), (qtr, .inl (cZ, 36, .inl (mDirect mt_32 ((mFind n mh ml mg).2.1) ((mFind n mh ml mg).2.2) ((mFind n mh ml mg).1) (nI i_32)))), (qhv, .inl (cI, 36, .inl (upd mv_56 (nI i_56).toNatClampNeg ((mv_56 (nI i_56).toNatClampNeg) + 1)))), (qbe, .inl (cZ, 36, .inl (upd mb_56 (nI i_56).toNatClampNeg (vp_nar .boolean (mb_56 (nI i_56).toNatClampNeg))))), (qlo, .inl (cI, 9, .inl ((mFind n mh ml mg).2.1))), (qhi, .inl (cI, 9, .inl ((mFind n mh ml mg).2.2))), (qpa, .inl (cI, 6, .inl mp)), (qne, .inl (cI, 6, .inl mx)), (qre, .inl (cI, 6, .inl mr))] := hD
                    refine lv_iinc (k := 0) (v := nI (i_56 + 1)) hx hb d_M_goThrough_122 hl rfl (vz_inc i_56) (by decide) rfl (fun ls hl => ?_)
                    have hl : lv_has ls 3 [(2, .int (nI (i_56 + 1))), (1, .int (nI i_32)), (0, .ref qo)] := hl
                    refine lv_goto (tgt := 56) hx hb d_M_goThrough_125 (by decide) ?_
                    exact ih_56 (i_56 + 1) (upd mv_56 (nI i_56).toNatClampNeg ((mv_56 (nI i_56).toNatClampNeg) + 1)) (upd mb_56 (nI i_56).toNatClampNeg (vp_nar .boolean (mb_56 (nI i_56).toNatClampNeg))) H locs ls (by omega) (by rw [mGo_L56, if_neg h7, if_neg h8] at hfin_56; exact hfin_56) hP hD hS (lv_sub hl [0, 1, 2] rfl)
                ·
                  refine lv_aload_n hx hb d_M_goThrough_74 rfl (lv_at hl 2 rfl) ?_
                  refine va_get (D := (dC, dI)) (ci := 3) (v := .ref qtr) (C := "ArrowClassesModel") (T := TM) (N := 13) hx hb hT inM hown hK hP 0 rfl rfl 3 (by decide) (hT _ wd_fld_M_16) (fun _ h9 => h9) rfl d_M_goThrough_75 ?_
                  refine lv_iload_n hx hb d_M_goThrough_78 rfl (lv_at hl 0 rfl) ?_
                  refine va_zald (D := (dC, dI)) hx hb hK hP 3 1 rfl rfl (vp_in_nI (by omega) (by omega)) d_M_goThrough_79 ?_
                  refine lv_goto (tgt := 89) hx hb d_M_goThrough_80 (by decide) ?_
                  refine va_zast (D := (dC, dI)) hx hb hK hP hD hS 5 1 rfl rfl (vp_in_nI (by omega) (by omega)) d_M_goThrough_89 (fun H locs hP hD hS => ?_)
                  have hP : va_P (dC, dI) vwCl [(qo, .inr (3, [.int (nI n), .ref qha, .ref qkn, .ref qtr, .int mc_32, .ref qhv, .ref qbe, .int (nI ((mFind n mh ml mg).1)), .ref qlo, .ref qhi, .ref qpa, .ref qne, .ref qre])), (qha, .inl (cZ, 36, .inl mh)), (qkn, .inl (cZ, 36, .inl mk)), (qtr, .inl (cZ, 36, .inl (mDirect mt_32 ((mFind n mh ml mg).2.1) ((mFind n mh ml mg).2.2) ((mFind n mh ml mg).1) (nI i_32)))), (qhv, .inl (cI, 36, .inl mv_56)), (qbe, .inl (cZ, 36, .inl (upd mb_56 (nI i_56).toNatClampNeg (vp_nar .boolean ((mDirect mt_32 ((mFind n mh ml mg).2.1) ((mFind n mh ml mg).2.2) ((mFind n mh ml mg).1) (nI i_32)) (nI i_56).toNatClampNeg))))), (qlo, .inl (cI, 9, .inl ((mFind n mh ml mg).2.1))), (qhi, .inl (cI, 9, .inl ((mFind n mh ml mg).2.2))), (qpa, .inl (cI, 6, .inl mp)), (qne, .inl (cI, 6, .inl mx)), (qre, .inl (cI, 6, .inl mr))] H := hP
                  have hD : va_D (va_A [(qo, .inr (3, [.int (nI n), .ref qha, .ref qkn, .ref qtr, .int mc, .ref qhv, .ref qbe, .int (nI Q), .ref qlo, .ref qhi, .ref qpa, .ref qne, .ref qre])), (qha, .inl (cZ, 36, .inl mh)), (qkn, .inl (cZ, 36, .inl mk)), (qtr, .inl (cZ, 36, .inl mt)), (qhv, .inl (cI, 36, .inl mv)), (qbe, .inl (cZ, 36, .inl mb)), (qlo, .inl (cI, 9, .inl ml)), (qhi, .inl (cI, 9, .inl mg)), (qpa, .inl (cI, 6, .inl mp)), (qne, .inl (cI, 6, .inl mx)), (qre, .inl (cI, 6, .inl mr))] s.heap.size) [(qo, .inr (3, [.int (nI n), .ref qha, .ref qkn, .ref qtr, .int mc_32, .ref qhv, .ref qbe, .int (nI ((mFind n mh ml mg).1)), .ref qlo, .ref qhi, .ref qpa, .ref qne, .ref qre])), (qha, .inl (cZ, 36, .inl mh)), (qkn, .inl (cZ, 36, .inl mk)), (qtr, .inl (cZ, 36, .inl (mDirect mt_32 ((mFind n mh ml mg).2.1) ((mFind n mh ml mg).2.2) ((mFind n mh ml mg).1) (nI i_32)))), (qhv, .inl (cI, 36, .inl mv_56)), (qbe, .inl (cZ, 36, .inl (upd mb_56 (nI i_56).toNatClampNeg (vp_nar .boolean ((mDirect mt_32 ((mFind n mh ml mg).2.1) ((mFind n mh ml mg).2.2) ((mFind n mh ml mg).1) (nI i_32)) (nI i_56).toNatClampNeg))))), (qlo, .inl (cI, 9, .inl ((mFind n mh ml mg).2.1))), (qhi, .inl (cI, 9, .inl ((mFind n mh ml mg).2.2))), (qpa, .inl (cI, 6, .inl mp)), (qne, .inl (cI, 6, .inl mx)), (qre, .inl (cI, 6, .inl mr))] := hD
                  refine lv_aload_n hx hb d_M_goThrough_90 rfl (lv_at hl 2 rfl) ?_
                  refine va_get (D := (dC, dI)) (ci := 3) (v := .ref qhv) (C := "ArrowClassesModel") (T := TM) (N := 13) hx hb hT inM hown hK hP 0 rfl rfl 5 (by decide) (hT _ wd_fld_M_19) (fun _ h9 => h9) rfl d_M_goThrough_91 ?_
                  refine lv_iload_n hx hb d_M_goThrough_94 rfl (lv_at hl 0 rfl) ?_
                  refine lv_aload_n hx hb d_M_goThrough_95 rfl (lv_at hl 2 rfl) ?_
                  refine va_get (D := (dC, dI)) (ci := 3) (v := .ref qtr) (C := "ArrowClassesModel") (T := TM) (N := 13) hx hb hT inM hown hK hP 0 rfl rfl 3 (by decide) (hT _ wd_fld_M_16) (fun _ h9 => h9) rfl d_M_goThrough_96 ?_
                  refine lv_iload_n hx hb d_M_goThrough_99 rfl (lv_at hl 0 rfl) ?_
                  refine va_zald (D := (dC, dI)) hx hb hK hP 3 1 rfl rfl (vp_in_nI (by omega) (by omega)) d_M_goThrough_100 ?_
                  refine lv_if_eq (tgt := 115) hx hb d_M_goThrough_101 (by decide) (fun h9 => ?_) (fun h9 => ?_)
                  ·
                    refine lv_aload_n hx hb d_M_goThrough_115 rfl (lv_at hl 2 rfl) ?_
                    refine va_get (D := (dC, dI)) (ci := 3) (v := .ref qhv) (C := "ArrowClassesModel") (T := TM) (N := 13) hx hb hT inM hown hK hP 0 rfl rfl 5 (by decide) (hT _ wd_fld_M_19) (fun _ h9 => h9) rfl d_M_goThrough_116 ?_
                    refine lv_iload_n hx hb d_M_goThrough_119 rfl (lv_at hl 0 rfl) ?_
                    refine va_iald (D := (dC, dI)) hx hb hK hP 4 0 rfl rfl (vp_in_nI (by omega) (by omega)) d_M_goThrough_120 ?_
                    refine va_iast (D := (dC, dI)) hx hb hK hP hD hS 4 0 rfl rfl (vp_in_nI (by omega) (by omega)) d_M_goThrough_121 (fun H locs hP hD hS => ?_)
                    have hP : va_P (dC, dI) vwCl [(qo, .inr (3, [.int (nI n), .ref qha, .ref qkn, .ref qtr, .int mc_32, .ref qhv, .ref qbe, .int (nI ((mFind n mh ml mg).1)), .ref qlo, .ref qhi, .ref qpa, .ref qne, .ref qre])), (qha, .inl (cZ, 36, .inl mh)), (qkn, .inl (cZ, 36, .inl mk)), (qtr, .inl (cZ, 36, .inl (mDirect mt_32 ((mFind n mh ml mg).2.1) ((mFind n mh ml mg).2.2) ((mFind n mh ml mg).1) (nI i_32)))), (qhv, .inl (cI, 36, .inl (upd mv_56 (nI i_56).toNatClampNeg (mv_56 (nI i_56).toNatClampNeg)))), (qbe, .inl (cZ, 36, .inl (upd mb_56 (nI i_56).toNatClampNeg (vp_nar .boolean ((mDirect mt_32 ((mFind n mh ml mg).2.1) ((mFind n mh ml mg).2.2) ((mFind n mh ml mg).1) (nI i_32)) (nI i_56).toNatClampNeg))))), (qlo, .inl (cI, 9, .inl ((mFind n mh ml mg).2.1))), (qhi, .inl (cI, 9, .inl ((mFind n mh ml mg).2.2))), (qpa, .inl (cI, 6, .inl mp)), (qne, .inl (cI, 6, .inl mx)), (qre, .inl (cI, 6, .inl mr))] H := hP
                    have hD : va_D (va_A [(qo, .inr (3, [.int (nI n), .ref qha, .ref qkn, .ref qtr, .int mc, .ref qhv, .ref qbe, .int (nI Q), .ref qlo, .ref qhi, .ref qpa, .ref qne, .ref qre])), (qha, .inl (cZ, 36, .inl mh)), (qkn, .inl (cZ, 36, .inl mk)), (qtr, .inl (cZ, 36, .inl mt)), (qhv, .inl (cI, 36, .inl mv)), (qbe, .inl (cZ, 36, .inl mb)), (qlo, .inl (cI, 9, .inl ml)), (qhi, .inl (cI, 9, .inl mg)), (qpa, .inl (cI, 6, .inl mp)), (qne, .inl (cI, 6, .inl mx)), (qre, .inl (cI, 6, .inl mr))] s.heap.size) [(qo, .inr (3, [.int (nI n), .ref qha, .ref qkn, .ref qtr, .int mc_32, .ref qhv, .ref qbe, .int (nI ((mFind n mh ml mg).1)), .ref qlo, .ref qhi, .ref qpa, .ref qne, .ref qre])), (qha, .inl (cZ, 36, .inl mh)), (qkn, .inl (cZ, 36, .inl mk)), (qtr, .inl (cZ, 36, .inl (mDirect mt_32 ((mFind n mh ml mg).2.1) ((mFind n mh ml mg).2.2) ((mFind n mh ml mg).1) (nI i_32)))), (qhv, .inl (cI, 36, .inl (upd mv_56 (nI i_56).toNatClampNeg (mv_56 (nI i_56).toNatClampNeg)))), (qbe, .inl (cZ, 36, .inl (upd mb_56 (nI i_56).toNatClampNeg (vp_nar .boolean ((mDirect mt_32 ((mFind n mh ml mg).2.1) ((mFind n mh ml mg).2.2) ((mFind n mh ml mg).1) (nI i_32)) (nI i_56).toNatClampNeg))))), (qlo, .inl (cI, 9, .inl ((mFind n mh ml mg).2.1))), (qhi, .inl (cI, 9, .inl ((mFind n mh ml mg).2.2))), (qpa, .inl (cI, 6, .inl mp)), (qne, .inl (cI, 6, .inl mx)), (qre, .inl (cI, 6, .inl mr))] := hD
                    refine lv_iinc (k := 0) (v := nI (i_56 + 1)) hx hb d_M_goThrough_122 hl rfl (vz_inc i_56) (by decide) rfl (fun ls hl => ?_)
                    have hl : lv_has ls 3 [(2, .int (nI (i_56 + 1))), (1, .int (nI i_32)), (0, .ref qo)] := hl
                    refine lv_goto (tgt := 56) hx hb d_M_goThrough_125 (by decide) ?_
                    exact ih_56 (i_56 + 1) (upd mv_56 (nI i_56).toNatClampNeg (mv_56 (nI i_56).toNatClampNeg)) (upd mb_56 (nI i_56).toNatClampNeg (vp_nar .boolean ((mDirect mt_32 ((mFind n mh ml mg).2.1) ((mFind n mh ml mg).2.2) ((mFind n mh ml mg).1) (nI i_32)) (nI i_56).toNatClampNeg))) H locs ls (by omega) (by rw [mGo_L56, if_pos h7, if_pos h9] at hfin_56; exact hfin_56) hP hD hS (lv_sub hl [0, 1, 2] rfl)
                  ·
                    refine lv_aload_n hx hb d_M_goThrough_104 rfl (lv_at hl 2 rfl) ?_
                    refine va_get (D := (dC, dI)) (ci := 3) (v := .ref qhv) (C := "ArrowClassesModel") (T := TM) (N := 13) hx hb hT inM hown hK hP 0 rfl rfl 5 (by decide) (hT _ wd_fld_M_19) (fun _ h9 => h9) rfl d_M_goThrough_105 ?_
                    refine lv_iload_n hx hb d_M_goThrough_108 rfl (lv_at hl 0 rfl) ?_
                    refine va_iald (D := (dC, dI)) hx hb hK hP 4 0 rfl rfl (vp_in_nI (by omega) (by omega)) d_M_goThrough_109 ?_
                    refine lv_iconst (v := 1) hx hb d_M_goThrough_110 (by decide) ?_
                    refine lv_iadd hx hb d_M_goThrough_111 ?_
                    refine lv_goto (tgt := 121) hx hb d_M_goThrough_112 (by decide) ?_
                    refine va_iast (D := (dC, dI)) hx hb hK hP hD hS 4 0 rfl rfl (vp_in_nI (by omega) (by omega)) d_M_goThrough_121 (fun H locs hP hD hS => ?_)
                    have hP : va_P (dC, dI) vwCl [(qo, .inr (3, [.int (nI n), .ref qha, .ref qkn, .ref qtr, .int mc_32, .ref qhv, .ref qbe, .int (nI ((mFind n mh ml mg).1)), .ref qlo, .ref qhi, .ref qpa, .ref qne, .ref qre])), (qha, .inl (cZ, 36, .inl mh)), (qkn, .inl (cZ, 36, .inl mk)), (qtr, .inl (cZ, 36, .inl (mDirect mt_32 ((mFind n mh ml mg).2.1) ((mFind n mh ml mg).2.2) ((mFind n mh ml mg).1) (nI i_32)))), (qhv, .inl (cI, 36, .inl (upd mv_56 (nI i_56).toNatClampNeg ((mv_56 (nI i_56).toNatClampNeg) + 1)))), (qbe, .inl (cZ, 36, .inl (upd mb_56 (nI i_56).toNatClampNeg (vp_nar .boolean ((mDirect mt_32 ((mFind n mh ml mg).2.1) ((mFind n mh ml mg).2.2) ((mFind n mh ml mg).1) (nI i_32)) (nI i_56).toNatClampNeg))))), (qlo, .inl (cI, 9, .inl ((mFind n mh ml mg).2.1))), (qhi, .inl (cI, 9, .inl ((mFind n mh ml mg).2.2))), (qpa, .inl (cI, 6, .inl mp)), (qne, .inl (cI, 6, .inl mx)), (qre, .inl (cI, 6, .inl mr))] H := hP
                    have hD : va_D (va_A [(qo, .inr (3, [.int (nI n), .ref qha, .ref qkn, .ref qtr, .int mc, .ref qhv, .ref qbe, .int (nI Q), .ref qlo, .ref qhi, .ref qpa, .ref qne, .ref qre])), (qha, .inl (cZ, 36, .inl mh)), (qkn, .inl (cZ, 36, .inl mk)), (qtr, .inl (cZ, 36, .inl mt)), (qhv, .inl (cI, 36, .inl mv)), (qbe, .inl (cZ, 36, .inl mb)), (qlo, .inl (cI, 9, .inl ml)), (qhi, .inl (cI, 9, .inl mg)), (qpa, .inl (cI, 6, .inl mp)), (qne, .inl (cI, 6, .inl mx)), (qre, .inl (cI, 6, .inl mr))] s.heap.size) [(qo, .inr (3, [.int (nI n), .ref qha, .ref qkn, .ref qtr, .int mc_32, .ref qhv, .ref qbe, .int (nI ((mFind n mh ml mg).1)), .ref qlo, .ref qhi, .ref qpa, .ref qne, .ref qre])), (qha, .inl (cZ, 36, .inl mh)), (qkn, .inl (cZ, 36, .inl mk)), (qtr, .inl (cZ, 36, .inl (mDirect mt_32 ((mFind n mh ml mg).2.1) ((mFind n mh ml mg).2.2) ((mFind n mh ml mg).1) (nI i_32)))), (qhv, .inl (cI, 36, .inl (upd mv_56 (nI i_56).toNatClampNeg ((mv_56 (nI i_56).toNatClampNeg) + 1)))), (qbe, .inl (cZ, 36, .inl (upd mb_56 (nI i_56).toNatClampNeg (vp_nar .boolean ((mDirect mt_32 ((mFind n mh ml mg).2.1) ((mFind n mh ml mg).2.2) ((mFind n mh ml mg).1) (nI i_32)) (nI i_56).toNatClampNeg))))), (qlo, .inl (cI, 9, .inl ((mFind n mh ml mg).2.1))), (qhi, .inl (cI, 9, .inl ((mFind n mh ml mg).2.2))), (qpa, .inl (cI, 6, .inl mp)), (qne, .inl (cI, 6, .inl mx)), (qre, .inl (cI, 6, .inl mr))] := hD
                    refine lv_iinc (k := 0) (v := nI (i_56 + 1)) hx hb d_M_goThrough_122 hl rfl (vz_inc i_56) (by decide) rfl (fun ls hl => ?_)
                    have hl : lv_has ls 3 [(2, .int (nI (i_56 + 1))), (1, .int (nI i_32)), (0, .ref qo)] := hl
                    refine lv_goto (tgt := 56) hx hb d_M_goThrough_125 (by decide) ?_
                    exact ih_56 (i_56 + 1) (upd mv_56 (nI i_56).toNatClampNeg ((mv_56 (nI i_56).toNatClampNeg) + 1)) (upd mb_56 (nI i_56).toNatClampNeg (vp_nar .boolean ((mDirect mt_32 ((mFind n mh ml mg).2.1) ((mFind n mh ml mg).2.2) ((mFind n mh ml mg).1) (nI i_32)) (nI i_56).toNatClampNeg))) H locs ls (by omega) (by rw [mGo_L56, if_pos h7, if_neg h9] at hfin_56; exact hfin_56) hP hD hS (lv_sub hl [0, 1, 2] rfl)
            exact lp_56 36 0 mv_32 mb_32 _ _ _ (by omega) (by rw [mGo_L32, if_neg h4] at hfin_32; exact hfin_32) hP hD hS (lv_sub hl [0, 1, 2] rfl)
      exact lp_32 (2 ^ (mFind n mh ml mg).1) 0 0 mv_11 mb mt _ _ _ (by omega) (by rw [mGo_L11] at hfin_11; exact hfin_11) hP hD hS (lv_sub hl [0, 1] rfl)
    | succ k_11 ih_11 =>
      intro i_11 mv_11 H locs ls hik_11 hfin_11 hP hD hS hl
      refine lv_iload_n hx hb d_M_goThrough_11 rfl (lv_at hl 0 rfl) ?_
      refine lv_bipush (v := 36) hx hb d_M_goThrough_12 (by decide) ?_
      refine vz_top (y := nI 36) (by decide) ?_
      refine lv_icmp_ge (tgt := 30) hx hb d_M_goThrough_14 (by decide) (fun h10 => by rw [nI_leI (by omega) (by omega)] at h10; omega) (fun _ => ?_)
      refine lv_aload_n hx hb d_M_goThrough_17 rfl (lv_at hl 1 rfl) ?_
      refine va_get (D := (dC, dI)) (ci := 3) (v := .ref qhv) (C := "ArrowClassesModel") (T := TM) (N := 13) hx hb hT inM hown hK hP 0 rfl rfl 5 (by decide) (hT _ wd_fld_M_19) (fun _ h9 => h9) rfl d_M_goThrough_18 ?_
      refine lv_iload_n hx hb d_M_goThrough_21 rfl (lv_at hl 0 rfl) ?_
      refine lv_iconst (v := 0) hx hb d_M_goThrough_22 (by decide) ?_
      refine va_iast (D := (dC, dI)) hx hb hK hP hD hS 4 0 rfl rfl (vp_in_nI (by omega) (by omega)) d_M_goThrough_23 (fun H locs hP hD hS => ?_)
      have hP : va_P (dC, dI) vwCl [(qo, .inr (3, [.int (nI n), .ref qha, .ref qkn, .ref qtr, .int 0, .ref qhv, .ref qbe, .int (nI ((mFind n mh ml mg).1)), .ref qlo, .ref qhi, .ref qpa, .ref qne, .ref qre])), (qha, .inl (cZ, 36, .inl mh)), (qkn, .inl (cZ, 36, .inl mk)), (qtr, .inl (cZ, 36, .inl mt)), (qhv, .inl (cI, 36, .inl (upd mv_11 (nI i_11).toNatClampNeg 0))), (qbe, .inl (cZ, 36, .inl mb)), (qlo, .inl (cI, 9, .inl ((mFind n mh ml mg).2.1))), (qhi, .inl (cI, 9, .inl ((mFind n mh ml mg).2.2))), (qpa, .inl (cI, 6, .inl mp)), (qne, .inl (cI, 6, .inl mx)), (qre, .inl (cI, 6, .inl mr))] H := hP
      have hD : va_D (va_A [(qo, .inr (3, [.int (nI n), .ref qha, .ref qkn, .ref qtr, .int mc, .ref qhv, .ref qbe, .int (nI Q), .ref qlo, .ref qhi, .ref qpa, .ref qne, .ref qre])), (qha, .inl (cZ, 36, .inl mh)), (qkn, .inl (cZ, 36, .inl mk)), (qtr, .inl (cZ, 36, .inl mt)), (qhv, .inl (cI, 36, .inl mv)), (qbe, .inl (cZ, 36, .inl mb)), (qlo, .inl (cI, 9, .inl ml)), (qhi, .inl (cI, 9, .inl mg)), (qpa, .inl (cI, 6, .inl mp)), (qne, .inl (cI, 6, .inl mx)), (qre, .inl (cI, 6, .inl mr))] s.heap.size) [(qo, .inr (3, [.int (nI n), .ref qha, .ref qkn, .ref qtr, .int 0, .ref qhv, .ref qbe, .int (nI ((mFind n mh ml mg).1)), .ref qlo, .ref qhi, .ref qpa, .ref qne, .ref qre])), (qha, .inl (cZ, 36, .inl mh)), (qkn, .inl (cZ, 36, .inl mk)), (qtr, .inl (cZ, 36, .inl mt)), (qhv, .inl (cI, 36, .inl (upd mv_11 (nI i_11).toNatClampNeg 0))), (qbe, .inl (cZ, 36, .inl mb)), (qlo, .inl (cI, 9, .inl ((mFind n mh ml mg).2.1))), (qhi, .inl (cI, 9, .inl ((mFind n mh ml mg).2.2))), (qpa, .inl (cI, 6, .inl mp)), (qne, .inl (cI, 6, .inl mx)), (qre, .inl (cI, 6, .inl mr))] := hD
      refine lv_iinc (k := 0) (v := nI (i_11 + 1)) hx hb d_M_goThrough_24 hl rfl (vz_inc i_11) (by decide) rfl (fun ls hl => ?_)
      have hl : lv_has ls 3 [(1, .int (nI (i_11 + 1))), (0, .ref qo)] := hl
      refine lv_goto (tgt := 11) hx hb d_M_goThrough_27 (by decide) ?_
      exact ih_11 (i_11 + 1) (upd mv_11 (nI i_11).toNatClampNeg 0) H locs ls (by omega) (by rw [mGo_L11] at hfin_11; exact hfin_11) hP hD hS (lv_sub hl [0, 1] rfl)
  exact lp_11 36 0 mv _ _ _ (by omega) (by rw [mGo]) hP hD hS (lv_sub hl [0, 1] rfl)
set_option maxRecDepth 100000 in
set_option maxHeartbeats 4000000 in
theorem c_M_edge (l : Launch) (dC : Nat → ClassId) (dI : Nat → Nat → Nat) (cI cZ : ClassId) (qo qha qkn qtr qhv qbe qlo qhi qpa qne qre : Nat) (mp : Nat → Int32) (mx : Nat → Int32) (mr : Nat → Int32) (n : Nat) (mh : Nat → Int32) (mk : Nat → Int32) (mt : Nat → Int32) (mv : Nat → Int32) (mb : Nat → Int32) (ml : Nat → Int32) (mg : Nat → Int32) (mc : Int32) (Q : Nat) (u : Int32) (v : Int32) (hn : n ≤ 6) (hJ : jcO mh n n 0 ≤ 9) (sz : Nat) : Met l y_M_edge w_M_edge rm_M_edge (va_Pc [.ref qo, .int u, .int v] (vz_Bw (dC, dI) vwCl [(qo, .inr (3, [.int (nI n), .ref qha, .ref qkn, .ref qtr, .int mc, .ref qhv, .ref qbe, .int (nI Q), .ref qlo, .ref qhi, .ref qpa, .ref qne, .ref qre])), (qha, .inl (cZ, 36, .inl mh)), (qkn, .inl (cZ, 36, .inl mk)), (qtr, .inl (cZ, 36, .inl mt)), (qhv, .inl (cI, 36, .inl mv)), (qbe, .inl (cZ, 36, .inl mb)), (qlo, .inl (cI, 9, .inl ml)), (qhi, .inl (cI, 9, .inl mg)), (qpa, .inl (cI, 6, .inl mp)), (qne, .inl (cI, 6, .inl mx)), (qre, .inl (cI, 6, .inl mr))] [(cI, .int), (cZ, .boolean)] sz)) (va_Qi (fun r (_ : Unit) => r = ((mEdge n mh mk mt mv mb ml mg mc Q u v).1)) (fun (_ : Unit) t => va_P (dC, dI) vwCl [(qo, .inr (3, [.int (nI n), .ref qha, .ref qkn, .ref qtr, .int ((mEdge n mh mk mt mv mb ml mg mc Q u v).2.2.2.2.1), .ref qhv, .ref qbe, .int (nI ((mEdge n mh mk mt mv mb ml mg mc Q u v).2.1)), .ref qlo, .ref qhi, .ref qpa, .ref qne, .ref qre])), (qha, .inl (cZ, 36, .inl mh)), (qkn, .inl (cZ, 36, .inl mk)), (qtr, .inl (cZ, 36, .inl ((mEdge n mh mk mt mv mb ml mg mc Q u v).2.2.2.2.2.2.1))), (qhv, .inl (cI, 36, .inl ((mEdge n mh mk mt mv mb ml mg mc Q u v).2.2.2.2.2.1))), (qbe, .inl (cZ, 36, .inl ((mEdge n mh mk mt mv mb ml mg mc Q u v).2.2.2.2.2.2.2))), (qlo, .inl (cI, 9, .inl ((mEdge n mh mk mt mv mb ml mg mc Q u v).2.2.1))), (qhi, .inl (cI, 9, .inl ((mEdge n mh mk mt mv mb ml mg mc Q u v).2.2.2.1))), (qpa, .inl (cI, 6, .inl mp)), (qne, .inl (cI, 6, .inl mx)), (qre, .inl (cI, 6, .inl mr))] t.heap ∧ va_K (dC, dI) vwCl [(cI, .int), (cZ, .boolean)] t ∧ va_D (va_A [(qo, .inr (3, [.int (nI n), .ref qha, .ref qkn, .ref qtr, .int mc, .ref qhv, .ref qbe, .int (nI Q), .ref qlo, .ref qhi, .ref qpa, .ref qne, .ref qre])), (qha, .inl (cZ, 36, .inl mh)), (qkn, .inl (cZ, 36, .inl mk)), (qtr, .inl (cZ, 36, .inl mt)), (qhv, .inl (cI, 36, .inl mv)), (qbe, .inl (cZ, 36, .inl mb)), (qlo, .inl (cI, 9, .inl ml)), (qhi, .inl (cI, 9, .inl mg)), (qpa, .inl (cI, 6, .inl mp)), (qne, .inl (cI, 6, .inl mx)), (qre, .inl (cI, 6, .inl mr))] sz) [(qo, .inr (3, [.int (nI n), .ref qha, .ref qkn, .ref qtr, .int ((mEdge n mh mk mt mv mb ml mg mc Q u v).2.2.2.2.1), .ref qhv, .ref qbe, .int (nI ((mEdge n mh mk mt mv mb ml mg mc Q u v).2.1)), .ref qlo, .ref qhi, .ref qpa, .ref qne, .ref qre])), (qha, .inl (cZ, 36, .inl mh)), (qkn, .inl (cZ, 36, .inl mk)), (qtr, .inl (cZ, 36, .inl ((mEdge n mh mk mt mv mb ml mg mc Q u v).2.2.2.2.2.2.1))), (qhv, .inl (cI, 36, .inl ((mEdge n mh mk mt mv mb ml mg mc Q u v).2.2.2.2.2.1))), (qbe, .inl (cZ, 36, .inl ((mEdge n mh mk mt mv mb ml mg mc Q u v).2.2.2.2.2.2.2))), (qlo, .inl (cI, 9, .inl ((mEdge n mh mk mt mv mb ml mg mc Q u v).2.2.1))), (qhi, .inl (cI, 9, .inl ((mEdge n mh mk mt mv mb ml mg mc Q u v).2.2.2.1))), (qpa, .inl (cI, 6, .inl mp)), (qne, .inl (cI, 6, .inl mx)), (qre, .inl (cI, 6, .inl mr))]) (va_A [(qo, .inr (3, [.int (nI n), .ref qha, .ref qkn, .ref qtr, .int mc, .ref qhv, .ref qbe, .int (nI Q), .ref qlo, .ref qhi, .ref qpa, .ref qne, .ref qre])), (qha, .inl (cZ, 36, .inl mh)), (qkn, .inl (cZ, 36, .inl mk)), (qtr, .inl (cZ, 36, .inl mt)), (qhv, .inl (cI, 36, .inl mv)), (qbe, .inl (cZ, 36, .inl mb)), (qlo, .inl (cI, 9, .inl ml)), (qhi, .inl (cI, 9, .inl mg)), (qpa, .inl (cI, 6, .inl mp)), (qne, .inl (cI, 6, .inl mx)), (qre, .inl (cI, 6, .inl mr))] sz)) 0 0 (va_A [(qo, .inr (3, [.int (nI n), .ref qha, .ref qkn, .ref qtr, .int mc, .ref qhv, .ref qbe, .int (nI Q), .ref qlo, .ref qhi, .ref qpa, .ref qne, .ref qre])), (qha, .inl (cZ, 36, .inl mh)), (qkn, .inl (cZ, 36, .inl mk)), (qtr, .inl (cZ, 36, .inl mt)), (qhv, .inl (cI, 36, .inl mv)), (qbe, .inl (cZ, 36, .inl mb)), (qlo, .inl (cI, 9, .inl ml)), (qhi, .inl (cI, 9, .inl mg)), (qpa, .inl (cI, 6, .inl mp)), (qne, .inl (cI, 6, .inl mx)), (qre, .inl (cI, 6, .inl mr))] sz) := by
  refine Met.ofW (cc := b_M_edge) (maxL := 3) (ret := (some .int)) (by decide) rfl ?_
  intro p e s m args below meth c s₁ B hml hv
  obtain ⟨rfl, hsz, hP, hK, hD0, hN⟩ := hv
  have hx := B.exec
  have hb := B.bytes
  have hr := B.returns
  have hts := atoms_spec (ws := w_M_edge) B.pre
  have hT : ∀ w ∈ vzB, w.before ([.ref qo, .int u, .int v] : List Value).toArray s = true := fun w h => hts w (List.mem_cons_of_mem _ h)
  have hown : s.vm.findClass "ArrowClassesModel" = some m.cls := findClass_of_methodNamed B.named
  have hlocks := B.notSynchronized
  subst hsz
  have hD := hD0.self (sz := s.heap.size)
  have hA : ∀ q : Nat, s.heap.size ≤ q → va_A [(qo, .inr (3, [.int (nI n), .ref qha, .ref qkn, .ref qtr, .int mc, .ref qhv, .ref qbe, .int (nI Q), .ref qlo, .ref qhi, .ref qpa, .ref qne, .ref qre])), (qha, .inl (cZ, 36, .inl mh)), (qkn, .inl (cZ, 36, .inl mk)), (qtr, .inl (cZ, 36, .inl mt)), (qhv, .inl (cI, 36, .inl mv)), (qbe, .inl (cZ, 36, .inl mb)), (qlo, .inl (cI, 9, .inl ml)), (qhi, .inl (cI, 9, .inl mg)), (qpa, .inl (cI, 6, .inl mp)), (qne, .inl (cI, 6, .inl mx)), (qre, .inl (cI, 6, .inl mr))] s.heap.size q := fun q h => Or.inr h
  have hS : va_S (va_A [(qo, .inr (3, [.int (nI n), .ref qha, .ref qkn, .ref qtr, .int mc, .ref qhv, .ref qbe, .int (nI Q), .ref qlo, .ref qhi, .ref qpa, .ref qne, .ref qre])), (qha, .inl (cZ, 36, .inl mh)), (qkn, .inl (cZ, 36, .inl mk)), (qtr, .inl (cZ, 36, .inl mt)), (qhv, .inl (cI, 36, .inl mv)), (qbe, .inl (cZ, 36, .inl mb)), (qlo, .inl (cI, 9, .inl ml)), (qhi, .inl (cI, 9, .inl mg)), (qpa, .inl (cI, 6, .inl mp)), (qne, .inl (cI, 6, .inl mx)), (qre, .inl (cI, 6, .inl mr))] s.heap.size) s.heap s.heap [] := va_S.rf
  have hl := lv_entry ([.ref qo, .int u, .int v]) (n := 3) (Nat.le_of_ble_eq_true rfl)
  rw [lg_entry_eq]
  generalize (lg_sl ([.ref qo, .int u, .int v]) ++ List.replicate (3 - (lg_sl ([.ref qo, .int u, .int v])).length) Slot.unset).toArray = ls at hl ⊢
  have hl : lv_has ls 3 [(0, .ref qo), (1, .int u), (2, .int v)] := hl
  refine lv_aload_n hx hb d_M_edge_0 rfl (lv_at hl 0 rfl) ?_
  refine lv_iload_n hx hb d_M_edge_1 rfl (lv_at hl 1 rfl) ?_
  refine lv_iload_n hx hb d_M_edge_2 rfl (lv_at hl 2 rfl) ?_
  refine vz_ro (va_runV (As := [.int u, .int v]) (rest := []) ⟨hx, hb, hml, hown, hT⟩ (c_M_areNodes l dC dI cI cZ qo qha qkn qtr qhv qbe qlo qhi qpa qne qre mh mk mt mv mb ml mg mp mx mr mc Q n u v) (vz_cwV (n := 2) hT wd_link_M_49 wd_inst_M_areNodes wd_sel_M_areNodes wd_ini_M wd_code_M_areNodes (by decide +kernel) ⟨Nat.le_of_ble_eq_true rfl, Nat.le_of_ble_eq_true rfl⟩) (vz_pv (q0 := 0) (ci := 3) (q := ("ArrowClassesModel", TM, 13)) hN hK hP [0, 1, 2, 3, 4, 5, 6, 7, 8, 9, 10] rfl rfl rfl) rfl rfl hl.1 rfl (lv_room (Nat.le_of_ble_eq_true rfl)) d_M_edge_3 ⟨Nat.zero_le _, Nat.zero_le _⟩) ?_
  refine lv_if_eq (tgt := 18) hx hb d_M_edge_6 (by decide) (fun h1 => ?_) (fun h1 => ?_)
  ·
    refine lv_iconst (v := 0) hx hb d_M_edge_18 (by decide) ?_
    have hF : (mEdge n mh mk mt mv mb ml mg mc Q u v) = (0, Q, ml, mg, mc, mv, mt, mb) := (by rw [mEdge, if_pos h1])
    exact W.iret hx hb hr (fun t ht hW => ⟨⟨(0 : Int32), (), rfl, by rw [hF], by rw [hF, ht]; exact hP, va_K.moved hW.alike hK, by rw [hF]; exact hD⟩, hS.F ht⟩) hS.2.2 d_M_edge_19
  ·
    obtain ⟨hvu, hvv, huv⟩ := mPair_in hn h1
    refine lv_aload_n hx hb d_M_edge_9 rfl (lv_at hl 0 rfl) ?_
    refine lv_iload_n hx hb d_M_edge_10 rfl (lv_at hl 1 rfl) ?_
    refine lv_iload_n hx hb d_M_edge_11 rfl (lv_at hl 2 rfl) ?_
    refine vz_ro (va_runV (As := [.int u, .int v]) (rest := []) ⟨hx, hb, hml, hown, hT⟩ (c_M_joined l dC dI cI cZ qo qha qkn qtr qhv qbe qlo qhi qpa qne qre n mk mt mv mb ml mg mp mx mr mc Q mh u v (by omega) (by assumption) (by assumption)) (vz_cwV (n := 2) hT wd_link_M_53 wd_inst_M_joined wd_sel_M_joined wd_ini_M wd_code_M_joined (by decide +kernel) ⟨Nat.le_of_ble_eq_true rfl, Nat.le_of_ble_eq_true rfl⟩) (vz_pv (q0 := 0) (ci := 3) (q := ("ArrowClassesModel", TM, 13)) hN hK hP [0, 1, 2, 3, 4, 5, 6, 7, 8, 9, 10] rfl rfl rfl) rfl rfl hl.1 rfl (lv_room (Nat.le_of_ble_eq_true rfl)) d_M_edge_12 ⟨Nat.zero_le _, Nat.zero_le _⟩) ?_
    refine lv_if_ne (tgt := 20) hx hb d_M_edge_15 (by decide) (fun h2 => ?_) (fun h2 => ?_)
    ·
      refine lv_aload_n hx hb d_M_edge_20 rfl (lv_at hl 0 rfl) ?_
      refine vz_rv (wr := []) (w1 := [(qo, .inr (3, [.int (nI n), .ref qha, .ref qkn, .ref qtr, .int ((mGo n mh mk mt mv mb ml mg mc Q).2.2.2.1), .ref qhv, .ref qbe, .int (nI ((mGo n mh mk mt mv mb ml mg mc Q).1)), .ref qlo, .ref qhi, .ref qpa, .ref qne, .ref qre])), (qha, .inl (cZ, 36, .inl mh)), (qkn, .inl (cZ, 36, .inl mk)), (qtr, .inl (cZ, 36, .inl ((mGo n mh mk mt mv mb ml mg mc Q).2.2.2.2.2.1))), (qhv, .inl (cI, 36, .inl ((mGo n mh mk mt mv mb ml mg mc Q).2.2.2.2.1))), (qbe, .inl (cZ, 36, .inl ((mGo n mh mk mt mv mb ml mg mc Q).2.2.2.2.2.2))), (qlo, .inl (cI, 9, .inl ((mGo n mh mk mt mv mb ml mg mc Q).2.1))), (qhi, .inl (cI, 9, .inl ((mGo n mh mk mt mv mb ml mg mc Q).2.2.1))), (qpa, .inl (cI, 6, .inl mp)), (qne, .inl (cI, 6, .inl mx)), (qre, .inl (cI, 6, .inl mr))]) (va_runV (As := []) (rest := []) ⟨hx, hb, hml, hown, hT⟩ (c_M_goThrough l dC dI cI cZ qo qha qkn qtr qhv qbe qlo qhi qpa qne qre mp mx mr n mh mk mt mv mb ml mg mc Q (by omega) (by assumption) s.heap.size) (vz_cwV (n := 0) hT wd_link_M_113 wd_inst_M_goThrough wd_sel_M_goThrough wd_ini_M wd_code_M_goThrough (by decide +kernel) ⟨Nat.le_of_ble_eq_true rfl, Nat.le_of_ble_eq_true rfl⟩) (vz_pvw (q0 := 0) (ci := 3) (q := ("ArrowClassesModel", TM, 13)) hN hK hP hD [0, 1, 2, 3, 4, 5, 6, 7, 8, 9, 10] rfl (by decide) rfl rfl rfl) rfl rfl hl.1 rfl (lv_room (Nat.le_of_ble_eq_true rfl)) d_M_edge_21 ⟨Nat.zero_le _, Nat.zero_le _⟩) hP hD hS hA [0, 1, 2, 3, 4, 5, 6, 7, 8, 9, 10] [] rfl rfl (by decide) (by decide) (fun H locs hP hD hS => ?_)
      have hP : va_P (dC, dI) vwCl [(qo, .inr (3, [.int (nI n), .ref qha, .ref qkn, .ref qtr, .int ((mGo n mh mk mt mv mb ml mg mc Q).2.2.2.1), .ref qhv, .ref qbe, .int (nI ((mGo n mh mk mt mv mb ml mg mc Q).1)), .ref qlo, .ref qhi, .ref qpa, .ref qne, .ref qre])), (qha, .inl (cZ, 36, .inl mh)), (qkn, .inl (cZ, 36, .inl mk)), (qtr, .inl (cZ, 36, .inl ((mGo n mh mk mt mv mb ml mg mc Q).2.2.2.2.2.1))), (qhv, .inl (cI, 36, .inl ((mGo n mh mk mt mv mb ml mg mc Q).2.2.2.2.1))), (qbe, .inl (cZ, 36, .inl ((mGo n mh mk mt mv mb ml mg mc Q).2.2.2.2.2.2))), (qlo, .inl (cI, 9, .inl ((mGo n mh mk mt mv mb ml mg mc Q).2.1))), (qhi, .inl (cI, 9, .inl ((mGo n mh mk mt mv mb ml mg mc Q).2.2.1))), (qpa, .inl (cI, 6, .inl mp)), (qne, .inl (cI, 6, .inl mx)), (qre, .inl (cI, 6, .inl mr))] H := hP.sub [0, 1, 2, 3, 4, 5, 6, 7, 8, 9, 10] rfl
      have hD : va_D (va_A [(qo, .inr (3, [.int (nI n), .ref qha, .ref qkn, .ref qtr, .int mc, .ref qhv, .ref qbe, .int (nI Q), .ref qlo, .ref qhi, .ref qpa, .ref qne, .ref qre])), (qha, .inl (cZ, 36, .inl mh)), (qkn, .inl (cZ, 36, .inl mk)), (qtr, .inl (cZ, 36, .inl mt)), (qhv, .inl (cI, 36, .inl mv)), (qbe, .inl (cZ, 36, .inl mb)), (qlo, .inl (cI, 9, .inl ml)), (qhi, .inl (cI, 9, .inl mg)), (qpa, .inl (cI, 6, .inl mp)), (qne, .inl (cI, 6, .inl mx)), (qre, .inl (cI, 6, .inl mr))] s.heap.size) [(qo, .inr (3, [.int (nI n), .ref qha, .ref qkn, .ref qtr, .int ((mGo n mh mk mt mv mb ml mg mc Q).2.2.2.1), .ref qhv, .ref qbe, .int (nI ((mGo n mh mk mt mv mb ml mg mc Q).1)), .ref qlo, .ref qhi, .ref qpa, .ref qne, .ref qre])), (qha, .inl (cZ, 36, .inl mh)), (qkn, .inl (cZ, 36, .inl mk)), (qtr, .inl (cZ, 36, .inl ((mGo n mh mk mt mv mb ml mg mc Q).2.2.2.2.2.1))), (qhv, .inl (cI, 36, .inl ((mGo n mh mk mt mv mb ml mg mc Q).2.2.2.2.1))), (qbe, .inl (cZ, 36, .inl ((mGo n mh mk mt mv mb ml mg mc Q).2.2.2.2.2.2))), (qlo, .inl (cI, 9, .inl ((mGo n mh mk mt mv mb ml mg mc Q).2.1))), (qhi, .inl (cI, 9, .inl ((mGo n mh mk mt mv mb ml mg mc Q).2.2.1))), (qpa, .inl (cI, 6, .inl mp)), (qne, .inl (cI, 6, .inl mx)), (qre, .inl (cI, 6, .inl mr))] := hD.sub [0, 1, 2, 3, 4, 5, 6, 7, 8, 9, 10] (by decide) rfl
      refine lv_aload_n hx hb d_M_edge_24 rfl (lv_at hl 0 rfl) ?_
      refine va_get (D := (dC, dI)) (ci := 3) (v := .ref qhv) (C := "ArrowClassesModel") (T := TM) (N := 13) hx hb hT inM hown hK hP 0 rfl rfl 5 (by decide) (hT _ wd_fld_M_19) (fun _ h9 => h9) rfl d_M_edge_25 ?_
      refine lv_bipush (v := 6) hx hb d_M_edge_28 (by decide) ?_
      refine lv_iload_n hx hb d_M_edge_30 rfl (lv_at hl 1 rfl) ?_
      refine lv_imul hx hb d_M_edge_31 ?_
      refine lv_iload_n hx hb d_M_edge_32 rfl (lv_at hl 2 rfl) ?_
      refine lv_iadd hx hb d_M_edge_33 ?_
      refine va_iald (D := (dC, dI)) hx hb hK hP 4 0 rfl rfl (vz_ix hn (by assumption) (by assumption)) d_M_edge_34 ?_
      refine lv_aload_n hx hb d_M_edge_35 rfl (lv_at hl 0 rfl) ?_
      refine va_get (D := (dC, dI)) (ci := 3) (v := .int ((mGo n mh mk mt mv mb ml mg mc Q).2.2.2.1)) (C := "ArrowClassesModel") (T := TM) (N := 13) hx hb hT inM hown hK hP 0 rfl rfl 4 (by decide) (hT _ wd_fld_M_103) (fun _ h9 => h9) rfl d_M_edge_36 ?_
      refine lv_icmp_ne (tgt := 46) hx hb d_M_edge_39 (by decide) (fun h3 => ?_) (fun h3 => ?_)
      ·
        refine lv_aload_n hx hb d_M_edge_46 rfl (lv_at hl 0 rfl) ?_
        refine va_get (D := (dC, dI)) (ci := 3) (v := .ref qhv) (C := "ArrowClassesModel") (T := TM) (N := 13) hx hb hT inM hown hK hP 0 rfl rfl 5 (by decide) (hT _ wd_fld_M_19) (fun _ h9 => h9) rfl d_M_edge_47 ?_
        refine lv_bipush (v := 6) hx hb d_M_edge_50 (by decide) ?_
        refine lv_iload_n hx hb d_M_edge_52 rfl (lv_at hl 2 rfl) ?_
        refine lv_imul hx hb d_M_edge_53 ?_
        refine lv_iload_n hx hb d_M_edge_54 rfl (lv_at hl 1 rfl) ?_
        refine lv_iadd hx hb d_M_edge_55 ?_
        refine va_iald (D := (dC, dI)) hx hb hK hP 4 0 rfl rfl (vz_ix hn (by assumption) (by assumption)) d_M_edge_56 ?_
        refine lv_aload_n hx hb d_M_edge_57 rfl (lv_at hl 0 rfl) ?_
        refine va_get (D := (dC, dI)) (ci := 3) (v := .int ((mGo n mh mk mt mv mb ml mg mc Q).2.2.2.1)) (C := "ArrowClassesModel") (T := TM) (N := 13) hx hb hT inM hown hK hP 0 rfl rfl 4 (by decide) (hT _ wd_fld_M_103) (fun _ h9 => h9) rfl d_M_edge_58 ?_
        refine lv_icmp_ne (tgt := 68) hx hb d_M_edge_61 (by decide) (fun h4 => ?_) (fun h4 => ?_)
        ·
          refine lv_iconst (v := 3) hx hb d_M_edge_68 (by decide) ?_
          have hF : (mEdge n mh mk mt mv mb ml mg mc Q u v) = (3, ((mGo n mh mk mt mv mb ml mg mc Q).1), (mGo n mh mk mt mv mb ml mg mc Q).2.1, (mGo n mh mk mt mv mb ml mg mc Q).2.2.1, (mGo n mh mk mt mv mb ml mg mc Q).2.2.2.1, (mGo n mh mk mt mv mb ml mg mc Q).2.2.2.2.1, (mGo n mh mk mt mv mb ml mg mc Q).2.2.2.2.2.1, (mGo n mh mk mt mv mb ml mg mc Q).2.2.2.2.2.2) := (by rw [mEdge, if_neg h1, if_neg h2, if_neg h3, if_neg h4])
          exact W.iret hx hb hr (fun t ht hW => ⟨⟨(3 : Int32), (), rfl, by rw [hF], by rw [hF, ht]; exact hP, va_K.moved hW.alike hK, by rw [hF]; exact hD⟩, hS.F ht⟩) hS.2.2 d_M_edge_69
        ·
          refine lv_iconst (v := 2) hx hb d_M_edge_64 (by decide) ?_
          refine lv_goto (tgt := 69) hx hb d_M_edge_65 (by decide) ?_
          have hF : (mEdge n mh mk mt mv mb ml mg mc Q u v) = (2, ((mGo n mh mk mt mv mb ml mg mc Q).1), (mGo n mh mk mt mv mb ml mg mc Q).2.1, (mGo n mh mk mt mv mb ml mg mc Q).2.2.1, (mGo n mh mk mt mv mb ml mg mc Q).2.2.2.1, (mGo n mh mk mt mv mb ml mg mc Q).2.2.2.2.1, (mGo n mh mk mt mv mb ml mg mc Q).2.2.2.2.2.1, (mGo n mh mk mt mv mb ml mg mc Q).2.2.2.2.2.2) := (by rw [mEdge, if_neg h1, if_neg h2, if_neg h3, if_pos h4])
          exact W.iret hx hb hr (fun t ht hW => ⟨⟨(2 : Int32), (), rfl, by rw [hF], by rw [hF, ht]; exact hP, va_K.moved hW.alike hK, by rw [hF]; exact hD⟩, hS.F ht⟩) hS.2.2 d_M_edge_69
      ·
        refine lv_iconst (v := 1) hx hb d_M_edge_42 (by decide) ?_
        refine lv_goto (tgt := 69) hx hb d_M_edge_43 (by decide) ?_
        have hF : (mEdge n mh mk mt mv mb ml mg mc Q u v) = (1, ((mGo n mh mk mt mv mb ml mg mc Q).1), (mGo n mh mk mt mv mb ml mg mc Q).2.1, (mGo n mh mk mt mv mb ml mg mc Q).2.2.1, (mGo n mh mk mt mv mb ml mg mc Q).2.2.2.1, (mGo n mh mk mt mv mb ml mg mc Q).2.2.2.2.1, (mGo n mh mk mt mv mb ml mg mc Q).2.2.2.2.2.1, (mGo n mh mk mt mv mb ml mg mc Q).2.2.2.2.2.2) := (by rw [mEdge, if_neg h1, if_neg h2, if_pos h3])
        exact W.iret hx hb hr (fun t ht hW => ⟨⟨(1 : Int32), (), rfl, by rw [hF], by rw [hF, ht]; exact hP, va_K.moved hW.alike hK, by rw [hF]; exact hD⟩, hS.F ht⟩) hS.2.2 d_M_edge_69
    ·
      refine lv_iconst (v := 0) hx hb d_M_edge_18 (by decide) ?_
      have hF : (mEdge n mh mk mt mv mb ml mg mc Q u v) = (0, Q, ml, mg, mc, mv, mt, mb) := (by rw [mEdge, if_neg h1, if_pos h2])
      exact W.iret hx hb hr (fun t ht hW => ⟨⟨(0 : Int32), (), rfl, by rw [hF], by rw [hF, ht]; exact hP, va_K.moved hW.alike hK, by rw [hF]; exact hD⟩, hS.F ht⟩) hS.2.2 d_M_edge_19
set_option maxRecDepth 100000 in
set_option maxHeartbeats 4000000 in
theorem c_M_loose (l : Launch) (dC : Nat → ClassId) (dI : Nat → Nat → Nat) (cI cZ : ClassId) (qo qha qkn qtr qhv qbe qlo qhi qpa qne qre : Nat) (mp : Nat → Int32) (mx : Nat → Int32) (mr : Nat → Int32) (n : Nat) (mh : Nat → Int32) (mk : Nat → Int32) (mt : Nat → Int32) (mv : Nat → Int32) (mb : Nat → Int32) (ml : Nat → Int32) (mg : Nat → Int32) (mc : Int32) (Q : Nat) (hn : n ≤ 6) (hJ : jcO mh n n 0 ≤ 9) (hmb : is01 mb) (sz : Nat) : Met l y_M_loose w_M_loose rm_M_loose (va_Pc [.ref qo] (vz_Bw (dC, dI) vwCl [(qo, .inr (3, [.int (nI n), .ref qha, .ref qkn, .ref qtr, .int mc, .ref qhv, .ref qbe, .int (nI Q), .ref qlo, .ref qhi, .ref qpa, .ref qne, .ref qre])), (qha, .inl (cZ, 36, .inl mh)), (qkn, .inl (cZ, 36, .inl mk)), (qtr, .inl (cZ, 36, .inl mt)), (qhv, .inl (cI, 36, .inl mv)), (qbe, .inl (cZ, 36, .inl mb)), (qlo, .inl (cI, 9, .inl ml)), (qhi, .inl (cI, 9, .inl mg)), (qpa, .inl (cI, 6, .inl mp)), (qne, .inl (cI, 6, .inl mx)), (qre, .inl (cI, 6, .inl mr))] [(cI, .int), (cZ, .boolean)] sz)) (va_Qi (fun r (_ : Unit) => r = ((mLoose n mh mk mt mv mb ml mg mc Q).1)) (fun (_ : Unit) t => va_P (dC, dI) vwCl [(qo, .inr (3, [.int (nI n), .ref qha, .ref qkn, .ref qtr, .int ((mLoose n mh mk mt mv mb ml mg mc Q).2.2.2.2.1), .ref qhv, .ref qbe, .int (nI ((mLoose n mh mk mt mv mb ml mg mc Q).2.1)), .ref qlo, .ref qhi, .ref qpa, .ref qne, .ref qre])), (qha, .inl (cZ, 36, .inl mh)), (qkn, .inl (cZ, 36, .inl mk)), (qtr, .inl (cZ, 36, .inl ((mLoose n mh mk mt mv mb ml mg mc Q).2.2.2.2.2.2.1))), (qhv, .inl (cI, 36, .inl ((mLoose n mh mk mt mv mb ml mg mc Q).2.2.2.2.2.1))), (qbe, .inl (cZ, 36, .inl ((mLoose n mh mk mt mv mb ml mg mc Q).2.2.2.2.2.2.2))), (qlo, .inl (cI, 9, .inl ((mLoose n mh mk mt mv mb ml mg mc Q).2.2.1))), (qhi, .inl (cI, 9, .inl ((mLoose n mh mk mt mv mb ml mg mc Q).2.2.2.1))), (qpa, .inl (cI, 6, .inl mp)), (qne, .inl (cI, 6, .inl mx)), (qre, .inl (cI, 6, .inl mr))] t.heap ∧ va_K (dC, dI) vwCl [(cI, .int), (cZ, .boolean)] t ∧ va_D (va_A [(qo, .inr (3, [.int (nI n), .ref qha, .ref qkn, .ref qtr, .int mc, .ref qhv, .ref qbe, .int (nI Q), .ref qlo, .ref qhi, .ref qpa, .ref qne, .ref qre])), (qha, .inl (cZ, 36, .inl mh)), (qkn, .inl (cZ, 36, .inl mk)), (qtr, .inl (cZ, 36, .inl mt)), (qhv, .inl (cI, 36, .inl mv)), (qbe, .inl (cZ, 36, .inl mb)), (qlo, .inl (cI, 9, .inl ml)), (qhi, .inl (cI, 9, .inl mg)), (qpa, .inl (cI, 6, .inl mp)), (qne, .inl (cI, 6, .inl mx)), (qre, .inl (cI, 6, .inl mr))] sz) [(qo, .inr (3, [.int (nI n), .ref qha, .ref qkn, .ref qtr, .int ((mLoose n mh mk mt mv mb ml mg mc Q).2.2.2.2.1), .ref qhv, .ref qbe, .int (nI ((mLoose n mh mk mt mv mb ml mg mc Q).2.1)), .ref qlo, .ref qhi, .ref qpa, .ref qne, .ref qre])), (qha, .inl (cZ, 36, .inl mh)), (qkn, .inl (cZ, 36, .inl mk)), (qtr, .inl (cZ, 36, .inl ((mLoose n mh mk mt mv mb ml mg mc Q).2.2.2.2.2.2.1))), (qhv, .inl (cI, 36, .inl ((mLoose n mh mk mt mv mb ml mg mc Q).2.2.2.2.2.1))), (qbe, .inl (cZ, 36, .inl ((mLoose n mh mk mt mv mb ml mg mc Q).2.2.2.2.2.2.2))), (qlo, .inl (cI, 9, .inl ((mLoose n mh mk mt mv mb ml mg mc Q).2.2.1))), (qhi, .inl (cI, 9, .inl ((mLoose n mh mk mt mv mb ml mg mc Q).2.2.2.1))), (qpa, .inl (cI, 6, .inl mp)), (qne, .inl (cI, 6, .inl mx)), (qre, .inl (cI, 6, .inl mr))]) (va_A [(qo, .inr (3, [.int (nI n), .ref qha, .ref qkn, .ref qtr, .int mc, .ref qhv, .ref qbe, .int (nI Q), .ref qlo, .ref qhi, .ref qpa, .ref qne, .ref qre])), (qha, .inl (cZ, 36, .inl mh)), (qkn, .inl (cZ, 36, .inl mk)), (qtr, .inl (cZ, 36, .inl mt)), (qhv, .inl (cI, 36, .inl mv)), (qbe, .inl (cZ, 36, .inl mb)), (qlo, .inl (cI, 9, .inl ml)), (qhi, .inl (cI, 9, .inl mg)), (qpa, .inl (cI, 6, .inl mp)), (qne, .inl (cI, 6, .inl mx)), (qre, .inl (cI, 6, .inl mr))] sz)) 0 0 (va_A [(qo, .inr (3, [.int (nI n), .ref qha, .ref qkn, .ref qtr, .int mc, .ref qhv, .ref qbe, .int (nI Q), .ref qlo, .ref qhi, .ref qpa, .ref qne, .ref qre])), (qha, .inl (cZ, 36, .inl mh)), (qkn, .inl (cZ, 36, .inl mk)), (qtr, .inl (cZ, 36, .inl mt)), (qhv, .inl (cI, 36, .inl mv)), (qbe, .inl (cZ, 36, .inl mb)), (qlo, .inl (cI, 9, .inl ml)), (qhi, .inl (cI, 9, .inl mg)), (qpa, .inl (cI, 6, .inl mp)), (qne, .inl (cI, 6, .inl mx)), (qre, .inl (cI, 6, .inl mr))] sz) := by
  refine Met.ofW (cc := b_M_loose) (maxL := 4) (ret := (some .int)) (by decide) rfl ?_
  intro p e s m args below meth c s₁ B hml hv
  obtain ⟨rfl, hsz, hP, hK, hD0, hN⟩ := hv
  have hx := B.exec
  have hb := B.bytes
  have hr := B.returns
  have hts := atoms_spec (ws := w_M_loose) B.pre
  have hT : ∀ w ∈ vzB, w.before ([.ref qo] : List Value).toArray s = true := fun w h => hts w (List.mem_cons_of_mem _ h)
  have hown : s.vm.findClass "ArrowClassesModel" = some m.cls := findClass_of_methodNamed B.named
  have hlocks := B.notSynchronized
  subst hsz
  have hD := hD0.self (sz := s.heap.size)
  have hA : ∀ q : Nat, s.heap.size ≤ q → va_A [(qo, .inr (3, [.int (nI n), .ref qha, .ref qkn, .ref qtr, .int mc, .ref qhv, .ref qbe, .int (nI Q), .ref qlo, .ref qhi, .ref qpa, .ref qne, .ref qre])), (qha, .inl (cZ, 36, .inl mh)), (qkn, .inl (cZ, 36, .inl mk)), (qtr, .inl (cZ, 36, .inl mt)), (qhv, .inl (cI, 36, .inl mv)), (qbe, .inl (cZ, 36, .inl mb)), (qlo, .inl (cI, 9, .inl ml)), (qhi, .inl (cI, 9, .inl mg)), (qpa, .inl (cI, 6, .inl mp)), (qne, .inl (cI, 6, .inl mx)), (qre, .inl (cI, 6, .inl mr))] s.heap.size q := fun q h => Or.inr h
  have hS : va_S (va_A [(qo, .inr (3, [.int (nI n), .ref qha, .ref qkn, .ref qtr, .int mc, .ref qhv, .ref qbe, .int (nI Q), .ref qlo, .ref qhi, .ref qpa, .ref qne, .ref qre])), (qha, .inl (cZ, 36, .inl mh)), (qkn, .inl (cZ, 36, .inl mk)), (qtr, .inl (cZ, 36, .inl mt)), (qhv, .inl (cI, 36, .inl mv)), (qbe, .inl (cZ, 36, .inl mb)), (qlo, .inl (cI, 9, .inl ml)), (qhi, .inl (cI, 9, .inl mg)), (qpa, .inl (cI, 6, .inl mp)), (qne, .inl (cI, 6, .inl mx)), (qre, .inl (cI, 6, .inl mr))] s.heap.size) s.heap s.heap [] := va_S.rf
  have hl := lv_entry ([.ref qo]) (n := 4) (Nat.le_of_ble_eq_true rfl)
  rw [lg_entry_eq]
  generalize (lg_sl ([.ref qo]) ++ List.replicate (4 - (lg_sl ([.ref qo])).length) Slot.unset).toArray = ls at hl ⊢
  have hl : lv_has ls 4 [(0, .ref qo)] := hl
  have hQf := mGo_le (n := n) (mh := mh) (mk := mk) (mt := mt) (mv := mv) (mb := mb) (ml := ml) (mg := mg) (mc := mc) (Q := Q) hmb hn hJ
  have hlf := mGo_lo (n := n) (mh := mh) (mk := mk) (mt := mt) (mv := mv) (mb := mb) (ml := ml) (mg := mg) (mc := mc) (Q := Q) hmb hn hJ
  have hgf := mGo_hi (n := n) (mh := mh) (mk := mk) (mt := mt) (mv := mv) (mb := mb) (ml := ml) (mg := mg) (mc := mc) (Q := Q) hmb hn hJ
  refine lv_aload_n hx hb d_M_loose_0 rfl (lv_at hl 0 rfl) ?_
  refine vz_rv (wr := []) (w1 := [(qo, .inr (3, [.int (nI n), .ref qha, .ref qkn, .ref qtr, .int ((mGo n mh mk mt mv mb ml mg mc Q).2.2.2.1), .ref qhv, .ref qbe, .int (nI ((mGo n mh mk mt mv mb ml mg mc Q).1)), .ref qlo, .ref qhi, .ref qpa, .ref qne, .ref qre])), (qha, .inl (cZ, 36, .inl mh)), (qkn, .inl (cZ, 36, .inl mk)), (qtr, .inl (cZ, 36, .inl ((mGo n mh mk mt mv mb ml mg mc Q).2.2.2.2.2.1))), (qhv, .inl (cI, 36, .inl ((mGo n mh mk mt mv mb ml mg mc Q).2.2.2.2.1))), (qbe, .inl (cZ, 36, .inl ((mGo n mh mk mt mv mb ml mg mc Q).2.2.2.2.2.2))), (qlo, .inl (cI, 9, .inl ((mGo n mh mk mt mv mb ml mg mc Q).2.1))), (qhi, .inl (cI, 9, .inl ((mGo n mh mk mt mv mb ml mg mc Q).2.2.1))), (qpa, .inl (cI, 6, .inl mp)), (qne, .inl (cI, 6, .inl mx)), (qre, .inl (cI, 6, .inl mr))]) (va_runV (As := []) (rest := []) ⟨hx, hb, hml, hown, hT⟩ (c_M_goThrough l dC dI cI cZ qo qha qkn qtr qhv qbe qlo qhi qpa qne qre mp mx mr n mh mk mt mv mb ml mg mc Q (by omega) (by assumption) s.heap.size) (vz_cwV (n := 0) hT wd_link_M_113 wd_inst_M_goThrough wd_sel_M_goThrough wd_ini_M wd_code_M_goThrough (by decide +kernel) ⟨Nat.le_of_ble_eq_true rfl, Nat.le_of_ble_eq_true rfl⟩) (vz_pvw (q0 := 0) (ci := 3) (q := ("ArrowClassesModel", TM, 13)) hN hK hP hD [0, 1, 2, 3, 4, 5, 6, 7, 8, 9, 10] rfl (by decide) rfl rfl rfl) rfl rfl hl.1 rfl (lv_room (Nat.le_of_ble_eq_true rfl)) d_M_loose_1 ⟨Nat.zero_le _, Nat.zero_le _⟩) hP hD hS hA [0, 1, 2, 3, 4, 5, 6, 7, 8, 9, 10] [] rfl rfl (by decide) (by decide) (fun H locs hP hD hS => ?_)
  have hP : va_P (dC, dI) vwCl [(qo, .inr (3, [.int (nI n), .ref qha, .ref qkn, .ref qtr, .int ((mGo n mh mk mt mv mb ml mg mc Q).2.2.2.1), .ref qhv, .ref qbe, .int (nI ((mGo n mh mk mt mv mb ml mg mc Q).1)), .ref qlo, .ref qhi, .ref qpa, .ref qne, .ref qre])), (qha, .inl (cZ, 36, .inl mh)), (qkn, .inl (cZ, 36, .inl mk)), (qtr, .inl (cZ, 36, .inl ((mGo n mh mk mt mv mb ml mg mc Q).2.2.2.2.2.1))), (qhv, .inl (cI, 36, .inl ((mGo n mh mk mt mv mb ml mg mc Q).2.2.2.2.1))), (qbe, .inl (cZ, 36, .inl ((mGo n mh mk mt mv mb ml mg mc Q).2.2.2.2.2.2))), (qlo, .inl (cI, 9, .inl ((mGo n mh mk mt mv mb ml mg mc Q).2.1))), (qhi, .inl (cI, 9, .inl ((mGo n mh mk mt mv mb ml mg mc Q).2.2.1))), (qpa, .inl (cI, 6, .inl mp)), (qne, .inl (cI, 6, .inl mx)), (qre, .inl (cI, 6, .inl mr))] H := hP.sub [0, 1, 2, 3, 4, 5, 6, 7, 8, 9, 10] rfl
  have hD : va_D (va_A [(qo, .inr (3, [.int (nI n), .ref qha, .ref qkn, .ref qtr, .int mc, .ref qhv, .ref qbe, .int (nI Q), .ref qlo, .ref qhi, .ref qpa, .ref qne, .ref qre])), (qha, .inl (cZ, 36, .inl mh)), (qkn, .inl (cZ, 36, .inl mk)), (qtr, .inl (cZ, 36, .inl mt)), (qhv, .inl (cI, 36, .inl mv)), (qbe, .inl (cZ, 36, .inl mb)), (qlo, .inl (cI, 9, .inl ml)), (qhi, .inl (cI, 9, .inl mg)), (qpa, .inl (cI, 6, .inl mp)), (qne, .inl (cI, 6, .inl mx)), (qre, .inl (cI, 6, .inl mr))] s.heap.size) [(qo, .inr (3, [.int (nI n), .ref qha, .ref qkn, .ref qtr, .int ((mGo n mh mk mt mv mb ml mg mc Q).2.2.2.1), .ref qhv, .ref qbe, .int (nI ((mGo n mh mk mt mv mb ml mg mc Q).1)), .ref qlo, .ref qhi, .ref qpa, .ref qne, .ref qre])), (qha, .inl (cZ, 36, .inl mh)), (qkn, .inl (cZ, 36, .inl mk)), (qtr, .inl (cZ, 36, .inl ((mGo n mh mk mt mv mb ml mg mc Q).2.2.2.2.2.1))), (qhv, .inl (cI, 36, .inl ((mGo n mh mk mt mv mb ml mg mc Q).2.2.2.2.1))), (qbe, .inl (cZ, 36, .inl ((mGo n mh mk mt mv mb ml mg mc Q).2.2.2.2.2.2))), (qlo, .inl (cI, 9, .inl ((mGo n mh mk mt mv mb ml mg mc Q).2.1))), (qhi, .inl (cI, 9, .inl ((mGo n mh mk mt mv mb ml mg mc Q).2.2.1))), (qpa, .inl (cI, 6, .inl mp)), (qne, .inl (cI, 6, .inl mx)), (qre, .inl (cI, 6, .inl mr))] := hD.sub [0, 1, 2, 3, 4, 5, 6, 7, 8, 9, 10] (by decide) rfl
  refine lv_iconst (v := 0) hx hb d_M_loose_4 (by decide) ?_
  refine lv_istore_n hx hb d_M_loose_5 rfl hl (by decide) rfl (fun ls hl => ?_)
  have hl : lv_has ls 4 [(1, .int 0), (0, .ref qo)] := hl
  refine lv_iconst (v := 0) hx hb d_M_loose_6 (by decide) ?_
  refine vz_top (y := nI 0) (by decide) ?_
  refine lv_istore_n hx hb d_M_loose_7 rfl hl (by decide) rfl (fun ls hl => ?_)
  have hl : lv_has ls 4 [(2, .int (nI 0)), (1, .int 0), (0, .ref qo)] := hl
  have lp_8 : ∀ (k_8 i_8 : Nat) (c_8 : Int32) (H : Heap) (locs : List Loc) (ls : Array Slot), i_8 + k_8 = (mGo n mh mk mt mv mb ml mg mc Q).1 → mLoose_L8 n mh mk mt mv mb ml mg mc Q k_8 i_8 c_8 = (mLoose n mh mk mt mv mb ml mg mc Q) → va_P (dC, dI) vwCl [(qo, .inr (3, [.int (nI n), .ref qha, .ref qkn, .ref qtr, .int ((mGo n mh mk mt mv mb ml mg mc Q).2.2.2.1), .ref qhv, .ref qbe, .int (nI ((mGo n mh mk mt mv mb ml mg mc Q).1)), .ref qlo, .ref qhi, .ref qpa, .ref qne, .ref qre])), (qha, .inl (cZ, 36, .inl mh)), (qkn, .inl (cZ, 36, .inl mk)), (qtr, .inl (cZ, 36, .inl ((mGo n mh mk mt mv mb ml mg mc Q).2.2.2.2.2.1))), (qhv, .inl (cI, 36, .inl ((mGo n mh mk mt mv mb ml mg mc Q).2.2.2.2.1))), (qbe, .inl (cZ, 36, .inl ((mGo n mh mk mt mv mb ml mg mc Q).2.2.2.2.2.2))), (qlo, .inl (cI, 9, .inl ((mGo n mh mk mt mv mb ml mg mc Q).2.1))), (qhi, .inl (cI, 9, .inl ((mGo n mh mk mt mv mb ml mg mc Q).2.2.1))), (qpa, .inl (cI, 6, .inl mp)), (qne, .inl (cI, 6, .inl mx)), (qre, .inl (cI, 6, .inl mr))] H → va_D (va_A [(qo, .inr (3, [.int (nI n), .ref qha, .ref qkn, .ref qtr, .int mc, .ref qhv, .ref qbe, .int (nI Q), .ref qlo, .ref qhi, .ref qpa, .ref qne, .ref qre])), (qha, .inl (cZ, 36, .inl mh)), (qkn, .inl (cZ, 36, .inl mk)), (qtr, .inl (cZ, 36, .inl mt)), (qhv, .inl (cI, 36, .inl mv)), (qbe, .inl (cZ, 36, .inl mb)), (qlo, .inl (cI, 9, .inl ml)), (qhi, .inl (cI, 9, .inl mg)), (qpa, .inl (cI, 6, .inl mp)), (qne, .inl (cI, 6, .inl mx)), (qre, .inl (cI, 6, .inl mr))] s.heap.size) [(qo, .inr (3, [.int (nI n), .ref qha, .ref qkn, .ref qtr, .int ((mGo n mh mk mt mv mb ml mg mc Q).2.2.2.1), .ref qhv, .ref qbe, .int (nI ((mGo n mh mk mt mv mb ml mg mc Q).1)), .ref qlo, .ref qhi, .ref qpa, .ref qne, .ref qre])), (qha, .inl (cZ, 36, .inl mh)), (qkn, .inl (cZ, 36, .inl mk)), (qtr, .inl (cZ, 36, .inl ((mGo n mh mk mt mv mb ml mg mc Q).2.2.2.2.2.1))), (qhv, .inl (cI, 36, .inl ((mGo n mh mk mt mv mb ml mg mc Q).2.2.2.2.1))), (qbe, .inl (cZ, 36, .inl ((mGo n mh mk mt mv mb ml mg mc Q).2.2.2.2.2.2))), (qlo, .inl (cI, 9, .inl ((mGo n mh mk mt mv mb ml mg mc Q).2.1))), (qhi, .inl (cI, 9, .inl ((mGo n mh mk mt mv mb ml mg mc Q).2.2.1))), (qpa, .inl (cI, 6, .inl mp)), (qne, .inl (cI, 6, .inl mx)), (qre, .inl (cI, 6, .inl mr))] → va_S (va_A [(qo, .inr (3, [.int (nI n), .ref qha, .ref qkn, .ref qtr, .int mc, .ref qhv, .ref qbe, .int (nI Q), .ref qlo, .ref qhi, .ref qpa, .ref qne, .ref qre])), (qha, .inl (cZ, 36, .inl mh)), (qkn, .inl (cZ, 36, .inl mk)), (qtr, .inl (cZ, 36, .inl mt)), (qhv, .inl (cI, 36, .inl mv)), (qbe, .inl (cZ, 36, .inl mb)), (qlo, .inl (cI, 9, .inl ml)), (qhi, .inl (cI, 9, .inl mg)), (qpa, .inl (cI, 6, .inl mp)), (qne, .inl (cI, 6, .inl mx)), (qre, .inl (cI, 6, .inl mr))] s.heap.size) s.heap H locs → lv_has ls 4 [(2, .int (nI i_8)), (1, .int c_8), (0, .ref qo)] → W p l e (headSpec w_M_loose rm_M_loose).room s m ([.ref qo] : List Value).toArray below meth c H locs 0 0 (MQ below (va_Qi (fun r (_ : Unit) => r = ((mLoose n mh mk mt mv mb ml mg mc Q).1)) (fun (_ : Unit) t => va_P (dC, dI) vwCl [(qo, .inr (3, [.int (nI n), .ref qha, .ref qkn, .ref qtr, .int ((mLoose n mh mk mt mv mb ml mg mc Q).2.2.2.2.1), .ref qhv, .ref qbe, .int (nI ((mLoose n mh mk mt mv mb ml mg mc Q).2.1)), .ref qlo, .ref qhi, .ref qpa, .ref qne, .ref qre])), (qha, .inl (cZ, 36, .inl mh)), (qkn, .inl (cZ, 36, .inl mk)), (qtr, .inl (cZ, 36, .inl ((mLoose n mh mk mt mv mb ml mg mc Q).2.2.2.2.2.2.1))), (qhv, .inl (cI, 36, .inl ((mLoose n mh mk mt mv mb ml mg mc Q).2.2.2.2.2.1))), (qbe, .inl (cZ, 36, .inl ((mLoose n mh mk mt mv mb ml mg mc Q).2.2.2.2.2.2.2))), (qlo, .inl (cI, 9, .inl ((mLoose n mh mk mt mv mb ml mg mc Q).2.2.1))), (qhi, .inl (cI, 9, .inl ((mLoose n mh mk mt mv mb ml mg mc Q).2.2.2.1))), (qpa, .inl (cI, 6, .inl mp)), (qne, .inl (cI, 6, .inl mx)), (qre, .inl (cI, 6, .inl mr))] t.heap ∧ va_K (dC, dI) vwCl [(cI, .int), (cZ, .boolean)] t ∧ va_D (va_A [(qo, .inr (3, [.int (nI n), .ref qha, .ref qkn, .ref qtr, .int mc, .ref qhv, .ref qbe, .int (nI Q), .ref qlo, .ref qhi, .ref qpa, .ref qne, .ref qre])), (qha, .inl (cZ, 36, .inl mh)), (qkn, .inl (cZ, 36, .inl mk)), (qtr, .inl (cZ, 36, .inl mt)), (qhv, .inl (cI, 36, .inl mv)), (qbe, .inl (cZ, 36, .inl mb)), (qlo, .inl (cI, 9, .inl ml)), (qhi, .inl (cI, 9, .inl mg)), (qpa, .inl (cI, 6, .inl mp)), (qne, .inl (cI, 6, .inl mx)), (qre, .inl (cI, 6, .inl mr))] s.heap.size) [(qo, .inr (3, [.int (nI n), .ref qha, .ref qkn, .ref qtr, .int ((mLoose n mh mk mt mv mb ml mg mc Q).2.2.2.2.1), .ref qhv, .ref qbe, .int (nI ((mLoose n mh mk mt mv mb ml mg mc Q).2.1)), .ref qlo, .ref qhi, .ref qpa, .ref qne, .ref qre])), (qha, .inl (cZ, 36, .inl mh)), (qkn, .inl (cZ, 36, .inl mk)), (qtr, .inl (cZ, 36, .inl ((mLoose n mh mk mt mv mb ml mg mc Q).2.2.2.2.2.2.1))), (qhv, .inl (cI, 36, .inl ((mLoose n mh mk mt mv mb ml mg mc Q).2.2.2.2.2.1))), (qbe, .inl (cZ, 36, .inl ((mLoose n mh mk mt mv mb ml mg mc Q).2.2.2.2.2.2.2))), (qlo, .inl (cI, 9, .inl ((mLoose n mh mk mt mv mb ml mg mc Q).2.2.1))), (qhi, .inl (cI, 9, .inl ((mLoose n mh mk mt mv mb ml mg mc Q).2.2.2.1))), (qpa, .inl (cI, 6, .inl mp)), (qne, .inl (cI, 6, .inl mx)), (qre, .inl (cI, 6, .inl mr))]) (va_A [(qo, .inr (3, [.int (nI n), .ref qha, .ref qkn, .ref qtr, .int mc, .ref qhv, .ref qbe, .int (nI Q), .ref qlo, .ref qhi, .ref qpa, .ref qne, .ref qre])), (qha, .inl (cZ, 36, .inl mh)), (qkn, .inl (cZ, 36, .inl mk)), (qtr, .inl (cZ, 36, .inl mt)), (qhv, .inl (cI, 36, .inl mv)), (qbe, .inl (cZ, 36, .inl mb)), (qlo, .inl (cI, 9, .inl ml)), (qhi, .inl (cI, 9, .inl mg)), (qpa, .inl (cI, 6, .inl mp)), (qne, .inl (cI, 6, .inl mx)), (qre, .inl (cI, 6, .inl mr))] s.heap.size)) ([.ref qo] : List Value).toArray s 0 0 (va_A [(qo, .inr (3, [.int (nI n), .ref qha, .ref qkn, .ref qtr, .int mc, .ref qhv, .ref qbe, .int (nI Q), .ref qlo, .ref qhi, .ref qpa, .ref qne, .ref qre])), (qha, .inl (cZ, 36, .inl mh)), (qkn, .inl (cZ, 36, .inl mk)), (qtr, .inl (cZ, 36, .inl mt)), (qhv, .inl (cI, 36, .inl mv)), (qbe, .inl (cZ, 36, .inl mb)), (qlo, .inl (cI, 9, .inl ml)), (qhi, .inl (cI, 9, .inl mg)), (qpa, .inl (cI, 6, .inl mp)), (qne, .inl (cI, 6, .inl mx)), (qre, .inl (cI, 6, .inl mr))] s.heap.size)) (F0 m 8 ls []) := by
    intro k_8
    induction k_8 with
    | zero =>
      intro i_8 c_8 H locs ls hik_8 hfin_8 hP hD hS hl
      refine lv_iload_n hx hb d_M_loose_8 rfl (lv_at hl 0 rfl) ?_
      refine lv_aload_n hx hb d_M_loose_9 rfl (lv_at hl 2 rfl) ?_
      refine va_get (D := (dC, dI)) (ci := 3) (v := .int (nI ((mGo n mh mk mt mv mb ml mg mc Q).1))) (C := "ArrowClassesModel") (T := TM) (N := 13) hx hb hT inM hown hK hP 0 rfl rfl 7 (by decide) (hT _ wd_fld_M_93) (fun _ h9 => h9) rfl d_M_loose_10 ?_
      refine lv_icmp_ge (tgt := 64) hx hb d_M_loose_13 (by decide) (fun _ => ?_) (fun h1 => by rw [nI_leI (by omega) (by omega)] at h1; omega)
      refine lv_iload_n hx hb d_M_loose_64 rfl (lv_at hl 1 rfl) ?_
      have hF : (mLoose n mh mk mt mv mb ml mg mc Q) = (c_8, ((mGo n mh mk mt mv mb ml mg mc Q).1), (mGo n mh mk mt mv mb ml mg mc Q).2.1, (mGo n mh mk mt mv mb ml mg mc Q).2.2.1, (mGo n mh mk mt mv mb ml mg mc Q).2.2.2.1, (mGo n mh mk mt mv mb ml mg mc Q).2.2.2.2.1, (mGo n mh mk mt mv mb ml mg mc Q).2.2.2.2.2.1, (mGo n mh mk mt mv mb ml mg mc Q).2.2.2.2.2.2) := (hfin_8.symm.trans (by rw [mLoose_L8]))
      exact W.iret hx hb hr (fun t ht hW => ⟨⟨c_8, (), rfl, by rw [hF], by rw [hF, ht]; exact hP, va_K.moved hW.alike hK, by rw [hF]; exact hD⟩, hS.F ht⟩) hS.2.2 d_M_loose_65
    | succ k_8 ih_8 =>
      intro i_8 c_8 H locs ls hik_8 hfin_8 hP hD hS hl
      refine lv_iload_n hx hb d_M_loose_8 rfl (lv_at hl 0 rfl) ?_
      refine lv_aload_n hx hb d_M_loose_9 rfl (lv_at hl 2 rfl) ?_
      refine va_get (D := (dC, dI)) (ci := 3) (v := .int (nI ((mGo n mh mk mt mv mb ml mg mc Q).1))) (C := "ArrowClassesModel") (T := TM) (N := 13) hx hb hT inM hown hK hP 0 rfl rfl 7 (by decide) (hT _ wd_fld_M_93) (fun _ h9 => h9) rfl d_M_loose_10 ?_
      refine lv_icmp_ge (tgt := 64) hx hb d_M_loose_13 (by decide) (fun h2 => by rw [nI_leI (by omega) (by omega)] at h2; omega) (fun _ => ?_)
      refine lv_aload_n hx hb d_M_loose_16 rfl (lv_at hl 2 rfl) ?_
      refine va_get (D := (dC, dI)) (ci := 3) (v := .ref qhv) (C := "ArrowClassesModel") (T := TM) (N := 13) hx hb hT inM hown hK hP 0 rfl rfl 5 (by decide) (hT _ wd_fld_M_19) (fun _ h9 => h9) rfl d_M_loose_17 ?_
      refine lv_bipush (v := 6) hx hb d_M_loose_20 (by decide) ?_
      refine lv_aload_n hx hb d_M_loose_22 rfl (lv_at hl 2 rfl) ?_
      refine va_get (D := (dC, dI)) (ci := 3) (v := .ref qlo) (C := "ArrowClassesModel") (T := TM) (N := 13) hx hb hT inM hown hK hP 0 rfl rfl 8 (by decide) (hT _ wd_fld_M_26) (fun _ h9 => h9) rfl d_M_loose_23 ?_
      refine lv_iload_n hx hb d_M_loose_26 rfl (lv_at hl 0 rfl) ?_
      refine va_iald (D := (dC, dI)) hx hb hK hP 6 0 rfl rfl (vp_in_nI (by omega) (by omega)) d_M_loose_27 ?_
      refine lv_imul hx hb d_M_loose_28 ?_
      refine lv_aload_n hx hb d_M_loose_29 rfl (lv_at hl 2 rfl) ?_
      refine va_get (D := (dC, dI)) (ci := 3) (v := .ref qhi) (C := "ArrowClassesModel") (T := TM) (N := 13) hx hb hT inM hown hK hP 0 rfl rfl 9 (by decide) (hT _ wd_fld_M_29) (fun _ h9 => h9) rfl d_M_loose_30 ?_
      refine lv_iload_n hx hb d_M_loose_33 rfl (lv_at hl 0 rfl) ?_
      refine va_iald (D := (dC, dI)) hx hb hK hP 7 0 rfl rfl (vp_in_nI (by omega) (by omega)) d_M_loose_34 ?_
      refine lv_iadd hx hb d_M_loose_35 ?_
      refine va_iald (D := (dC, dI)) hx hb hK hP 4 0 rfl rfl (vz_ix hn (hlf _ (by rw [nI_clamp (by omega)]; omega)) (hgf _ (by rw [nI_clamp (by omega)]; omega))) d_M_loose_36 ?_
      refine lv_istore_n hx hb d_M_loose_37 rfl hl (by decide) rfl (fun ls hl => ?_)
      have hl : lv_has ls 4 [(3, .int (((mGo n mh mk mt mv mb ml mg mc Q).2.2.2.2.1) ((6 * (((mGo n mh mk mt mv mb ml mg mc Q).2.1) (nI i_8).toNatClampNeg)) + (((mGo n mh mk mt mv mb ml mg mc Q).2.2.1) (nI i_8).toNatClampNeg)).toNatClampNeg)), (2, .int (nI i_8)), (1, .int c_8), (0, .ref qo)] := hl
      refine lv_iload_n hx hb d_M_loose_38 rfl (lv_at hl 0 rfl) ?_
      refine lv_if_le (tgt := 56) hx hb d_M_loose_39 (by decide) (fun h3 => ?_) (fun h3 => ?_)
      ·
        refine lv_iload_n hx hb d_M_loose_56 rfl (lv_at hl 2 rfl) ?_
        refine lv_istore_n hx hb d_M_loose_57 rfl hl (by decide) rfl (fun ls hl => ?_)
        have hl : lv_has ls 4 [(1, .int c_8), (3, .int (((mGo n mh mk mt mv mb ml mg mc Q).2.2.2.2.1) ((6 * (((mGo n mh mk mt mv mb ml mg mc Q).2.1) (nI i_8).toNatClampNeg)) + (((mGo n mh mk mt mv mb ml mg mc Q).2.2.1) (nI i_8).toNatClampNeg)).toNatClampNeg)), (2, .int (nI i_8)), (0, .ref qo)] := hl
        refine lv_iinc (k := 2) (v := nI (i_8 + 1)) hx hb d_M_loose_58 hl rfl (vz_inc i_8) (by decide) rfl (fun ls hl => ?_)
        have hl : lv_has ls 4 [(2, .int (nI (i_8 + 1))), (1, .int c_8), (3, .int (((mGo n mh mk mt mv mb ml mg mc Q).2.2.2.2.1) ((6 * (((mGo n mh mk mt mv mb ml mg mc Q).2.1) (nI i_8).toNatClampNeg)) + (((mGo n mh mk mt mv mb ml mg mc Q).2.2.1) (nI i_8).toNatClampNeg)).toNatClampNeg)), (0, .ref qo)] := hl
        refine lv_goto (tgt := 8) hx hb d_M_loose_61 (by decide) ?_
        exact ih_8 (i_8 + 1) c_8 H locs ls (by omega) (by rw [mLoose_L8, if_pos h3] at hfin_8; exact hfin_8) hP hD hS (lv_sub hl [0, 1, 3] rfl)
      ·
        refine lv_iload_n hx hb d_M_loose_42 rfl (lv_at hl 0 rfl) ?_
        refine lv_aload_n hx hb d_M_loose_43 rfl (lv_at hl 3 rfl) ?_
        refine va_get (D := (dC, dI)) (ci := 3) (v := .int ((mGo n mh mk mt mv mb ml mg mc Q).2.2.2.1)) (C := "ArrowClassesModel") (T := TM) (N := 13) hx hb hT inM hown hK hP 0 rfl rfl 4 (by decide) (hT _ wd_fld_M_103) (fun _ h9 => h9) rfl d_M_loose_44 ?_
        refine lv_icmp_ge (tgt := 56) hx hb d_M_loose_47 (by decide) (fun h4 => ?_) (fun h4 => ?_)
        ·
          refine lv_iload_n hx hb d_M_loose_56 rfl (lv_at hl 2 rfl) ?_
          refine lv_istore_n hx hb d_M_loose_57 rfl hl (by decide) rfl (fun ls hl => ?_)
          have hl : lv_has ls 4 [(1, .int c_8), (3, .int (((mGo n mh mk mt mv mb ml mg mc Q).2.2.2.2.1) ((6 * (((mGo n mh mk mt mv mb ml mg mc Q).2.1) (nI i_8).toNatClampNeg)) + (((mGo n mh mk mt mv mb ml mg mc Q).2.2.1) (nI i_8).toNatClampNeg)).toNatClampNeg)), (2, .int (nI i_8)), (0, .ref qo)] := hl
          refine lv_iinc (k := 2) (v := nI (i_8 + 1)) hx hb d_M_loose_58 hl rfl (vz_inc i_8) (by decide) rfl (fun ls hl => ?_)
          have hl : lv_has ls 4 [(2, .int (nI (i_8 + 1))), (1, .int c_8), (3, .int (((mGo n mh mk mt mv mb ml mg mc Q).2.2.2.2.1) ((6 * (((mGo n mh mk mt mv mb ml mg mc Q).2.1) (nI i_8).toNatClampNeg)) + (((mGo n mh mk mt mv mb ml mg mc Q).2.2.1) (nI i_8).toNatClampNeg)).toNatClampNeg)), (0, .ref qo)] := hl
          refine lv_goto (tgt := 8) hx hb d_M_loose_61 (by decide) ?_
          exact ih_8 (i_8 + 1) c_8 H locs ls (by omega) (by rw [mLoose_L8, if_neg h3, if_pos h4] at hfin_8; exact hfin_8) hP hD hS (lv_sub hl [0, 1, 3] rfl)
        ·
          refine lv_iload_n hx hb d_M_loose_50 rfl (lv_at hl 2 rfl) ?_
          refine lv_iconst (v := 1) hx hb d_M_loose_51 (by decide) ?_
          refine lv_iadd hx hb d_M_loose_52 ?_
          refine lv_goto (tgt := 57) hx hb d_M_loose_53 (by decide) ?_
          refine lv_istore_n hx hb d_M_loose_57 rfl hl (by decide) rfl (fun ls hl => ?_)
          have hl : lv_has ls 4 [(1, .int (c_8 + 1)), (3, .int (((mGo n mh mk mt mv mb ml mg mc Q).2.2.2.2.1) ((6 * (((mGo n mh mk mt mv mb ml mg mc Q).2.1) (nI i_8).toNatClampNeg)) + (((mGo n mh mk mt mv mb ml mg mc Q).2.2.1) (nI i_8).toNatClampNeg)).toNatClampNeg)), (2, .int (nI i_8)), (0, .ref qo)] := hl
          refine lv_iinc (k := 2) (v := nI (i_8 + 1)) hx hb d_M_loose_58 hl rfl (vz_inc i_8) (by decide) rfl (fun ls hl => ?_)
          have hl : lv_has ls 4 [(2, .int (nI (i_8 + 1))), (1, .int (c_8 + 1)), (3, .int (((mGo n mh mk mt mv mb ml mg mc Q).2.2.2.2.1) ((6 * (((mGo n mh mk mt mv mb ml mg mc Q).2.1) (nI i_8).toNatClampNeg)) + (((mGo n mh mk mt mv mb ml mg mc Q).2.2.1) (nI i_8).toNatClampNeg)).toNatClampNeg)), (0, .ref qo)] := hl
          refine lv_goto (tgt := 8) hx hb d_M_loose_61 (by decide) ?_
          exact ih_8 (i_8 + 1) (c_8 + 1) H locs ls (by omega) (by rw [mLoose_L8, if_neg h3, if_neg h4] at hfin_8; exact hfin_8) hP hD hS (lv_sub hl [0, 1, 3] rfl)
  exact lp_8 ((mGo n mh mk mt mv mb ml mg mc Q).1) 0 0 _ _ _ (by omega) (by rw [mLoose]) hP hD hS (lv_sub hl [0, 1, 2] rfl)
set_option maxRecDepth 100000 in
set_option maxHeartbeats 4000000 in
theorem c_M_know (l : Launch) (dC : Nat → ClassId) (dI : Nat → Nat → Nat) (cI cZ : ClassId) (qo qha qkn qtr qhv qbe qlo qhi qpa qne qre : Nat) (mp : Nat → Int32) (mx : Nat → Int32) (mr : Nat → Int32) (n : Nat) (mh : Nat → Int32) (mk : Nat → Int32) (mt : Nat → Int32) (mv : Nat → Int32) (mb : Nat → Int32) (ml : Nat → Int32) (mg : Nat → Int32) (mc : Int32) (Q : Nat) (u : Int32) (v : Int32) (hn : n ≤ 6) (hJ : jcO mh n n 0 ≤ 9) (sz : Nat) : Met l y_M_know w_M_know rm_M_know (va_Pc [.ref qo, .int u, .int v] (vz_Bw (dC, dI) vwCl [(qo, .inr (3, [.int (nI n), .ref qha, .ref qkn, .ref qtr, .int mc, .ref qhv, .ref qbe, .int (nI Q), .ref qlo, .ref qhi, .ref qpa, .ref qne, .ref qre])), (qha, .inl (cZ, 36, .inl mh)), (qkn, .inl (cZ, 36, .inl mk)), (qtr, .inl (cZ, 36, .inl mt)), (qhv, .inl (cI, 36, .inl mv)), (qbe, .inl (cZ, 36, .inl mb)), (qlo, .inl (cI, 9, .inl ml)), (qhi, .inl (cI, 9, .inl mg)), (qpa, .inl (cI, 6, .inl mp)), (qne, .inl (cI, 6, .inl mx)), (qre, .inl (cI, 6, .inl mr))] [(cI, .int), (cZ, .boolean)] sz)) (va_Qi (fun r (_ : Unit) => r = ((mKnow n mh mk mt mv mb ml mg mc Q u v).1)) (fun (_ : Unit) t => va_P (dC, dI) vwCl [(qo, .inr (3, [.int (nI n), .ref qha, .ref qkn, .ref qtr, .int ((mKnow n mh mk mt mv mb ml mg mc Q u v).2.2.2.2.2.1), .ref qhv, .ref qbe, .int (nI ((mKnow n mh mk mt mv mb ml mg mc Q u v).2.2.1)), .ref qlo, .ref qhi, .ref qpa, .ref qne, .ref qre])), (qha, .inl (cZ, 36, .inl mh)), (qkn, .inl (cZ, 36, .inl ((mKnow n mh mk mt mv mb ml mg mc Q u v).2.1))), (qtr, .inl (cZ, 36, .inl ((mKnow n mh mk mt mv mb ml mg mc Q u v).2.2.2.2.2.2.2.1))), (qhv, .inl (cI, 36, .inl ((mKnow n mh mk mt mv mb ml mg mc Q u v).2.2.2.2.2.2.1))), (qbe, .inl (cZ, 36, .inl ((mKnow n mh mk mt mv mb ml mg mc Q u v).2.2.2.2.2.2.2.2))), (qlo, .inl (cI, 9, .inl ((mKnow n mh mk mt mv mb ml mg mc Q u v).2.2.2.1))), (qhi, .inl (cI, 9, .inl ((mKnow n mh mk mt mv mb ml mg mc Q u v).2.2.2.2.1))), (qpa, .inl (cI, 6, .inl mp)), (qne, .inl (cI, 6, .inl mx)), (qre, .inl (cI, 6, .inl mr))] t.heap ∧ va_K (dC, dI) vwCl [(cI, .int), (cZ, .boolean)] t ∧ va_D (va_A [(qo, .inr (3, [.int (nI n), .ref qha, .ref qkn, .ref qtr, .int mc, .ref qhv, .ref qbe, .int (nI Q), .ref qlo, .ref qhi, .ref qpa, .ref qne, .ref qre])), (qha, .inl (cZ, 36, .inl mh)), (qkn, .inl (cZ, 36, .inl mk)), (qtr, .inl (cZ, 36, .inl mt)), (qhv, .inl (cI, 36, .inl mv)), (qbe, .inl (cZ, 36, .inl mb)), (qlo, .inl (cI, 9, .inl ml)), (qhi, .inl (cI, 9, .inl mg)), (qpa, .inl (cI, 6, .inl mp)), (qne, .inl (cI, 6, .inl mx)), (qre, .inl (cI, 6, .inl mr))] sz) [(qo, .inr (3, [.int (nI n), .ref qha, .ref qkn, .ref qtr, .int ((mKnow n mh mk mt mv mb ml mg mc Q u v).2.2.2.2.2.1), .ref qhv, .ref qbe, .int (nI ((mKnow n mh mk mt mv mb ml mg mc Q u v).2.2.1)), .ref qlo, .ref qhi, .ref qpa, .ref qne, .ref qre])), (qha, .inl (cZ, 36, .inl mh)), (qkn, .inl (cZ, 36, .inl ((mKnow n mh mk mt mv mb ml mg mc Q u v).2.1))), (qtr, .inl (cZ, 36, .inl ((mKnow n mh mk mt mv mb ml mg mc Q u v).2.2.2.2.2.2.2.1))), (qhv, .inl (cI, 36, .inl ((mKnow n mh mk mt mv mb ml mg mc Q u v).2.2.2.2.2.2.1))), (qbe, .inl (cZ, 36, .inl ((mKnow n mh mk mt mv mb ml mg mc Q u v).2.2.2.2.2.2.2.2))), (qlo, .inl (cI, 9, .inl ((mKnow n mh mk mt mv mb ml mg mc Q u v).2.2.2.1))), (qhi, .inl (cI, 9, .inl ((mKnow n mh mk mt mv mb ml mg mc Q u v).2.2.2.2.1))), (qpa, .inl (cI, 6, .inl mp)), (qne, .inl (cI, 6, .inl mx)), (qre, .inl (cI, 6, .inl mr))]) (va_A [(qo, .inr (3, [.int (nI n), .ref qha, .ref qkn, .ref qtr, .int mc, .ref qhv, .ref qbe, .int (nI Q), .ref qlo, .ref qhi, .ref qpa, .ref qne, .ref qre])), (qha, .inl (cZ, 36, .inl mh)), (qkn, .inl (cZ, 36, .inl mk)), (qtr, .inl (cZ, 36, .inl mt)), (qhv, .inl (cI, 36, .inl mv)), (qbe, .inl (cZ, 36, .inl mb)), (qlo, .inl (cI, 9, .inl ml)), (qhi, .inl (cI, 9, .inl mg)), (qpa, .inl (cI, 6, .inl mp)), (qne, .inl (cI, 6, .inl mx)), (qre, .inl (cI, 6, .inl mr))] sz)) 0 0 (va_A [(qo, .inr (3, [.int (nI n), .ref qha, .ref qkn, .ref qtr, .int mc, .ref qhv, .ref qbe, .int (nI Q), .ref qlo, .ref qhi, .ref qpa, .ref qne, .ref qre])), (qha, .inl (cZ, 36, .inl mh)), (qkn, .inl (cZ, 36, .inl mk)), (qtr, .inl (cZ, 36, .inl mt)), (qhv, .inl (cI, 36, .inl mv)), (qbe, .inl (cZ, 36, .inl mb)), (qlo, .inl (cI, 9, .inl ml)), (qhi, .inl (cI, 9, .inl mg)), (qpa, .inl (cI, 6, .inl mp)), (qne, .inl (cI, 6, .inl mx)), (qre, .inl (cI, 6, .inl mr))] sz) := by
  refine Met.ofW (cc := b_M_know) (maxL := 3) (ret := (some .boolean)) (by decide) rfl ?_
  intro p e s m args below meth c s₁ B hml hv
  obtain ⟨rfl, hsz, hP, hK, hD0, hN⟩ := hv
  have hx := B.exec
  have hb := B.bytes
  have hr := B.returns
  have hts := atoms_spec (ws := w_M_know) B.pre
  have hT : ∀ w ∈ vzB, w.before ([.ref qo, .int u, .int v] : List Value).toArray s = true := fun w h => hts w (List.mem_cons_of_mem _ h)
  have hown : s.vm.findClass "ArrowClassesModel" = some m.cls := findClass_of_methodNamed B.named
  have hlocks := B.notSynchronized
  subst hsz
  have hD := hD0.self (sz := s.heap.size)
  have hA : ∀ q : Nat, s.heap.size ≤ q → va_A [(qo, .inr (3, [.int (nI n), .ref qha, .ref qkn, .ref qtr, .int mc, .ref qhv, .ref qbe, .int (nI Q), .ref qlo, .ref qhi, .ref qpa, .ref qne, .ref qre])), (qha, .inl (cZ, 36, .inl mh)), (qkn, .inl (cZ, 36, .inl mk)), (qtr, .inl (cZ, 36, .inl mt)), (qhv, .inl (cI, 36, .inl mv)), (qbe, .inl (cZ, 36, .inl mb)), (qlo, .inl (cI, 9, .inl ml)), (qhi, .inl (cI, 9, .inl mg)), (qpa, .inl (cI, 6, .inl mp)), (qne, .inl (cI, 6, .inl mx)), (qre, .inl (cI, 6, .inl mr))] s.heap.size q := fun q h => Or.inr h
  have hS : va_S (va_A [(qo, .inr (3, [.int (nI n), .ref qha, .ref qkn, .ref qtr, .int mc, .ref qhv, .ref qbe, .int (nI Q), .ref qlo, .ref qhi, .ref qpa, .ref qne, .ref qre])), (qha, .inl (cZ, 36, .inl mh)), (qkn, .inl (cZ, 36, .inl mk)), (qtr, .inl (cZ, 36, .inl mt)), (qhv, .inl (cI, 36, .inl mv)), (qbe, .inl (cZ, 36, .inl mb)), (qlo, .inl (cI, 9, .inl ml)), (qhi, .inl (cI, 9, .inl mg)), (qpa, .inl (cI, 6, .inl mp)), (qne, .inl (cI, 6, .inl mx)), (qre, .inl (cI, 6, .inl mr))] s.heap.size) s.heap s.heap [] := va_S.rf
  have hl := lv_entry ([.ref qo, .int u, .int v]) (n := 3) (Nat.le_of_ble_eq_true rfl)
  rw [lg_entry_eq]
  generalize (lg_sl ([.ref qo, .int u, .int v]) ++ List.replicate (3 - (lg_sl ([.ref qo, .int u, .int v])).length) Slot.unset).toArray = ls at hl ⊢
  have hl : lv_has ls 3 [(0, .ref qo), (1, .int u), (2, .int v)] := hl
  refine lv_aload_n hx hb d_M_know_0 rfl (lv_at hl 0 rfl) ?_
  refine lv_iload_n hx hb d_M_know_1 rfl (lv_at hl 1 rfl) ?_
  refine lv_iload_n hx hb d_M_know_2 rfl (lv_at hl 2 rfl) ?_
  refine vz_ro (va_runV (As := [.int u, .int v]) (rest := []) ⟨hx, hb, hml, hown, hT⟩ (c_M_areNodes l dC dI cI cZ qo qha qkn qtr qhv qbe qlo qhi qpa qne qre mh mk mt mv mb ml mg mp mx mr mc Q n u v) (vz_cwV (n := 2) hT wd_link_M_49 wd_inst_M_areNodes wd_sel_M_areNodes wd_ini_M wd_code_M_areNodes (by decide +kernel) ⟨Nat.le_of_ble_eq_true rfl, Nat.le_of_ble_eq_true rfl⟩) (vz_pv (q0 := 0) (ci := 3) (q := ("ArrowClassesModel", TM, 13)) hN hK hP [0, 1, 2, 3, 4, 5, 6, 7, 8, 9, 10] rfl rfl rfl) rfl rfl hl.1 rfl (lv_room (Nat.le_of_ble_eq_true rfl)) d_M_know_3 ⟨Nat.zero_le _, Nat.zero_le _⟩) ?_
  refine lv_if_ne (tgt := 11) hx hb d_M_know_6 (by decide) (fun h1 => ?_) (fun h1 => ?_)
  ·
    obtain ⟨hvu, hvv, huv⟩ := mPair_in hn h1
    refine lv_aload_n hx hb d_M_know_11 rfl (lv_at hl 0 rfl) ?_
    refine vz_rv (wr := []) (w1 := [(qo, .inr (3, [.int (nI n), .ref qha, .ref qkn, .ref qtr, .int ((mGo n mh mk mt mv mb ml mg mc Q).2.2.2.1), .ref qhv, .ref qbe, .int (nI ((mGo n mh mk mt mv mb ml mg mc Q).1)), .ref qlo, .ref qhi, .ref qpa, .ref qne, .ref qre])), (qha, .inl (cZ, 36, .inl mh)), (qkn, .inl (cZ, 36, .inl mk)), (qtr, .inl (cZ, 36, .inl ((mGo n mh mk mt mv mb ml mg mc Q).2.2.2.2.2.1))), (qhv, .inl (cI, 36, .inl ((mGo n mh mk mt mv mb ml mg mc Q).2.2.2.2.1))), (qbe, .inl (cZ, 36, .inl ((mGo n mh mk mt mv mb ml mg mc Q).2.2.2.2.2.2))), (qlo, .inl (cI, 9, .inl ((mGo n mh mk mt mv mb ml mg mc Q).2.1))), (qhi, .inl (cI, 9, .inl ((mGo n mh mk mt mv mb ml mg mc Q).2.2.1))), (qpa, .inl (cI, 6, .inl mp)), (qne, .inl (cI, 6, .inl mx)), (qre, .inl (cI, 6, .inl mr))]) (va_runV (As := []) (rest := []) ⟨hx, hb, hml, hown, hT⟩ (c_M_goThrough l dC dI cI cZ qo qha qkn qtr qhv qbe qlo qhi qpa qne qre mp mx mr n mh mk mt mv mb ml mg mc Q (by omega) (by assumption) s.heap.size) (vz_cwV (n := 0) hT wd_link_M_113 wd_inst_M_goThrough wd_sel_M_goThrough wd_ini_M wd_code_M_goThrough (by decide +kernel) ⟨Nat.le_of_ble_eq_true rfl, Nat.le_of_ble_eq_true rfl⟩) (vz_pvw (q0 := 0) (ci := 3) (q := ("ArrowClassesModel", TM, 13)) hN hK hP hD [0, 1, 2, 3, 4, 5, 6, 7, 8, 9, 10] rfl (by decide) rfl rfl rfl) rfl rfl hl.1 rfl (lv_room (Nat.le_of_ble_eq_true rfl)) d_M_know_12 ⟨Nat.zero_le _, Nat.zero_le _⟩) hP hD hS hA [0, 1, 2, 3, 4, 5, 6, 7, 8, 9, 10] [] rfl rfl (by decide) (by decide) (fun H locs hP hD hS => ?_)
    have hP : va_P (dC, dI) vwCl [(qo, .inr (3, [.int (nI n), .ref qha, .ref qkn, .ref qtr, .int ((mGo n mh mk mt mv mb ml mg mc Q).2.2.2.1), .ref qhv, .ref qbe, .int (nI ((mGo n mh mk mt mv mb ml mg mc Q).1)), .ref qlo, .ref qhi, .ref qpa, .ref qne, .ref qre])), (qha, .inl (cZ, 36, .inl mh)), (qkn, .inl (cZ, 36, .inl mk)), (qtr, .inl (cZ, 36, .inl ((mGo n mh mk mt mv mb ml mg mc Q).2.2.2.2.2.1))), (qhv, .inl (cI, 36, .inl ((mGo n mh mk mt mv mb ml mg mc Q).2.2.2.2.1))), (qbe, .inl (cZ, 36, .inl ((mGo n mh mk mt mv mb ml mg mc Q).2.2.2.2.2.2))), (qlo, .inl (cI, 9, .inl ((mGo n mh mk mt mv mb ml mg mc Q).2.1))), (qhi, .inl (cI, 9, .inl ((mGo n mh mk mt mv mb ml mg mc Q).2.2.1))), (qpa, .inl (cI, 6, .inl mp)), (qne, .inl (cI, 6, .inl mx)), (qre, .inl (cI, 6, .inl mr))] H := hP.sub [0, 1, 2, 3, 4, 5, 6, 7, 8, 9, 10] rfl
    have hD : va_D (va_A [(qo, .inr (3, [.int (nI n), .ref qha, .ref qkn, .ref qtr, .int mc, .ref qhv, .ref qbe, .int (nI Q), .ref qlo, .ref qhi, .ref qpa, .ref qne, .ref qre])), (qha, .inl (cZ, 36, .inl mh)), (qkn, .inl (cZ, 36, .inl mk)), (qtr, .inl (cZ, 36, .inl mt)), (qhv, .inl (cI, 36, .inl mv)), (qbe, .inl (cZ, 36, .inl mb)), (qlo, .inl (cI, 9, .inl ml)), (qhi, .inl (cI, 9, .inl mg)), (qpa, .inl (cI, 6, .inl mp)), (qne, .inl (cI, 6, .inl mx)), (qre, .inl (cI, 6, .inl mr))] s.heap.size) [(qo, .inr (3, [.int (nI n), .ref qha, .ref qkn, .ref qtr, .int ((mGo n mh mk mt mv mb ml mg mc Q).2.2.2.1), .ref qhv, .ref qbe, .int (nI ((mGo n mh mk mt mv mb ml mg mc Q).1)), .ref qlo, .ref qhi, .ref qpa, .ref qne, .ref qre])), (qha, .inl (cZ, 36, .inl mh)), (qkn, .inl (cZ, 36, .inl mk)), (qtr, .inl (cZ, 36, .inl ((mGo n mh mk mt mv mb ml mg mc Q).2.2.2.2.2.1))), (qhv, .inl (cI, 36, .inl ((mGo n mh mk mt mv mb ml mg mc Q).2.2.2.2.1))), (qbe, .inl (cZ, 36, .inl ((mGo n mh mk mt mv mb ml mg mc Q).2.2.2.2.2.2))), (qlo, .inl (cI, 9, .inl ((mGo n mh mk mt mv mb ml mg mc Q).2.1))), (qhi, .inl (cI, 9, .inl ((mGo n mh mk mt mv mb ml mg mc Q).2.2.1))), (qpa, .inl (cI, 6, .inl mp)), (qne, .inl (cI, 6, .inl mx)), (qre, .inl (cI, 6, .inl mr))] := hD.sub [0, 1, 2, 3, 4, 5, 6, 7, 8, 9, 10] (by decide) rfl
    refine lv_aload_n hx hb d_M_know_15 rfl (lv_at hl 0 rfl) ?_
    refine va_get (D := (dC, dI)) (ci := 3) (v := .ref qhv) (C := "ArrowClassesModel") (T := TM) (N := 13) hx hb hT inM hown hK hP 0 rfl rfl 5 (by decide) (hT _ wd_fld_M_19) (fun _ h9 => h9) rfl d_M_know_16 ?_
    refine lv_bipush (v := 6) hx hb d_M_know_19 (by decide) ?_
    refine lv_iload_n hx hb d_M_know_21 rfl (lv_at hl 1 rfl) ?_
    refine lv_imul hx hb d_M_know_22 ?_
    refine lv_iload_n hx hb d_M_know_23 rfl (lv_at hl 2 rfl) ?_
    refine lv_iadd hx hb d_M_know_24 ?_
    refine va_iald (D := (dC, dI)) hx hb hK hP 4 0 rfl rfl (vz_ix hn (by assumption) (by assumption)) d_M_know_25 ?_
    refine lv_if_ne (tgt := 31) hx hb d_M_know_26 (by decide) (fun h2 => ?_) (fun h2 => ?_)
    ·
      refine lv_aload_n hx hb d_M_know_31 rfl (lv_at hl 0 rfl) ?_
      refine va_get (D := (dC, dI)) (ci := 3) (v := .ref qkn) (C := "ArrowClassesModel") (T := TM) (N := 13) hx hb hT inM hown hK hP 0 rfl rfl 2 (by decide) (hT _ wd_fld_M_13) (fun _ h9 => h9) rfl d_M_know_32 ?_
      refine lv_bipush (v := 6) hx hb d_M_know_35 (by decide) ?_
      refine lv_iload_n hx hb d_M_know_37 rfl (lv_at hl 1 rfl) ?_
      refine lv_imul hx hb d_M_know_38 ?_
      refine lv_iload_n hx hb d_M_know_39 rfl (lv_at hl 2 rfl) ?_
      refine lv_iadd hx hb d_M_know_40 ?_
      refine lv_iconst (v := 1) hx hb d_M_know_41 (by decide) ?_
      refine va_zast (D := (dC, dI)) hx hb hK hP hD hS 2 1 rfl rfl (vz_ix hn (by assumption) (by assumption)) d_M_know_42 (fun H locs hP hD hS => ?_)
      have hP : va_P (dC, dI) vwCl [(qo, .inr (3, [.int (nI n), .ref qha, .ref qkn, .ref qtr, .int ((mGo n mh mk mt mv mb ml mg mc Q).2.2.2.1), .ref qhv, .ref qbe, .int (nI ((mGo n mh mk mt mv mb ml mg mc Q).1)), .ref qlo, .ref qhi, .ref qpa, .ref qne, .ref qre])), (qha, .inl (cZ, 36, .inl mh)), (qkn, .inl (cZ, 36, .inl (upd mk ((6 * u) + v).toNatClampNeg (vp_nar .boolean 1)))), (qtr, .inl (cZ, 36, .inl ((mGo n mh mk mt mv mb ml mg mc Q).2.2.2.2.2.1))), (qhv, .inl (cI, 36, .inl ((mGo n mh mk mt mv mb ml mg mc Q).2.2.2.2.1))), (qbe, .inl (cZ, 36, .inl ((mGo n mh mk mt mv mb ml mg mc Q).2.2.2.2.2.2))), (qlo, .inl (cI, 9, .inl ((mGo n mh mk mt mv mb ml mg mc Q).2.1))), (qhi, .inl (cI, 9, .inl ((mGo n mh mk mt mv mb ml mg mc Q).2.2.1))), (qpa, .inl (cI, 6, .inl mp)), (qne, .inl (cI, 6, .inl mx)), (qre, .inl (cI, 6, .inl mr))] H := hP
      have hD : va_D (va_A [(qo, .inr (3, [.int (nI n), .ref qha, .ref qkn, .ref qtr, .int mc, .ref qhv, .ref qbe, .int (nI Q), .ref qlo, .ref qhi, .ref qpa, .ref qne, .ref qre])), (qha, .inl (cZ, 36, .inl mh)), (qkn, .inl (cZ, 36, .inl mk)), (qtr, .inl (cZ, 36, .inl mt)), (qhv, .inl (cI, 36, .inl mv)), (qbe, .inl (cZ, 36, .inl mb)), (qlo, .inl (cI, 9, .inl ml)), (qhi, .inl (cI, 9, .inl mg)), (qpa, .inl (cI, 6, .inl mp)), (qne, .inl (cI, 6, .inl mx)), (qre, .inl (cI, 6, .inl mr))] s.heap.size) [(qo, .inr (3, [.int (nI n), .ref qha, .ref qkn, .ref qtr, .int ((mGo n mh mk mt mv mb ml mg mc Q).2.2.2.1), .ref qhv, .ref qbe, .int (nI ((mGo n mh mk mt mv mb ml mg mc Q).1)), .ref qlo, .ref qhi, .ref qpa, .ref qne, .ref qre])), (qha, .inl (cZ, 36, .inl mh)), (qkn, .inl (cZ, 36, .inl (upd mk ((6 * u) + v).toNatClampNeg (vp_nar .boolean 1)))), (qtr, .inl (cZ, 36, .inl ((mGo n mh mk mt mv mb ml mg mc Q).2.2.2.2.2.1))), (qhv, .inl (cI, 36, .inl ((mGo n mh mk mt mv mb ml mg mc Q).2.2.2.2.1))), (qbe, .inl (cZ, 36, .inl ((mGo n mh mk mt mv mb ml mg mc Q).2.2.2.2.2.2))), (qlo, .inl (cI, 9, .inl ((mGo n mh mk mt mv mb ml mg mc Q).2.1))), (qhi, .inl (cI, 9, .inl ((mGo n mh mk mt mv mb ml mg mc Q).2.2.1))), (qpa, .inl (cI, 6, .inl mp)), (qne, .inl (cI, 6, .inl mx)), (qre, .inl (cI, 6, .inl mr))] := hD
      refine lv_iconst (v := 1) hx hb d_M_know_43 (by decide) ?_
      have hF : (mKnow n mh mk mt mv mb ml mg mc Q u v) = (1, upd mk ((6 * u) + v).toNatClampNeg (vp_nar .boolean 1), ((mGo n mh mk mt mv mb ml mg mc Q).1), (mGo n mh mk mt mv mb ml mg mc Q).2.1, (mGo n mh mk mt mv mb ml mg mc Q).2.2.1, (mGo n mh mk mt mv mb ml mg mc Q).2.2.2.1, (mGo n mh mk mt mv mb ml mg mc Q).2.2.2.2.1, (mGo n mh mk mt mv mb ml mg mc Q).2.2.2.2.2.1, (mGo n mh mk mt mv mb ml mg mc Q).2.2.2.2.2.2) := (by rw [mKnow, if_neg h1, if_neg h2])
      exact W.zret hx hb hr (by decide) (fun t ht hW => ⟨⟨(1 : Int32), (), rfl, by rw [hF], by rw [hF, ht]; exact hP, va_K.moved hW.alike hK, by rw [hF]; exact hD⟩, hS.F ht⟩) hS.2.2 d_M_know_44
    ·
      refine lv_iconst (v := 0) hx hb d_M_know_29 (by decide) ?_
      have hF : (mKnow n mh mk mt mv mb ml mg mc Q u v) = (0, mk, ((mGo n mh mk mt mv mb ml mg mc Q).1), (mGo n mh mk mt mv mb ml mg mc Q).2.1, (mGo n mh mk mt mv mb ml mg mc Q).2.2.1, (mGo n mh mk mt mv mb ml mg mc Q).2.2.2.1, (mGo n mh mk mt mv mb ml mg mc Q).2.2.2.2.1, (mGo n mh mk mt mv mb ml mg mc Q).2.2.2.2.2.1, (mGo n mh mk mt mv mb ml mg mc Q).2.2.2.2.2.2) := (by rw [mKnow, if_neg h1, if_pos h2])
      exact W.zret hx hb hr (by decide) (fun t ht hW => ⟨⟨(0 : Int32), (), rfl, by rw [hF], by rw [hF, ht]; exact hP, va_K.moved hW.alike hK, by rw [hF]; exact hD⟩, hS.F ht⟩) hS.2.2 d_M_know_30
  ·
    refine lv_iconst (v := 0) hx hb d_M_know_9 (by decide) ?_
    have hF : (mKnow n mh mk mt mv mb ml mg mc Q u v) = (0, mk, Q, ml, mg, mc, mv, mt, mb) := (by rw [mKnow, if_pos h1])
    exact W.zret hx hb hr (by decide) (fun t ht hW => ⟨⟨(0 : Int32), (), rfl, by rw [hF], by rw [hF, ht]; exact hP, va_K.moved hW.alike hK, by rw [hF]; exact hD⟩, hS.F ht⟩) hS.2.2 d_M_know_10
set_option maxRecDepth 100000 in
set_option maxHeartbeats 4000000 in
theorem c_M_forget (l : Launch) (dC : Nat → ClassId) (dI : Nat → Nat → Nat) (cI cZ : ClassId) (qo qha qkn qtr qhv qbe qlo qhi qpa qne qre : Nat) (n : Nat) (mh : Nat → Int32) (mt : Nat → Int32) (mv : Nat → Int32) (mb : Nat → Int32) (ml : Nat → Int32) (mg : Nat → Int32) (mp : Nat → Int32) (mx : Nat → Int32) (mr : Nat → Int32) (mc : Int32) (Q : Nat) (mk : Nat → Int32) (sz : Nat) : Met l y_M_forget w_M_forget rm_M_forget (va_Pc [.ref qo] (vz_Bw (dC, dI) vwCl [(qo, .inr (3, [.int (nI n), .ref qha, .ref qkn, .ref qtr, .int mc, .ref qhv, .ref qbe, .int (nI Q), .ref qlo, .ref qhi, .ref qpa, .ref qne, .ref qre])), (qha, .inl (cZ, 36, .inl mh)), (qkn, .inl (cZ, 36, .inl mk)), (qtr, .inl (cZ, 36, .inl mt)), (qhv, .inl (cI, 36, .inl mv)), (qbe, .inl (cZ, 36, .inl mb)), (qlo, .inl (cI, 9, .inl ml)), (qhi, .inl (cI, 9, .inl mg)), (qpa, .inl (cI, 6, .inl mp)), (qne, .inl (cI, 6, .inl mx)), (qre, .inl (cI, 6, .inl mr))] [(cI, .int), (cZ, .boolean)] sz)) (va_Qi (fun r (_ : Unit) => r = ((mForget mk).1)) (fun (_ : Unit) t => va_P (dC, dI) vwCl [(qo, .inr (3, [.int (nI n), .ref qha, .ref qkn, .ref qtr, .int mc, .ref qhv, .ref qbe, .int (nI Q), .ref qlo, .ref qhi, .ref qpa, .ref qne, .ref qre])), (qha, .inl (cZ, 36, .inl mh)), (qkn, .inl (cZ, 36, .inl ((mForget mk).2))), (qtr, .inl (cZ, 36, .inl mt)), (qhv, .inl (cI, 36, .inl mv)), (qbe, .inl (cZ, 36, .inl mb)), (qlo, .inl (cI, 9, .inl ml)), (qhi, .inl (cI, 9, .inl mg)), (qpa, .inl (cI, 6, .inl mp)), (qne, .inl (cI, 6, .inl mx)), (qre, .inl (cI, 6, .inl mr))] t.heap ∧ va_K (dC, dI) vwCl [(cI, .int), (cZ, .boolean)] t ∧ va_D (va_A [(qo, .inr (3, [.int (nI n), .ref qha, .ref qkn, .ref qtr, .int mc, .ref qhv, .ref qbe, .int (nI Q), .ref qlo, .ref qhi, .ref qpa, .ref qne, .ref qre])), (qha, .inl (cZ, 36, .inl mh)), (qkn, .inl (cZ, 36, .inl mk)), (qtr, .inl (cZ, 36, .inl mt)), (qhv, .inl (cI, 36, .inl mv)), (qbe, .inl (cZ, 36, .inl mb)), (qlo, .inl (cI, 9, .inl ml)), (qhi, .inl (cI, 9, .inl mg)), (qpa, .inl (cI, 6, .inl mp)), (qne, .inl (cI, 6, .inl mx)), (qre, .inl (cI, 6, .inl mr))] sz) [(qo, .inr (3, [.int (nI n), .ref qha, .ref qkn, .ref qtr, .int mc, .ref qhv, .ref qbe, .int (nI Q), .ref qlo, .ref qhi, .ref qpa, .ref qne, .ref qre])), (qha, .inl (cZ, 36, .inl mh)), (qkn, .inl (cZ, 36, .inl ((mForget mk).2))), (qtr, .inl (cZ, 36, .inl mt)), (qhv, .inl (cI, 36, .inl mv)), (qbe, .inl (cZ, 36, .inl mb)), (qlo, .inl (cI, 9, .inl ml)), (qhi, .inl (cI, 9, .inl mg)), (qpa, .inl (cI, 6, .inl mp)), (qne, .inl (cI, 6, .inl mx)), (qre, .inl (cI, 6, .inl mr))]) (va_A [(qo, .inr (3, [.int (nI n), .ref qha, .ref qkn, .ref qtr, .int mc, .ref qhv, .ref qbe, .int (nI Q), .ref qlo, .ref qhi, .ref qpa, .ref qne, .ref qre])), (qha, .inl (cZ, 36, .inl mh)), (qkn, .inl (cZ, 36, .inl mk)), (qtr, .inl (cZ, 36, .inl mt)), (qhv, .inl (cI, 36, .inl mv)), (qbe, .inl (cZ, 36, .inl mb)), (qlo, .inl (cI, 9, .inl ml)), (qhi, .inl (cI, 9, .inl mg)), (qpa, .inl (cI, 6, .inl mp)), (qne, .inl (cI, 6, .inl mx)), (qre, .inl (cI, 6, .inl mr))] sz)) 0 0 (va_A [(qo, .inr (3, [.int (nI n), .ref qha, .ref qkn, .ref qtr, .int mc, .ref qhv, .ref qbe, .int (nI Q), .ref qlo, .ref qhi, .ref qpa, .ref qne, .ref qre])), (qha, .inl (cZ, 36, .inl mh)), (qkn, .inl (cZ, 36, .inl mk)), (qtr, .inl (cZ, 36, .inl mt)), (qhv, .inl (cI, 36, .inl mv)), (qbe, .inl (cZ, 36, .inl mb)), (qlo, .inl (cI, 9, .inl ml)), (qhi, .inl (cI, 9, .inl mg)), (qpa, .inl (cI, 6, .inl mp)), (qne, .inl (cI, 6, .inl mx)), (qre, .inl (cI, 6, .inl mr))] sz) := by
  refine Met.ofW (cc := b_M_forget) (maxL := 3) (ret := (some .int)) (by decide) rfl ?_
  intro p e s m args below meth c s₁ B hml hv
  obtain ⟨rfl, hsz, hP, hK, hD0, hN⟩ := hv
  have hx := B.exec
  have hb := B.bytes
  have hr := B.returns
  have hts := atoms_spec (ws := w_M_forget) B.pre
  have hT : ∀ w ∈ vzB, w.before ([.ref qo] : List Value).toArray s = true := fun w h => hts w (List.mem_cons_of_mem _ h)
  have hown : s.vm.findClass "ArrowClassesModel" = some m.cls := findClass_of_methodNamed B.named
  have hlocks := B.notSynchronized
  subst hsz
  have hD := hD0.self (sz := s.heap.size)
  have hA : ∀ q : Nat, s.heap.size ≤ q → va_A [(qo, .inr (3, [.int (nI n), .ref qha, .ref qkn, .ref qtr, .int mc, .ref qhv, .ref qbe, .int (nI Q), .ref qlo, .ref qhi, .ref qpa, .ref qne, .ref qre])), (qha, .inl (cZ, 36, .inl mh)), (qkn, .inl (cZ, 36, .inl mk)), (qtr, .inl (cZ, 36, .inl mt)), (qhv, .inl (cI, 36, .inl mv)), (qbe, .inl (cZ, 36, .inl mb)), (qlo, .inl (cI, 9, .inl ml)), (qhi, .inl (cI, 9, .inl mg)), (qpa, .inl (cI, 6, .inl mp)), (qne, .inl (cI, 6, .inl mx)), (qre, .inl (cI, 6, .inl mr))] s.heap.size q := fun q h => Or.inr h
  have hS : va_S (va_A [(qo, .inr (3, [.int (nI n), .ref qha, .ref qkn, .ref qtr, .int mc, .ref qhv, .ref qbe, .int (nI Q), .ref qlo, .ref qhi, .ref qpa, .ref qne, .ref qre])), (qha, .inl (cZ, 36, .inl mh)), (qkn, .inl (cZ, 36, .inl mk)), (qtr, .inl (cZ, 36, .inl mt)), (qhv, .inl (cI, 36, .inl mv)), (qbe, .inl (cZ, 36, .inl mb)), (qlo, .inl (cI, 9, .inl ml)), (qhi, .inl (cI, 9, .inl mg)), (qpa, .inl (cI, 6, .inl mp)), (qne, .inl (cI, 6, .inl mx)), (qre, .inl (cI, 6, .inl mr))] s.heap.size) s.heap s.heap [] := va_S.rf
  have hl := lv_entry ([.ref qo]) (n := 3) (Nat.le_of_ble_eq_true rfl)
  rw [lg_entry_eq]
  generalize (lg_sl ([.ref qo]) ++ List.replicate (3 - (lg_sl ([.ref qo])).length) Slot.unset).toArray = ls at hl ⊢
  have hl : lv_has ls 3 [(0, .ref qo)] := hl
  refine lv_iconst (v := 0) hx hb d_M_forget_0 (by decide) ?_
  refine lv_istore_n hx hb d_M_forget_1 rfl hl (by decide) rfl (fun ls hl => ?_)
  have hl : lv_has ls 3 [(1, .int 0), (0, .ref qo)] := hl
  refine lv_iconst (v := 0) hx hb d_M_forget_2 (by decide) ?_
  refine vz_top (y := nI 0) (by decide) ?_
  refine lv_istore_n hx hb d_M_forget_3 rfl hl (by decide) rfl (fun ls hl => ?_)
  have hl : lv_has ls 3 [(2, .int (nI 0)), (1, .int 0), (0, .ref qo)] := hl
  have lp_4 : ∀ (k_4 i_4 : Nat) (c_4 : Int32) (H : Heap) (locs : List Loc) (ls : Array Slot), i_4 + k_4 = 36 → mForget_L4 mk k_4 i_4 c_4 = (mForget mk) → va_P (dC, dI) vwCl [(qo, .inr (3, [.int (nI n), .ref qha, .ref qkn, .ref qtr, .int mc, .ref qhv, .ref qbe, .int (nI Q), .ref qlo, .ref qhi, .ref qpa, .ref qne, .ref qre])), (qha, .inl (cZ, 36, .inl mh)), (qkn, .inl (cZ, 36, .inl mk)), (qtr, .inl (cZ, 36, .inl mt)), (qhv, .inl (cI, 36, .inl mv)), (qbe, .inl (cZ, 36, .inl mb)), (qlo, .inl (cI, 9, .inl ml)), (qhi, .inl (cI, 9, .inl mg)), (qpa, .inl (cI, 6, .inl mp)), (qne, .inl (cI, 6, .inl mx)), (qre, .inl (cI, 6, .inl mr))] H → va_D (va_A [(qo, .inr (3, [.int (nI n), .ref qha, .ref qkn, .ref qtr, .int mc, .ref qhv, .ref qbe, .int (nI Q), .ref qlo, .ref qhi, .ref qpa, .ref qne, .ref qre])), (qha, .inl (cZ, 36, .inl mh)), (qkn, .inl (cZ, 36, .inl mk)), (qtr, .inl (cZ, 36, .inl mt)), (qhv, .inl (cI, 36, .inl mv)), (qbe, .inl (cZ, 36, .inl mb)), (qlo, .inl (cI, 9, .inl ml)), (qhi, .inl (cI, 9, .inl mg)), (qpa, .inl (cI, 6, .inl mp)), (qne, .inl (cI, 6, .inl mx)), (qre, .inl (cI, 6, .inl mr))] s.heap.size) [(qo, .inr (3, [.int (nI n), .ref qha, .ref qkn, .ref qtr, .int mc, .ref qhv, .ref qbe, .int (nI Q), .ref qlo, .ref qhi, .ref qpa, .ref qne, .ref qre])), (qha, .inl (cZ, 36, .inl mh)), (qkn, .inl (cZ, 36, .inl mk)), (qtr, .inl (cZ, 36, .inl mt)), (qhv, .inl (cI, 36, .inl mv)), (qbe, .inl (cZ, 36, .inl mb)), (qlo, .inl (cI, 9, .inl ml)), (qhi, .inl (cI, 9, .inl mg)), (qpa, .inl (cI, 6, .inl mp)), (qne, .inl (cI, 6, .inl mx)), (qre, .inl (cI, 6, .inl mr))] → va_S (va_A [(qo, .inr (3, [.int (nI n), .ref qha, .ref qkn, .ref qtr, .int mc, .ref qhv, .ref qbe, .int (nI Q), .ref qlo, .ref qhi, .ref qpa, .ref qne, .ref qre])), (qha, .inl (cZ, 36, .inl mh)), (qkn, .inl (cZ, 36, .inl mk)), (qtr, .inl (cZ, 36, .inl mt)), (qhv, .inl (cI, 36, .inl mv)), (qbe, .inl (cZ, 36, .inl mb)), (qlo, .inl (cI, 9, .inl ml)), (qhi, .inl (cI, 9, .inl mg)), (qpa, .inl (cI, 6, .inl mp)), (qne, .inl (cI, 6, .inl mx)), (qre, .inl (cI, 6, .inl mr))] s.heap.size) s.heap H locs → lv_has ls 3 [(2, .int (nI i_4)), (1, .int c_4), (0, .ref qo)] → W p l e (headSpec w_M_forget rm_M_forget).room s m ([.ref qo] : List Value).toArray below meth c H locs 0 0 (MQ below (va_Qi (fun r (_ : Unit) => r = ((mForget mk).1)) (fun (_ : Unit) t => va_P (dC, dI) vwCl [(qo, .inr (3, [.int (nI n), .ref qha, .ref qkn, .ref qtr, .int mc, .ref qhv, .ref qbe, .int (nI Q), .ref qlo, .ref qhi, .ref qpa, .ref qne, .ref qre])), (qha, .inl (cZ, 36, .inl mh)), (qkn, .inl (cZ, 36, .inl ((mForget mk).2))), (qtr, .inl (cZ, 36, .inl mt)), (qhv, .inl (cI, 36, .inl mv)), (qbe, .inl (cZ, 36, .inl mb)), (qlo, .inl (cI, 9, .inl ml)), (qhi, .inl (cI, 9, .inl mg)), (qpa, .inl (cI, 6, .inl mp)), (qne, .inl (cI, 6, .inl mx)), (qre, .inl (cI, 6, .inl mr))] t.heap ∧ va_K (dC, dI) vwCl [(cI, .int), (cZ, .boolean)] t ∧ va_D (va_A [(qo, .inr (3, [.int (nI n), .ref qha, .ref qkn, .ref qtr, .int mc, .ref qhv, .ref qbe, .int (nI Q), .ref qlo, .ref qhi, .ref qpa, .ref qne, .ref qre])), (qha, .inl (cZ, 36, .inl mh)), (qkn, .inl (cZ, 36, .inl mk)), (qtr, .inl (cZ, 36, .inl mt)), (qhv, .inl (cI, 36, .inl mv)), (qbe, .inl (cZ, 36, .inl mb)), (qlo, .inl (cI, 9, .inl ml)), (qhi, .inl (cI, 9, .inl mg)), (qpa, .inl (cI, 6, .inl mp)), (qne, .inl (cI, 6, .inl mx)), (qre, .inl (cI, 6, .inl mr))] s.heap.size) [(qo, .inr (3, [.int (nI n), .ref qha, .ref qkn, .ref qtr, .int mc, .ref qhv, .ref qbe, .int (nI Q), .ref qlo, .ref qhi, .ref qpa, .ref qne, .ref qre])), (qha, .inl (cZ, 36, .inl mh)), (qkn, .inl (cZ, 36, .inl ((mForget mk).2))), (qtr, .inl (cZ, 36, .inl mt)), (qhv, .inl (cI, 36, .inl mv)), (qbe, .inl (cZ, 36, .inl mb)), (qlo, .inl (cI, 9, .inl ml)), (qhi, .inl (cI, 9, .inl mg)), (qpa, .inl (cI, 6, .inl mp)), (qne, .inl (cI, 6, .inl mx)), (qre, .inl (cI, 6, .inl mr))]) (va_A [(qo, .inr (3, [.int (nI n), .ref qha, .ref qkn, .ref qtr, .int mc, .ref qhv, .ref qbe, .int (nI Q), .ref qlo, .ref qhi, .ref qpa, .ref qne, .ref qre])), (qha, .inl (cZ, 36, .inl mh)), (qkn, .inl (cZ, 36, .inl mk)), (qtr, .inl (cZ, 36, .inl mt)), (qhv, .inl (cI, 36, .inl mv)), (qbe, .inl (cZ, 36, .inl mb)), (qlo, .inl (cI, 9, .inl ml)), (qhi, .inl (cI, 9, .inl mg)), (qpa, .inl (cI, 6, .inl mp)), (qne, .inl (cI, 6, .inl mx)), (qre, .inl (cI, 6, .inl mr))] s.heap.size)) ([.ref qo] : List Value).toArray s 0 0 (va_A [(qo, .inr (3, [.int (nI n), .ref qha, .ref qkn, .ref qtr, .int mc, .ref qhv, .ref qbe, .int (nI Q), .ref qlo, .ref qhi, .ref qpa, .ref qne, .ref qre])), (qha, .inl (cZ, 36, .inl mh)), (qkn, .inl (cZ, 36, .inl mk)), (qtr, .inl (cZ, 36, .inl mt)), (qhv, .inl (cI, 36, .inl mv)), (qbe, .inl (cZ, 36, .inl mb)), (qlo, .inl (cI, 9, .inl ml)), (qhi, .inl (cI, 9, .inl mg)), (qpa, .inl (cI, 6, .inl mp)), (qne, .inl (cI, 6, .inl mx)), (qre, .inl (cI, 6, .inl mr))] s.heap.size)) (F0 m 4 ls []) := by
    intro k_4
    induction k_4 with
    | zero =>
      intro i_4 c_4 H locs ls hik_4 hfin_4 hP hD hS hl
      refine lv_iload_n hx hb d_M_forget_4 rfl (lv_at hl 0 rfl) ?_
      refine lv_bipush (v := 36) hx hb d_M_forget_5 (by decide) ?_
      refine vz_top (y := nI 36) (by decide) ?_
      refine lv_icmp_ge (tgt := 33) hx hb d_M_forget_7 (by decide) (fun _ => ?_) (fun h1 => by rw [nI_leI (by omega) (by omega)] at h1; omega)
      refine lv_aload_n hx hb d_M_forget_33 rfl (lv_at hl 2 rfl) ?_
      refine vz_rv (wr := []) (w1 := [(qo, .inr (3, [.int (nI n), .ref qha, .ref qkn, .ref qtr, .int mc, .ref qhv, .ref qbe, .int (nI Q), .ref qlo, .ref qhi, .ref qpa, .ref qne, .ref qre])), (qha, .inl (cZ, 36, .inl mh)), (qkn, .inl (cZ, 36, .inl (mForgetAll mk))), (qtr, .inl (cZ, 36, .inl mt)), (qhv, .inl (cI, 36, .inl mv)), (qbe, .inl (cZ, 36, .inl mb)), (qlo, .inl (cI, 9, .inl ml)), (qhi, .inl (cI, 9, .inl mg)), (qpa, .inl (cI, 6, .inl mp)), (qne, .inl (cI, 6, .inl mx)), (qre, .inl (cI, 6, .inl mr))]) (va_runV (As := []) (rest := []) ⟨hx, hb, hml, hown, hT⟩ (c_M_forgetAll l dC dI cI cZ qo qha qkn qtr qhv qbe qlo qhi qpa qne qre n mh mt mv mb ml mg mp mx mr mc Q mk H.size) (vz_cwV (n := 0) hT wd_link_M_64 wd_inst_M_forgetAll wd_sel_M_forgetAll wd_ini_M wd_code_M_forgetAll (by decide +kernel) ⟨Nat.le_of_ble_eq_true rfl, Nat.le_of_ble_eq_true rfl⟩) (vz_pvw (q0 := 0) (ci := 3) (q := ("ArrowClassesModel", TM, 13)) hN hK hP hD [0, 1, 2, 3, 4, 5, 6, 7, 8, 9, 10] rfl (by decide) rfl rfl rfl) rfl rfl hl.1 rfl (lv_room (Nat.le_of_ble_eq_true rfl)) d_M_forget_34 ⟨Nat.zero_le _, Nat.zero_le _⟩) hP hD hS hA [0, 1, 2, 3, 4, 5, 6, 7, 8, 9, 10] [] rfl rfl (by decide) (by decide) (fun H locs hP hD hS => ?_)
      have hP : va_P (dC, dI) vwCl [(qo, .inr (3, [.int (nI n), .ref qha, .ref qkn, .ref qtr, .int mc, .ref qhv, .ref qbe, .int (nI Q), .ref qlo, .ref qhi, .ref qpa, .ref qne, .ref qre])), (qha, .inl (cZ, 36, .inl mh)), (qkn, .inl (cZ, 36, .inl (mForgetAll mk))), (qtr, .inl (cZ, 36, .inl mt)), (qhv, .inl (cI, 36, .inl mv)), (qbe, .inl (cZ, 36, .inl mb)), (qlo, .inl (cI, 9, .inl ml)), (qhi, .inl (cI, 9, .inl mg)), (qpa, .inl (cI, 6, .inl mp)), (qne, .inl (cI, 6, .inl mx)), (qre, .inl (cI, 6, .inl mr))] H := hP.sub [0, 1, 2, 3, 4, 5, 6, 7, 8, 9, 10] rfl
      have hD : va_D (va_A [(qo, .inr (3, [.int (nI n), .ref qha, .ref qkn, .ref qtr, .int mc, .ref qhv, .ref qbe, .int (nI Q), .ref qlo, .ref qhi, .ref qpa, .ref qne, .ref qre])), (qha, .inl (cZ, 36, .inl mh)), (qkn, .inl (cZ, 36, .inl mk)), (qtr, .inl (cZ, 36, .inl mt)), (qhv, .inl (cI, 36, .inl mv)), (qbe, .inl (cZ, 36, .inl mb)), (qlo, .inl (cI, 9, .inl ml)), (qhi, .inl (cI, 9, .inl mg)), (qpa, .inl (cI, 6, .inl mp)), (qne, .inl (cI, 6, .inl mx)), (qre, .inl (cI, 6, .inl mr))] s.heap.size) [(qo, .inr (3, [.int (nI n), .ref qha, .ref qkn, .ref qtr, .int mc, .ref qhv, .ref qbe, .int (nI Q), .ref qlo, .ref qhi, .ref qpa, .ref qne, .ref qre])), (qha, .inl (cZ, 36, .inl mh)), (qkn, .inl (cZ, 36, .inl (mForgetAll mk))), (qtr, .inl (cZ, 36, .inl mt)), (qhv, .inl (cI, 36, .inl mv)), (qbe, .inl (cZ, 36, .inl mb)), (qlo, .inl (cI, 9, .inl ml)), (qhi, .inl (cI, 9, .inl mg)), (qpa, .inl (cI, 6, .inl mp)), (qne, .inl (cI, 6, .inl mx)), (qre, .inl (cI, 6, .inl mr))] := hD.sub [0, 1, 2, 3, 4, 5, 6, 7, 8, 9, 10] (by decide) rfl
      refine lv_iload_n hx hb d_M_forget_37 rfl (lv_at hl 1 rfl) ?_
      have hF : (mForget mk) = (c_4, (mForgetAll mk)) := (hfin_4.symm.trans (by rw [mForget_L4]))
      exact W.iret hx hb hr (fun t ht hW => ⟨⟨c_4, (), rfl, by rw [hF], by rw [hF, ht]; exact hP, va_K.moved hW.alike hK, by rw [hF]; exact hD⟩, hS.F ht⟩) hS.2.2 d_M_forget_38
    | succ k_4 ih_4 =>
      intro i_4 c_4 H locs ls hik_4 hfin_4 hP hD hS hl
      refine lv_iload_n hx hb d_M_forget_4 rfl (lv_at hl 0 rfl) ?_
      refine lv_bipush (v := 36) hx hb d_M_forget_5 (by decide) ?_
      refine vz_top (y := nI 36) (by decide) ?_
      refine lv_icmp_ge (tgt := 33) hx hb d_M_forget_7 (by decide) (fun h2 => by rw [nI_leI (by omega) (by omega)] at h2; omega) (fun _ => ?_)
      refine lv_aload_n hx hb d_M_forget_10 rfl (lv_at hl 2 rfl) ?_
      refine va_get (D := (dC, dI)) (ci := 3) (v := .ref qkn) (C := "ArrowClassesModel") (T := TM) (N := 13) hx hb hT inM hown hK hP 0 rfl rfl 2 (by decide) (hT _ wd_fld_M_13) (fun _ h9 => h9) rfl d_M_forget_11 ?_
      refine lv_iload_n hx hb d_M_forget_14 rfl (lv_at hl 0 rfl) ?_
      refine va_zald (D := (dC, dI)) hx hb hK hP 2 1 rfl rfl (vp_in_nI (by omega) (by omega)) d_M_forget_15 ?_
      refine lv_if_eq (tgt := 25) hx hb d_M_forget_16 (by decide) (fun h3 => ?_) (fun h3 => ?_)
      ·
        refine lv_iload_n hx hb d_M_forget_25 rfl (lv_at hl 1 rfl) ?_
        refine lv_istore_n hx hb d_M_forget_26 rfl hl (by decide) rfl (fun ls hl => ?_)
        have hl : lv_has ls 3 [(1, .int c_4), (2, .int (nI i_4)), (0, .ref qo)] := hl
        refine lv_iinc (k := 1) (v := nI (i_4 + 1)) hx hb d_M_forget_27 hl rfl (vz_inc i_4) (by decide) rfl (fun ls hl => ?_)
        have hl : lv_has ls 3 [(2, .int (nI (i_4 + 1))), (1, .int c_4), (0, .ref qo)] := hl
        refine lv_goto (tgt := 4) hx hb d_M_forget_30 (by decide) ?_
        exact ih_4 (i_4 + 1) c_4 H locs ls (by omega) (by rw [mForget_L4, if_pos h3] at hfin_4; exact hfin_4) hP hD hS (lv_sub hl [0, 1, 2] rfl)
      ·
        refine lv_iload_n hx hb d_M_forget_19 rfl (lv_at hl 1 rfl) ?_
        refine lv_iconst (v := 1) hx hb d_M_forget_20 (by decide) ?_
        refine lv_iadd hx hb d_M_forget_21 ?_
        refine lv_goto (tgt := 26) hx hb d_M_forget_22 (by decide) ?_
        refine lv_istore_n hx hb d_M_forget_26 rfl hl (by decide) rfl (fun ls hl => ?_)
        have hl : lv_has ls 3 [(1, .int (c_4 + 1)), (2, .int (nI i_4)), (0, .ref qo)] := hl
        refine lv_iinc (k := 1) (v := nI (i_4 + 1)) hx hb d_M_forget_27 hl rfl (vz_inc i_4) (by decide) rfl (fun ls hl => ?_)
        have hl : lv_has ls 3 [(2, .int (nI (i_4 + 1))), (1, .int (c_4 + 1)), (0, .ref qo)] := hl
        refine lv_goto (tgt := 4) hx hb d_M_forget_30 (by decide) ?_
        exact ih_4 (i_4 + 1) (c_4 + 1) H locs ls (by omega) (by rw [mForget_L4, if_neg h3] at hfin_4; exact hfin_4) hP hD hS (lv_sub hl [0, 1, 2] rfl)
  exact lp_4 36 0 0 _ _ _ (by omega) (by rw [mForget]) hP hD hS (lv_sub hl [0, 1, 2] rfl)
set_option maxRecDepth 100000 in
set_option maxHeartbeats 4000000 in
theorem c_M_members (l : Launch) (dC : Nat → ClassId) (dI : Nat → Nat → Nat) (cI cZ : ClassId) (qo qha qkn qtr qhv qbe qlo qhi qpa qne qre : Nat) (mp : Nat → Int32) (mx : Nat → Int32) (mr : Nat → Int32) (n : Nat) (mh : Nat → Int32) (mk : Nat → Int32) (mt : Nat → Int32) (mv : Nat → Int32) (mb : Nat → Int32) (ml : Nat → Int32) (mg : Nat → Int32) (mc : Int32) (Q : Nat) (hn : n ≤ 6) (hJ : jcO mh n n 0 ≤ 9) (sz : Nat) : Met l y_M_members w_M_members rm_M_members (va_Pc [.ref qo] (vz_Bw (dC, dI) vwCl [(qo, .inr (3, [.int (nI n), .ref qha, .ref qkn, .ref qtr, .int mc, .ref qhv, .ref qbe, .int (nI Q), .ref qlo, .ref qhi, .ref qpa, .ref qne, .ref qre])), (qha, .inl (cZ, 36, .inl mh)), (qkn, .inl (cZ, 36, .inl mk)), (qtr, .inl (cZ, 36, .inl mt)), (qhv, .inl (cI, 36, .inl mv)), (qbe, .inl (cZ, 36, .inl mb)), (qlo, .inl (cI, 9, .inl ml)), (qhi, .inl (cI, 9, .inl mg)), (qpa, .inl (cI, 6, .inl mp)), (qne, .inl (cI, 6, .inl mx)), (qre, .inl (cI, 6, .inl mr))] [(cI, .int), (cZ, .boolean)] sz)) (va_Qi (fun r (_ : Unit) => r = ((mMembers n mh mk mt mv mb ml mg mc Q).1)) (fun (_ : Unit) t => va_P (dC, dI) vwCl [(qo, .inr (3, [.int (nI n), .ref qha, .ref qkn, .ref qtr, .int ((mMembers n mh mk mt mv mb ml mg mc Q).2.2.2.2.1), .ref qhv, .ref qbe, .int (nI ((mMembers n mh mk mt mv mb ml mg mc Q).2.1)), .ref qlo, .ref qhi, .ref qpa, .ref qne, .ref qre])), (qha, .inl (cZ, 36, .inl mh)), (qkn, .inl (cZ, 36, .inl mk)), (qtr, .inl (cZ, 36, .inl ((mMembers n mh mk mt mv mb ml mg mc Q).2.2.2.2.2.2.1))), (qhv, .inl (cI, 36, .inl ((mMembers n mh mk mt mv mb ml mg mc Q).2.2.2.2.2.1))), (qbe, .inl (cZ, 36, .inl ((mMembers n mh mk mt mv mb ml mg mc Q).2.2.2.2.2.2.2))), (qlo, .inl (cI, 9, .inl ((mMembers n mh mk mt mv mb ml mg mc Q).2.2.1))), (qhi, .inl (cI, 9, .inl ((mMembers n mh mk mt mv mb ml mg mc Q).2.2.2.1))), (qpa, .inl (cI, 6, .inl mp)), (qne, .inl (cI, 6, .inl mx)), (qre, .inl (cI, 6, .inl mr))] t.heap ∧ va_K (dC, dI) vwCl [(cI, .int), (cZ, .boolean)] t ∧ va_D (va_A [(qo, .inr (3, [.int (nI n), .ref qha, .ref qkn, .ref qtr, .int mc, .ref qhv, .ref qbe, .int (nI Q), .ref qlo, .ref qhi, .ref qpa, .ref qne, .ref qre])), (qha, .inl (cZ, 36, .inl mh)), (qkn, .inl (cZ, 36, .inl mk)), (qtr, .inl (cZ, 36, .inl mt)), (qhv, .inl (cI, 36, .inl mv)), (qbe, .inl (cZ, 36, .inl mb)), (qlo, .inl (cI, 9, .inl ml)), (qhi, .inl (cI, 9, .inl mg)), (qpa, .inl (cI, 6, .inl mp)), (qne, .inl (cI, 6, .inl mx)), (qre, .inl (cI, 6, .inl mr))] sz) [(qo, .inr (3, [.int (nI n), .ref qha, .ref qkn, .ref qtr, .int ((mMembers n mh mk mt mv mb ml mg mc Q).2.2.2.2.1), .ref qhv, .ref qbe, .int (nI ((mMembers n mh mk mt mv mb ml mg mc Q).2.1)), .ref qlo, .ref qhi, .ref qpa, .ref qne, .ref qre])), (qha, .inl (cZ, 36, .inl mh)), (qkn, .inl (cZ, 36, .inl mk)), (qtr, .inl (cZ, 36, .inl ((mMembers n mh mk mt mv mb ml mg mc Q).2.2.2.2.2.2.1))), (qhv, .inl (cI, 36, .inl ((mMembers n mh mk mt mv mb ml mg mc Q).2.2.2.2.2.1))), (qbe, .inl (cZ, 36, .inl ((mMembers n mh mk mt mv mb ml mg mc Q).2.2.2.2.2.2.2))), (qlo, .inl (cI, 9, .inl ((mMembers n mh mk mt mv mb ml mg mc Q).2.2.1))), (qhi, .inl (cI, 9, .inl ((mMembers n mh mk mt mv mb ml mg mc Q).2.2.2.1))), (qpa, .inl (cI, 6, .inl mp)), (qne, .inl (cI, 6, .inl mx)), (qre, .inl (cI, 6, .inl mr))]) (va_A [(qo, .inr (3, [.int (nI n), .ref qha, .ref qkn, .ref qtr, .int mc, .ref qhv, .ref qbe, .int (nI Q), .ref qlo, .ref qhi, .ref qpa, .ref qne, .ref qre])), (qha, .inl (cZ, 36, .inl mh)), (qkn, .inl (cZ, 36, .inl mk)), (qtr, .inl (cZ, 36, .inl mt)), (qhv, .inl (cI, 36, .inl mv)), (qbe, .inl (cZ, 36, .inl mb)), (qlo, .inl (cI, 9, .inl ml)), (qhi, .inl (cI, 9, .inl mg)), (qpa, .inl (cI, 6, .inl mp)), (qne, .inl (cI, 6, .inl mx)), (qre, .inl (cI, 6, .inl mr))] sz)) 0 0 (va_A [(qo, .inr (3, [.int (nI n), .ref qha, .ref qkn, .ref qtr, .int mc, .ref qhv, .ref qbe, .int (nI Q), .ref qlo, .ref qhi, .ref qpa, .ref qne, .ref qre])), (qha, .inl (cZ, 36, .inl mh)), (qkn, .inl (cZ, 36, .inl mk)), (qtr, .inl (cZ, 36, .inl mt)), (qhv, .inl (cI, 36, .inl mv)), (qbe, .inl (cZ, 36, .inl mb)), (qlo, .inl (cI, 9, .inl ml)), (qhi, .inl (cI, 9, .inl mg)), (qpa, .inl (cI, 6, .inl mp)), (qne, .inl (cI, 6, .inl mx)), (qre, .inl (cI, 6, .inl mr))] sz) := by
  refine Met.ofW (cc := b_M_members) (maxL := 1) (ret := (some .int)) (by decide) rfl ?_
  intro p e s m args below meth c s₁ B hml hv
  obtain ⟨rfl, hsz, hP, hK, hD0, hN⟩ := hv
  have hx := B.exec
  have hb := B.bytes
  have hr := B.returns
  have hts := atoms_spec (ws := w_M_members) B.pre
  have hT : ∀ w ∈ vzB, w.before ([.ref qo] : List Value).toArray s = true := fun w h => hts w (List.mem_cons_of_mem _ h)
  have hown : s.vm.findClass "ArrowClassesModel" = some m.cls := findClass_of_methodNamed B.named
  have hlocks := B.notSynchronized
  subst hsz
  have hD := hD0.self (sz := s.heap.size)
  have hA : ∀ q : Nat, s.heap.size ≤ q → va_A [(qo, .inr (3, [.int (nI n), .ref qha, .ref qkn, .ref qtr, .int mc, .ref qhv, .ref qbe, .int (nI Q), .ref qlo, .ref qhi, .ref qpa, .ref qne, .ref qre])), (qha, .inl (cZ, 36, .inl mh)), (qkn, .inl (cZ, 36, .inl mk)), (qtr, .inl (cZ, 36, .inl mt)), (qhv, .inl (cI, 36, .inl mv)), (qbe, .inl (cZ, 36, .inl mb)), (qlo, .inl (cI, 9, .inl ml)), (qhi, .inl (cI, 9, .inl mg)), (qpa, .inl (cI, 6, .inl mp)), (qne, .inl (cI, 6, .inl mx)), (qre, .inl (cI, 6, .inl mr))] s.heap.size q := fun q h => Or.inr h
  have hS : va_S (va_A [(qo, .inr (3, [.int (nI n), .ref qha, .ref qkn, .ref qtr, .int mc, .ref qhv, .ref qbe, .int (nI Q), .ref qlo, .ref qhi, .ref qpa, .ref qne, .ref qre])), (qha, .inl (cZ, 36, .inl mh)), (qkn, .inl (cZ, 36, .inl mk)), (qtr, .inl (cZ, 36, .inl mt)), (qhv, .inl (cI, 36, .inl mv)), (qbe, .inl (cZ, 36, .inl mb)), (qlo, .inl (cI, 9, .inl ml)), (qhi, .inl (cI, 9, .inl mg)), (qpa, .inl (cI, 6, .inl mp)), (qne, .inl (cI, 6, .inl mx)), (qre, .inl (cI, 6, .inl mr))] s.heap.size) s.heap s.heap [] := va_S.rf
  have hl := lv_entry ([.ref qo]) (n := 1) (Nat.le_of_ble_eq_true rfl)
  rw [lg_entry_eq]
  generalize (lg_sl ([.ref qo]) ++ List.replicate (1 - (lg_sl ([.ref qo])).length) Slot.unset).toArray = ls at hl ⊢
  have hl : lv_has ls 1 [(0, .ref qo)] := hl
  refine lv_aload_n hx hb d_M_members_0 rfl (lv_at hl 0 rfl) ?_
  refine vz_rv (wr := []) (w1 := [(qo, .inr (3, [.int (nI n), .ref qha, .ref qkn, .ref qtr, .int ((mGo n mh mk mt mv mb ml mg mc Q).2.2.2.1), .ref qhv, .ref qbe, .int (nI ((mGo n mh mk mt mv mb ml mg mc Q).1)), .ref qlo, .ref qhi, .ref qpa, .ref qne, .ref qre])), (qha, .inl (cZ, 36, .inl mh)), (qkn, .inl (cZ, 36, .inl mk)), (qtr, .inl (cZ, 36, .inl ((mGo n mh mk mt mv mb ml mg mc Q).2.2.2.2.2.1))), (qhv, .inl (cI, 36, .inl ((mGo n mh mk mt mv mb ml mg mc Q).2.2.2.2.1))), (qbe, .inl (cZ, 36, .inl ((mGo n mh mk mt mv mb ml mg mc Q).2.2.2.2.2.2))), (qlo, .inl (cI, 9, .inl ((mGo n mh mk mt mv mb ml mg mc Q).2.1))), (qhi, .inl (cI, 9, .inl ((mGo n mh mk mt mv mb ml mg mc Q).2.2.1))), (qpa, .inl (cI, 6, .inl mp)), (qne, .inl (cI, 6, .inl mx)), (qre, .inl (cI, 6, .inl mr))]) (va_runV (As := []) (rest := []) ⟨hx, hb, hml, hown, hT⟩ (c_M_goThrough l dC dI cI cZ qo qha qkn qtr qhv qbe qlo qhi qpa qne qre mp mx mr n mh mk mt mv mb ml mg mc Q (by omega) (by assumption) s.heap.size) (vz_cwV (n := 0) hT wd_link_M_113 wd_inst_M_goThrough wd_sel_M_goThrough wd_ini_M wd_code_M_goThrough (by decide +kernel) ⟨Nat.le_of_ble_eq_true rfl, Nat.le_of_ble_eq_true rfl⟩) (vz_pvw (q0 := 0) (ci := 3) (q := ("ArrowClassesModel", TM, 13)) hN hK hP hD [0, 1, 2, 3, 4, 5, 6, 7, 8, 9, 10] rfl (by decide) rfl rfl rfl) rfl rfl hl.1 rfl (lv_room (Nat.le_of_ble_eq_true rfl)) d_M_members_1 ⟨Nat.zero_le _, Nat.zero_le _⟩) hP hD hS hA [0, 1, 2, 3, 4, 5, 6, 7, 8, 9, 10] [] rfl rfl (by decide) (by decide) (fun H locs hP hD hS => ?_)
  have hP : va_P (dC, dI) vwCl [(qo, .inr (3, [.int (nI n), .ref qha, .ref qkn, .ref qtr, .int ((mGo n mh mk mt mv mb ml mg mc Q).2.2.2.1), .ref qhv, .ref qbe, .int (nI ((mGo n mh mk mt mv mb ml mg mc Q).1)), .ref qlo, .ref qhi, .ref qpa, .ref qne, .ref qre])), (qha, .inl (cZ, 36, .inl mh)), (qkn, .inl (cZ, 36, .inl mk)), (qtr, .inl (cZ, 36, .inl ((mGo n mh mk mt mv mb ml mg mc Q).2.2.2.2.2.1))), (qhv, .inl (cI, 36, .inl ((mGo n mh mk mt mv mb ml mg mc Q).2.2.2.2.1))), (qbe, .inl (cZ, 36, .inl ((mGo n mh mk mt mv mb ml mg mc Q).2.2.2.2.2.2))), (qlo, .inl (cI, 9, .inl ((mGo n mh mk mt mv mb ml mg mc Q).2.1))), (qhi, .inl (cI, 9, .inl ((mGo n mh mk mt mv mb ml mg mc Q).2.2.1))), (qpa, .inl (cI, 6, .inl mp)), (qne, .inl (cI, 6, .inl mx)), (qre, .inl (cI, 6, .inl mr))] H := hP.sub [0, 1, 2, 3, 4, 5, 6, 7, 8, 9, 10] rfl
  have hD : va_D (va_A [(qo, .inr (3, [.int (nI n), .ref qha, .ref qkn, .ref qtr, .int mc, .ref qhv, .ref qbe, .int (nI Q), .ref qlo, .ref qhi, .ref qpa, .ref qne, .ref qre])), (qha, .inl (cZ, 36, .inl mh)), (qkn, .inl (cZ, 36, .inl mk)), (qtr, .inl (cZ, 36, .inl mt)), (qhv, .inl (cI, 36, .inl mv)), (qbe, .inl (cZ, 36, .inl mb)), (qlo, .inl (cI, 9, .inl ml)), (qhi, .inl (cI, 9, .inl mg)), (qpa, .inl (cI, 6, .inl mp)), (qne, .inl (cI, 6, .inl mx)), (qre, .inl (cI, 6, .inl mr))] s.heap.size) [(qo, .inr (3, [.int (nI n), .ref qha, .ref qkn, .ref qtr, .int ((mGo n mh mk mt mv mb ml mg mc Q).2.2.2.1), .ref qhv, .ref qbe, .int (nI ((mGo n mh mk mt mv mb ml mg mc Q).1)), .ref qlo, .ref qhi, .ref qpa, .ref qne, .ref qre])), (qha, .inl (cZ, 36, .inl mh)), (qkn, .inl (cZ, 36, .inl mk)), (qtr, .inl (cZ, 36, .inl ((mGo n mh mk mt mv mb ml mg mc Q).2.2.2.2.2.1))), (qhv, .inl (cI, 36, .inl ((mGo n mh mk mt mv mb ml mg mc Q).2.2.2.2.1))), (qbe, .inl (cZ, 36, .inl ((mGo n mh mk mt mv mb ml mg mc Q).2.2.2.2.2.2))), (qlo, .inl (cI, 9, .inl ((mGo n mh mk mt mv mb ml mg mc Q).2.1))), (qhi, .inl (cI, 9, .inl ((mGo n mh mk mt mv mb ml mg mc Q).2.2.1))), (qpa, .inl (cI, 6, .inl mp)), (qne, .inl (cI, 6, .inl mx)), (qre, .inl (cI, 6, .inl mr))] := hD.sub [0, 1, 2, 3, 4, 5, 6, 7, 8, 9, 10] (by decide) rfl
  refine lv_aload_n hx hb d_M_members_4 rfl (lv_at hl 0 rfl) ?_
  refine va_get (D := (dC, dI)) (ci := 3) (v := .int ((mGo n mh mk mt mv mb ml mg mc Q).2.2.2.1)) (C := "ArrowClassesModel") (T := TM) (N := 13) hx hb hT inM hown hK hP 0 rfl rfl 4 (by decide) (hT _ wd_fld_M_103) (fun _ h9 => h9) rfl d_M_members_5 ?_
  have hF : (mMembers n mh mk mt mv mb ml mg mc Q) = ((mGo n mh mk mt mv mb ml mg mc Q).2.2.2.1, ((mGo n mh mk mt mv mb ml mg mc Q).1), (mGo n mh mk mt mv mb ml mg mc Q).2.1, (mGo n mh mk mt mv mb ml mg mc Q).2.2.1, (mGo n mh mk mt mv mb ml mg mc Q).2.2.2.1, (mGo n mh mk mt mv mb ml mg mc Q).2.2.2.2.1, (mGo n mh mk mt mv mb ml mg mc Q).2.2.2.2.2.1, (mGo n mh mk mt mv mb ml mg mc Q).2.2.2.2.2.2) := (by rw [mMembers])
  exact W.iret hx hb hr (fun t ht hW => ⟨⟨(mGo n mh mk mt mv mb ml mg mc Q).2.2.2.1, (), rfl, by rw [hF], by rw [hF, ht]; exact hP, va_K.moved hW.alike hK, by rw [hF]; exact hD⟩, hS.F ht⟩) hS.2.2 d_M_members_8
set_option maxRecDepth 100000 in
set_option maxHeartbeats 4000000 in
theorem c_M_first (l : Launch) (dC : Nat → ClassId) (dI : Nat → Nat → Nat) (cI cZ : ClassId) (qo qha qkn qtr qhv qbe qlo qhi qpa qne qre : Nat) (mp : Nat → Int32) (mx : Nat → Int32) (mr : Nat → Int32) (n : Nat) (mh : Nat → Int32) (mk : Nat → Int32) (mt : Nat → Int32) (mv : Nat → Int32) (mb : Nat → Int32) (ml : Nat → Int32) (mg : Nat → Int32) (mc : Int32) (Q : Nat) (u : Int32) (v : Int32) (hn : n ≤ 6) (hJ : jcO mh n n 0 ≤ 9) (hmb : is01 mb) (sz : Nat) : Met l y_M_first w_M_first rm_M_first (va_Pc [.ref qo, .int u, .int v] (vz_Bw (dC, dI) vwCl [(qo, .inr (3, [.int (nI n), .ref qha, .ref qkn, .ref qtr, .int mc, .ref qhv, .ref qbe, .int (nI Q), .ref qlo, .ref qhi, .ref qpa, .ref qne, .ref qre])), (qha, .inl (cZ, 36, .inl mh)), (qkn, .inl (cZ, 36, .inl mk)), (qtr, .inl (cZ, 36, .inl mt)), (qhv, .inl (cI, 36, .inl mv)), (qbe, .inl (cZ, 36, .inl mb)), (qlo, .inl (cI, 9, .inl ml)), (qhi, .inl (cI, 9, .inl mg)), (qpa, .inl (cI, 6, .inl mp)), (qne, .inl (cI, 6, .inl mx)), (qre, .inl (cI, 6, .inl mr))] [(cI, .int), (cZ, .boolean)] sz)) (va_Qi (fun r (_ : Unit) => r = ((mFirst n mh mk mt mv mb ml mg mc Q u v).1)) (fun (_ : Unit) t => va_P (dC, dI) vwCl [(qo, .inr (3, [.int (nI n), .ref qha, .ref qkn, .ref qtr, .int ((mFirst n mh mk mt mv mb ml mg mc Q u v).2.2.2.2.1), .ref qhv, .ref qbe, .int (nI ((mFirst n mh mk mt mv mb ml mg mc Q u v).2.1)), .ref qlo, .ref qhi, .ref qpa, .ref qne, .ref qre])), (qha, .inl (cZ, 36, .inl mh)), (qkn, .inl (cZ, 36, .inl mk)), (qtr, .inl (cZ, 36, .inl ((mFirst n mh mk mt mv mb ml mg mc Q u v).2.2.2.2.2.2.1))), (qhv, .inl (cI, 36, .inl ((mFirst n mh mk mt mv mb ml mg mc Q u v).2.2.2.2.2.1))), (qbe, .inl (cZ, 36, .inl ((mFirst n mh mk mt mv mb ml mg mc Q u v).2.2.2.2.2.2.2))), (qlo, .inl (cI, 9, .inl ((mFirst n mh mk mt mv mb ml mg mc Q u v).2.2.1))), (qhi, .inl (cI, 9, .inl ((mFirst n mh mk mt mv mb ml mg mc Q u v).2.2.2.1))), (qpa, .inl (cI, 6, .inl mp)), (qne, .inl (cI, 6, .inl mx)), (qre, .inl (cI, 6, .inl mr))] t.heap ∧ va_K (dC, dI) vwCl [(cI, .int), (cZ, .boolean)] t ∧ va_D (va_A [(qo, .inr (3, [.int (nI n), .ref qha, .ref qkn, .ref qtr, .int mc, .ref qhv, .ref qbe, .int (nI Q), .ref qlo, .ref qhi, .ref qpa, .ref qne, .ref qre])), (qha, .inl (cZ, 36, .inl mh)), (qkn, .inl (cZ, 36, .inl mk)), (qtr, .inl (cZ, 36, .inl mt)), (qhv, .inl (cI, 36, .inl mv)), (qbe, .inl (cZ, 36, .inl mb)), (qlo, .inl (cI, 9, .inl ml)), (qhi, .inl (cI, 9, .inl mg)), (qpa, .inl (cI, 6, .inl mp)), (qne, .inl (cI, 6, .inl mx)), (qre, .inl (cI, 6, .inl mr))] sz) [(qo, .inr (3, [.int (nI n), .ref qha, .ref qkn, .ref qtr, .int ((mFirst n mh mk mt mv mb ml mg mc Q u v).2.2.2.2.1), .ref qhv, .ref qbe, .int (nI ((mFirst n mh mk mt mv mb ml mg mc Q u v).2.1)), .ref qlo, .ref qhi, .ref qpa, .ref qne, .ref qre])), (qha, .inl (cZ, 36, .inl mh)), (qkn, .inl (cZ, 36, .inl mk)), (qtr, .inl (cZ, 36, .inl ((mFirst n mh mk mt mv mb ml mg mc Q u v).2.2.2.2.2.2.1))), (qhv, .inl (cI, 36, .inl ((mFirst n mh mk mt mv mb ml mg mc Q u v).2.2.2.2.2.1))), (qbe, .inl (cZ, 36, .inl ((mFirst n mh mk mt mv mb ml mg mc Q u v).2.2.2.2.2.2.2))), (qlo, .inl (cI, 9, .inl ((mFirst n mh mk mt mv mb ml mg mc Q u v).2.2.1))), (qhi, .inl (cI, 9, .inl ((mFirst n mh mk mt mv mb ml mg mc Q u v).2.2.2.1))), (qpa, .inl (cI, 6, .inl mp)), (qne, .inl (cI, 6, .inl mx)), (qre, .inl (cI, 6, .inl mr))]) (va_A [(qo, .inr (3, [.int (nI n), .ref qha, .ref qkn, .ref qtr, .int mc, .ref qhv, .ref qbe, .int (nI Q), .ref qlo, .ref qhi, .ref qpa, .ref qne, .ref qre])), (qha, .inl (cZ, 36, .inl mh)), (qkn, .inl (cZ, 36, .inl mk)), (qtr, .inl (cZ, 36, .inl mt)), (qhv, .inl (cI, 36, .inl mv)), (qbe, .inl (cZ, 36, .inl mb)), (qlo, .inl (cI, 9, .inl ml)), (qhi, .inl (cI, 9, .inl mg)), (qpa, .inl (cI, 6, .inl mp)), (qne, .inl (cI, 6, .inl mx)), (qre, .inl (cI, 6, .inl mr))] sz)) 0 0 (va_A [(qo, .inr (3, [.int (nI n), .ref qha, .ref qkn, .ref qtr, .int mc, .ref qhv, .ref qbe, .int (nI Q), .ref qlo, .ref qhi, .ref qpa, .ref qne, .ref qre])), (qha, .inl (cZ, 36, .inl mh)), (qkn, .inl (cZ, 36, .inl mk)), (qtr, .inl (cZ, 36, .inl mt)), (qhv, .inl (cI, 36, .inl mv)), (qbe, .inl (cZ, 36, .inl mb)), (qlo, .inl (cI, 9, .inl ml)), (qhi, .inl (cI, 9, .inl mg)), (qpa, .inl (cI, 6, .inl mp)), (qne, .inl (cI, 6, .inl mx)), (qre, .inl (cI, 6, .inl mr))] sz) := by
  refine Met.ofW (cc := b_M_first) (maxL := 3) (ret := (some .boolean)) (by decide) rfl ?_
  intro p e s m args below meth c s₁ B hml hv
  obtain ⟨rfl, hsz, hP, hK, hD0, hN⟩ := hv
  have hx := B.exec
  have hb := B.bytes
  have hr := B.returns
  have hts := atoms_spec (ws := w_M_first) B.pre
  have hT : ∀ w ∈ vzB, w.before ([.ref qo, .int u, .int v] : List Value).toArray s = true := fun w h => hts w (List.mem_cons_of_mem _ h)
  have hown : s.vm.findClass "ArrowClassesModel" = some m.cls := findClass_of_methodNamed B.named
  have hlocks := B.notSynchronized
  subst hsz
  have hD := hD0.self (sz := s.heap.size)
  have hA : ∀ q : Nat, s.heap.size ≤ q → va_A [(qo, .inr (3, [.int (nI n), .ref qha, .ref qkn, .ref qtr, .int mc, .ref qhv, .ref qbe, .int (nI Q), .ref qlo, .ref qhi, .ref qpa, .ref qne, .ref qre])), (qha, .inl (cZ, 36, .inl mh)), (qkn, .inl (cZ, 36, .inl mk)), (qtr, .inl (cZ, 36, .inl mt)), (qhv, .inl (cI, 36, .inl mv)), (qbe, .inl (cZ, 36, .inl mb)), (qlo, .inl (cI, 9, .inl ml)), (qhi, .inl (cI, 9, .inl mg)), (qpa, .inl (cI, 6, .inl mp)), (qne, .inl (cI, 6, .inl mx)), (qre, .inl (cI, 6, .inl mr))] s.heap.size q := fun q h => Or.inr h
  have hS : va_S (va_A [(qo, .inr (3, [.int (nI n), .ref qha, .ref qkn, .ref qtr, .int mc, .ref qhv, .ref qbe, .int (nI Q), .ref qlo, .ref qhi, .ref qpa, .ref qne, .ref qre])), (qha, .inl (cZ, 36, .inl mh)), (qkn, .inl (cZ, 36, .inl mk)), (qtr, .inl (cZ, 36, .inl mt)), (qhv, .inl (cI, 36, .inl mv)), (qbe, .inl (cZ, 36, .inl mb)), (qlo, .inl (cI, 9, .inl ml)), (qhi, .inl (cI, 9, .inl mg)), (qpa, .inl (cI, 6, .inl mp)), (qne, .inl (cI, 6, .inl mx)), (qre, .inl (cI, 6, .inl mr))] s.heap.size) s.heap s.heap [] := va_S.rf
  have hl := lv_entry ([.ref qo, .int u, .int v]) (n := 3) (Nat.le_of_ble_eq_true rfl)
  rw [lg_entry_eq]
  generalize (lg_sl ([.ref qo, .int u, .int v]) ++ List.replicate (3 - (lg_sl ([.ref qo, .int u, .int v])).length) Slot.unset).toArray = ls at hl ⊢
  have hl : lv_has ls 3 [(0, .ref qo), (1, .int u), (2, .int v)] := hl
  refine lv_aload_n hx hb d_M_first_0 rfl (lv_at hl 0 rfl) ?_
  refine lv_iload_n hx hb d_M_first_1 rfl (lv_at hl 1 rfl) ?_
  refine lv_iload_n hx hb d_M_first_2 rfl (lv_at hl 2 rfl) ?_
  refine vz_ro (va_runV (As := [.int u, .int v]) (rest := []) ⟨hx, hb, hml, hown, hT⟩ (c_M_areNodes l dC dI cI cZ qo qha qkn qtr qhv qbe qlo qhi qpa qne qre mh mk mt mv mb ml mg mp mx mr mc Q n u v) (vz_cwV (n := 2) hT wd_link_M_49 wd_inst_M_areNodes wd_sel_M_areNodes wd_ini_M wd_code_M_areNodes (by decide +kernel) ⟨Nat.le_of_ble_eq_true rfl, Nat.le_of_ble_eq_true rfl⟩) (vz_pv (q0 := 0) (ci := 3) (q := ("ArrowClassesModel", TM, 13)) hN hK hP [0, 1, 2, 3, 4, 5, 6, 7, 8, 9, 10] rfl rfl rfl) rfl rfl hl.1 rfl (lv_room (Nat.le_of_ble_eq_true rfl)) d_M_first_3 ⟨Nat.zero_le _, Nat.zero_le _⟩) ?_
  refine lv_if_ne (tgt := 11) hx hb d_M_first_6 (by decide) (fun h1 => ?_) (fun h1 => ?_)
  ·
    obtain ⟨hvu, hvv, huv⟩ := mPair_in hn h1
    refine lv_aload_n hx hb d_M_first_11 rfl (lv_at hl 0 rfl) ?_
    refine vz_rv (wr := []) (w1 := [(qo, .inr (3, [.int (nI n), .ref qha, .ref qkn, .ref qtr, .int ((mGo n mh mk mt mv mb ml mg mc Q).2.2.2.1), .ref qhv, .ref qbe, .int (nI ((mGo n mh mk mt mv mb ml mg mc Q).1)), .ref qlo, .ref qhi, .ref qpa, .ref qne, .ref qre])), (qha, .inl (cZ, 36, .inl mh)), (qkn, .inl (cZ, 36, .inl mk)), (qtr, .inl (cZ, 36, .inl ((mGo n mh mk mt mv mb ml mg mc Q).2.2.2.2.2.1))), (qhv, .inl (cI, 36, .inl ((mGo n mh mk mt mv mb ml mg mc Q).2.2.2.2.1))), (qbe, .inl (cZ, 36, .inl ((mGo n mh mk mt mv mb ml mg mc Q).2.2.2.2.2.2))), (qlo, .inl (cI, 9, .inl ((mGo n mh mk mt mv mb ml mg mc Q).2.1))), (qhi, .inl (cI, 9, .inl ((mGo n mh mk mt mv mb ml mg mc Q).2.2.1))), (qpa, .inl (cI, 6, .inl mp)), (qne, .inl (cI, 6, .inl mx)), (qre, .inl (cI, 6, .inl mr))]) (va_runV (As := []) (rest := []) ⟨hx, hb, hml, hown, hT⟩ (c_M_goThrough l dC dI cI cZ qo qha qkn qtr qhv qbe qlo qhi qpa qne qre mp mx mr n mh mk mt mv mb ml mg mc Q (by omega) (by assumption) s.heap.size) (vz_cwV (n := 0) hT wd_link_M_113 wd_inst_M_goThrough wd_sel_M_goThrough wd_ini_M wd_code_M_goThrough (by decide +kernel) ⟨Nat.le_of_ble_eq_true rfl, Nat.le_of_ble_eq_true rfl⟩) (vz_pvw (q0 := 0) (ci := 3) (q := ("ArrowClassesModel", TM, 13)) hN hK hP hD [0, 1, 2, 3, 4, 5, 6, 7, 8, 9, 10] rfl (by decide) rfl rfl rfl) rfl rfl hl.1 rfl (lv_room (Nat.le_of_ble_eq_true rfl)) d_M_first_12 ⟨Nat.zero_le _, Nat.zero_le _⟩) hP hD hS hA [0, 1, 2, 3, 4, 5, 6, 7, 8, 9, 10] [] rfl rfl (by decide) (by decide) (fun H locs hP hD hS => ?_)
    have hP : va_P (dC, dI) vwCl [(qo, .inr (3, [.int (nI n), .ref qha, .ref qkn, .ref qtr, .int ((mGo n mh mk mt mv mb ml mg mc Q).2.2.2.1), .ref qhv, .ref qbe, .int (nI ((mGo n mh mk mt mv mb ml mg mc Q).1)), .ref qlo, .ref qhi, .ref qpa, .ref qne, .ref qre])), (qha, .inl (cZ, 36, .inl mh)), (qkn, .inl (cZ, 36, .inl mk)), (qtr, .inl (cZ, 36, .inl ((mGo n mh mk mt mv mb ml mg mc Q).2.2.2.2.2.1))), (qhv, .inl (cI, 36, .inl ((mGo n mh mk mt mv mb ml mg mc Q).2.2.2.2.1))), (qbe, .inl (cZ, 36, .inl ((mGo n mh mk mt mv mb ml mg mc Q).2.2.2.2.2.2))), (qlo, .inl (cI, 9, .inl ((mGo n mh mk mt mv mb ml mg mc Q).2.1))), (qhi, .inl (cI, 9, .inl ((mGo n mh mk mt mv mb ml mg mc Q).2.2.1))), (qpa, .inl (cI, 6, .inl mp)), (qne, .inl (cI, 6, .inl mx)), (qre, .inl (cI, 6, .inl mr))] H := hP.sub [0, 1, 2, 3, 4, 5, 6, 7, 8, 9, 10] rfl
    have hD : va_D (va_A [(qo, .inr (3, [.int (nI n), .ref qha, .ref qkn, .ref qtr, .int mc, .ref qhv, .ref qbe, .int (nI Q), .ref qlo, .ref qhi, .ref qpa, .ref qne, .ref qre])), (qha, .inl (cZ, 36, .inl mh)), (qkn, .inl (cZ, 36, .inl mk)), (qtr, .inl (cZ, 36, .inl mt)), (qhv, .inl (cI, 36, .inl mv)), (qbe, .inl (cZ, 36, .inl mb)), (qlo, .inl (cI, 9, .inl ml)), (qhi, .inl (cI, 9, .inl mg)), (qpa, .inl (cI, 6, .inl mp)), (qne, .inl (cI, 6, .inl mx)), (qre, .inl (cI, 6, .inl mr))] s.heap.size) [(qo, .inr (3, [.int (nI n), .ref qha, .ref qkn, .ref qtr, .int ((mGo n mh mk mt mv mb ml mg mc Q).2.2.2.1), .ref qhv, .ref qbe, .int (nI ((mGo n mh mk mt mv mb ml mg mc Q).1)), .ref qlo, .ref qhi, .ref qpa, .ref qne, .ref qre])), (qha, .inl (cZ, 36, .inl mh)), (qkn, .inl (cZ, 36, .inl mk)), (qtr, .inl (cZ, 36, .inl ((mGo n mh mk mt mv mb ml mg mc Q).2.2.2.2.2.1))), (qhv, .inl (cI, 36, .inl ((mGo n mh mk mt mv mb ml mg mc Q).2.2.2.2.1))), (qbe, .inl (cZ, 36, .inl ((mGo n mh mk mt mv mb ml mg mc Q).2.2.2.2.2.2))), (qlo, .inl (cI, 9, .inl ((mGo n mh mk mt mv mb ml mg mc Q).2.1))), (qhi, .inl (cI, 9, .inl ((mGo n mh mk mt mv mb ml mg mc Q).2.2.1))), (qpa, .inl (cI, 6, .inl mp)), (qne, .inl (cI, 6, .inl mx)), (qre, .inl (cI, 6, .inl mr))] := hD.sub [0, 1, 2, 3, 4, 5, 6, 7, 8, 9, 10] (by decide) rfl
    refine lv_aload_n hx hb d_M_first_15 rfl (lv_at hl 0 rfl) ?_
    refine va_get (D := (dC, dI)) (ci := 3) (v := .ref qbe) (C := "ArrowClassesModel") (T := TM) (N := 13) hx hb hT inM hown hK hP 0 rfl rfl 6 (by decide) (hT _ wd_fld_M_23) (fun _ h9 => h9) rfl d_M_first_16 ?_
    refine lv_bipush (v := 6) hx hb d_M_first_19 (by decide) ?_
    refine lv_iload_n hx hb d_M_first_21 rfl (lv_at hl 1 rfl) ?_
    refine lv_imul hx hb d_M_first_22 ?_
    refine lv_iload_n hx hb d_M_first_23 rfl (lv_at hl 2 rfl) ?_
    refine lv_iadd hx hb d_M_first_24 ?_
    refine va_zald (D := (dC, dI)) hx hb hK hP 5 1 rfl rfl (vz_ix hn (by assumption) (by assumption)) d_M_first_25 ?_
    have hF : (mFirst n mh mk mt mv mb ml mg mc Q u v) = (((mGo n mh mk mt mv mb ml mg mc Q).2.2.2.2.2.2) ((6 * u) + v).toNatClampNeg, ((mGo n mh mk mt mv mb ml mg mc Q).1), (mGo n mh mk mt mv mb ml mg mc Q).2.1, (mGo n mh mk mt mv mb ml mg mc Q).2.2.1, (mGo n mh mk mt mv mb ml mg mc Q).2.2.2.1, (mGo n mh mk mt mv mb ml mg mc Q).2.2.2.2.1, (mGo n mh mk mt mv mb ml mg mc Q).2.2.2.2.2.1, (mGo n mh mk mt mv mb ml mg mc Q).2.2.2.2.2.2) := (by rw [mFirst, if_neg h1])
    exact W.zret hx hb hr (vz_nz (mGo_b hmb _)) (fun t ht hW => ⟨⟨((mGo n mh mk mt mv mb ml mg mc Q).2.2.2.2.2.2) ((6 * u) + v).toNatClampNeg, (), rfl, by rw [hF], by rw [hF, ht]; exact hP, va_K.moved hW.alike hK, by rw [hF]; exact hD⟩, hS.F ht⟩) hS.2.2 d_M_first_26
  ·
    refine lv_iconst (v := 0) hx hb d_M_first_9 (by decide) ?_
    have hF : (mFirst n mh mk mt mv mb ml mg mc Q u v) = (0, Q, ml, mg, mc, mv, mt, mb) := (by rw [mFirst, if_pos h1])
    exact W.zret hx hb hr (by decide) (fun t ht hW => ⟨⟨(0 : Int32), (), rfl, by rw [hF], by rw [hF, ht]; exact hP, va_K.moved hW.alike hK, by rw [hF]; exact hD⟩, hS.F ht⟩) hS.2.2 d_M_first_10
set_option maxRecDepth 100000 in
set_option maxHeartbeats 4000000 in
theorem c_M_turned (l : Launch) (dC : Nat → ClassId) (dI : Nat → Nat → Nat) (cI cZ : ClassId) (qo qha qkn qtr qhv qbe qlo qhi qpa qne qre : Nat) (mp : Nat → Int32) (mx : Nat → Int32) (mr : Nat → Int32) (n : Nat) (mh : Nat → Int32) (mk : Nat → Int32) (mt : Nat → Int32) (mv : Nat → Int32) (mb : Nat → Int32) (ml : Nat → Int32) (mg : Nat → Int32) (mc : Int32) (Q : Nat) (hn : n ≤ 6) (hJ : jcO mh n n 0 ≤ 9) (sz : Nat) : Met l y_M_turned w_M_turned rm_M_turned (va_Pc [.ref qo] (vz_Bw (dC, dI) vwCl [(qo, .inr (3, [.int (nI n), .ref qha, .ref qkn, .ref qtr, .int mc, .ref qhv, .ref qbe, .int (nI Q), .ref qlo, .ref qhi, .ref qpa, .ref qne, .ref qre])), (qha, .inl (cZ, 36, .inl mh)), (qkn, .inl (cZ, 36, .inl mk)), (qtr, .inl (cZ, 36, .inl mt)), (qhv, .inl (cI, 36, .inl mv)), (qbe, .inl (cZ, 36, .inl mb)), (qlo, .inl (cI, 9, .inl ml)), (qhi, .inl (cI, 9, .inl mg)), (qpa, .inl (cI, 6, .inl mp)), (qne, .inl (cI, 6, .inl mx)), (qre, .inl (cI, 6, .inl mr))] [(cI, .int), (cZ, .boolean)] sz)) (va_Qi (fun r (_ : Unit) => r = ((mTurned n mh mk mt mv mb ml mg mc Q).1)) (fun (_ : Unit) t => va_P (dC, dI) vwCl [(qo, .inr (3, [.int (nI n), .ref qha, .ref qkn, .ref qtr, .int ((mTurned n mh mk mt mv mb ml mg mc Q).2.2.2.2.1), .ref qhv, .ref qbe, .int (nI ((mTurned n mh mk mt mv mb ml mg mc Q).2.1)), .ref qlo, .ref qhi, .ref qpa, .ref qne, .ref qre])), (qha, .inl (cZ, 36, .inl mh)), (qkn, .inl (cZ, 36, .inl mk)), (qtr, .inl (cZ, 36, .inl ((mTurned n mh mk mt mv mb ml mg mc Q).2.2.2.2.2.2.1))), (qhv, .inl (cI, 36, .inl ((mTurned n mh mk mt mv mb ml mg mc Q).2.2.2.2.2.1))), (qbe, .inl (cZ, 36, .inl ((mTurned n mh mk mt mv mb ml mg mc Q).2.2.2.2.2.2.2))), (qlo, .inl (cI, 9, .inl ((mTurned n mh mk mt mv mb ml mg mc Q).2.2.1))), (qhi, .inl (cI, 9, .inl ((mTurned n mh mk mt mv mb ml mg mc Q).2.2.2.1))), (qpa, .inl (cI, 6, .inl mp)), (qne, .inl (cI, 6, .inl mx)), (qre, .inl (cI, 6, .inl mr))] t.heap ∧ va_K (dC, dI) vwCl [(cI, .int), (cZ, .boolean)] t ∧ va_D (va_A [(qo, .inr (3, [.int (nI n), .ref qha, .ref qkn, .ref qtr, .int mc, .ref qhv, .ref qbe, .int (nI Q), .ref qlo, .ref qhi, .ref qpa, .ref qne, .ref qre])), (qha, .inl (cZ, 36, .inl mh)), (qkn, .inl (cZ, 36, .inl mk)), (qtr, .inl (cZ, 36, .inl mt)), (qhv, .inl (cI, 36, .inl mv)), (qbe, .inl (cZ, 36, .inl mb)), (qlo, .inl (cI, 9, .inl ml)), (qhi, .inl (cI, 9, .inl mg)), (qpa, .inl (cI, 6, .inl mp)), (qne, .inl (cI, 6, .inl mx)), (qre, .inl (cI, 6, .inl mr))] sz) [(qo, .inr (3, [.int (nI n), .ref qha, .ref qkn, .ref qtr, .int ((mTurned n mh mk mt mv mb ml mg mc Q).2.2.2.2.1), .ref qhv, .ref qbe, .int (nI ((mTurned n mh mk mt mv mb ml mg mc Q).2.1)), .ref qlo, .ref qhi, .ref qpa, .ref qne, .ref qre])), (qha, .inl (cZ, 36, .inl mh)), (qkn, .inl (cZ, 36, .inl mk)), (qtr, .inl (cZ, 36, .inl ((mTurned n mh mk mt mv mb ml mg mc Q).2.2.2.2.2.2.1))), (qhv, .inl (cI, 36, .inl ((mTurned n mh mk mt mv mb ml mg mc Q).2.2.2.2.2.1))), (qbe, .inl (cZ, 36, .inl ((mTurned n mh mk mt mv mb ml mg mc Q).2.2.2.2.2.2.2))), (qlo, .inl (cI, 9, .inl ((mTurned n mh mk mt mv mb ml mg mc Q).2.2.1))), (qhi, .inl (cI, 9, .inl ((mTurned n mh mk mt mv mb ml mg mc Q).2.2.2.1))), (qpa, .inl (cI, 6, .inl mp)), (qne, .inl (cI, 6, .inl mx)), (qre, .inl (cI, 6, .inl mr))]) (va_A [(qo, .inr (3, [.int (nI n), .ref qha, .ref qkn, .ref qtr, .int mc, .ref qhv, .ref qbe, .int (nI Q), .ref qlo, .ref qhi, .ref qpa, .ref qne, .ref qre])), (qha, .inl (cZ, 36, .inl mh)), (qkn, .inl (cZ, 36, .inl mk)), (qtr, .inl (cZ, 36, .inl mt)), (qhv, .inl (cI, 36, .inl mv)), (qbe, .inl (cZ, 36, .inl mb)), (qlo, .inl (cI, 9, .inl ml)), (qhi, .inl (cI, 9, .inl mg)), (qpa, .inl (cI, 6, .inl mp)), (qne, .inl (cI, 6, .inl mx)), (qre, .inl (cI, 6, .inl mr))] sz)) 0 0 (va_A [(qo, .inr (3, [.int (nI n), .ref qha, .ref qkn, .ref qtr, .int mc, .ref qhv, .ref qbe, .int (nI Q), .ref qlo, .ref qhi, .ref qpa, .ref qne, .ref qre])), (qha, .inl (cZ, 36, .inl mh)), (qkn, .inl (cZ, 36, .inl mk)), (qtr, .inl (cZ, 36, .inl mt)), (qhv, .inl (cI, 36, .inl mv)), (qbe, .inl (cZ, 36, .inl mb)), (qlo, .inl (cI, 9, .inl ml)), (qhi, .inl (cI, 9, .inl mg)), (qpa, .inl (cI, 6, .inl mp)), (qne, .inl (cI, 6, .inl mx)), (qre, .inl (cI, 6, .inl mr))] sz) := by
  refine Met.ofW (cc := b_M_turned) (maxL := 4) (ret := (some .int)) (by decide) rfl ?_
  intro p e s m args below meth c s₁ B hml hv
  obtain ⟨rfl, hsz, hP, hK, hD0, hN⟩ := hv
  have hx := B.exec
  have hb := B.bytes
  have hr := B.returns
  have hts := atoms_spec (ws := w_M_turned) B.pre
  have hT : ∀ w ∈ vzB, w.before ([.ref qo] : List Value).toArray s = true := fun w h => hts w (List.mem_cons_of_mem _ h)
  have hown : s.vm.findClass "ArrowClassesModel" = some m.cls := findClass_of_methodNamed B.named
  have hlocks := B.notSynchronized
  subst hsz
  have hD := hD0.self (sz := s.heap.size)
  have hA : ∀ q : Nat, s.heap.size ≤ q → va_A [(qo, .inr (3, [.int (nI n), .ref qha, .ref qkn, .ref qtr, .int mc, .ref qhv, .ref qbe, .int (nI Q), .ref qlo, .ref qhi, .ref qpa, .ref qne, .ref qre])), (qha, .inl (cZ, 36, .inl mh)), (qkn, .inl (cZ, 36, .inl mk)), (qtr, .inl (cZ, 36, .inl mt)), (qhv, .inl (cI, 36, .inl mv)), (qbe, .inl (cZ, 36, .inl mb)), (qlo, .inl (cI, 9, .inl ml)), (qhi, .inl (cI, 9, .inl mg)), (qpa, .inl (cI, 6, .inl mp)), (qne, .inl (cI, 6, .inl mx)), (qre, .inl (cI, 6, .inl mr))] s.heap.size q := fun q h => Or.inr h
  have hS : va_S (va_A [(qo, .inr (3, [.int (nI n), .ref qha, .ref qkn, .ref qtr, .int mc, .ref qhv, .ref qbe, .int (nI Q), .ref qlo, .ref qhi, .ref qpa, .ref qne, .ref qre])), (qha, .inl (cZ, 36, .inl mh)), (qkn, .inl (cZ, 36, .inl mk)), (qtr, .inl (cZ, 36, .inl mt)), (qhv, .inl (cI, 36, .inl mv)), (qbe, .inl (cZ, 36, .inl mb)), (qlo, .inl (cI, 9, .inl ml)), (qhi, .inl (cI, 9, .inl mg)), (qpa, .inl (cI, 6, .inl mp)), (qne, .inl (cI, 6, .inl mx)), (qre, .inl (cI, 6, .inl mr))] s.heap.size) s.heap s.heap [] := va_S.rf
  have hl := lv_entry ([.ref qo]) (n := 4) (Nat.le_of_ble_eq_true rfl)
  rw [lg_entry_eq]
  generalize (lg_sl ([.ref qo]) ++ List.replicate (4 - (lg_sl ([.ref qo])).length) Slot.unset).toArray = ls at hl ⊢
  have hl : lv_has ls 4 [(0, .ref qo)] := hl
  refine lv_aload_n hx hb d_M_turned_0 rfl (lv_at hl 0 rfl) ?_
  refine vz_rv (wr := []) (w1 := [(qo, .inr (3, [.int (nI n), .ref qha, .ref qkn, .ref qtr, .int ((mGo n mh mk mt mv mb ml mg mc Q).2.2.2.1), .ref qhv, .ref qbe, .int (nI ((mGo n mh mk mt mv mb ml mg mc Q).1)), .ref qlo, .ref qhi, .ref qpa, .ref qne, .ref qre])), (qha, .inl (cZ, 36, .inl mh)), (qkn, .inl (cZ, 36, .inl mk)), (qtr, .inl (cZ, 36, .inl ((mGo n mh mk mt mv mb ml mg mc Q).2.2.2.2.2.1))), (qhv, .inl (cI, 36, .inl ((mGo n mh mk mt mv mb ml mg mc Q).2.2.2.2.1))), (qbe, .inl (cZ, 36, .inl ((mGo n mh mk mt mv mb ml mg mc Q).2.2.2.2.2.2))), (qlo, .inl (cI, 9, .inl ((mGo n mh mk mt mv mb ml mg mc Q).2.1))), (qhi, .inl (cI, 9, .inl ((mGo n mh mk mt mv mb ml mg mc Q).2.2.1))), (qpa, .inl (cI, 6, .inl mp)), (qne, .inl (cI, 6, .inl mx)), (qre, .inl (cI, 6, .inl mr))]) (va_runV (As := []) (rest := []) ⟨hx, hb, hml, hown, hT⟩ (c_M_goThrough l dC dI cI cZ qo qha qkn qtr qhv qbe qlo qhi qpa qne qre mp mx mr n mh mk mt mv mb ml mg mc Q (by omega) (by assumption) s.heap.size) (vz_cwV (n := 0) hT wd_link_M_113 wd_inst_M_goThrough wd_sel_M_goThrough wd_ini_M wd_code_M_goThrough (by decide +kernel) ⟨Nat.le_of_ble_eq_true rfl, Nat.le_of_ble_eq_true rfl⟩) (vz_pvw (q0 := 0) (ci := 3) (q := ("ArrowClassesModel", TM, 13)) hN hK hP hD [0, 1, 2, 3, 4, 5, 6, 7, 8, 9, 10] rfl (by decide) rfl rfl rfl) rfl rfl hl.1 rfl (lv_room (Nat.le_of_ble_eq_true rfl)) d_M_turned_1 ⟨Nat.zero_le _, Nat.zero_le _⟩) hP hD hS hA [0, 1, 2, 3, 4, 5, 6, 7, 8, 9, 10] [] rfl rfl (by decide) (by decide) (fun H locs hP hD hS => ?_)
  have hP : va_P (dC, dI) vwCl [(qo, .inr (3, [.int (nI n), .ref qha, .ref qkn, .ref qtr, .int ((mGo n mh mk mt mv mb ml mg mc Q).2.2.2.1), .ref qhv, .ref qbe, .int (nI ((mGo n mh mk mt mv mb ml mg mc Q).1)), .ref qlo, .ref qhi, .ref qpa, .ref qne, .ref qre])), (qha, .inl (cZ, 36, .inl mh)), (qkn, .inl (cZ, 36, .inl mk)), (qtr, .inl (cZ, 36, .inl ((mGo n mh mk mt mv mb ml mg mc Q).2.2.2.2.2.1))), (qhv, .inl (cI, 36, .inl ((mGo n mh mk mt mv mb ml mg mc Q).2.2.2.2.1))), (qbe, .inl (cZ, 36, .inl ((mGo n mh mk mt mv mb ml mg mc Q).2.2.2.2.2.2))), (qlo, .inl (cI, 9, .inl ((mGo n mh mk mt mv mb ml mg mc Q).2.1))), (qhi, .inl (cI, 9, .inl ((mGo n mh mk mt mv mb ml mg mc Q).2.2.1))), (qpa, .inl (cI, 6, .inl mp)), (qne, .inl (cI, 6, .inl mx)), (qre, .inl (cI, 6, .inl mr))] H := hP.sub [0, 1, 2, 3, 4, 5, 6, 7, 8, 9, 10] rfl
  have hD : va_D (va_A [(qo, .inr (3, [.int (nI n), .ref qha, .ref qkn, .ref qtr, .int mc, .ref qhv, .ref qbe, .int (nI Q), .ref qlo, .ref qhi, .ref qpa, .ref qne, .ref qre])), (qha, .inl (cZ, 36, .inl mh)), (qkn, .inl (cZ, 36, .inl mk)), (qtr, .inl (cZ, 36, .inl mt)), (qhv, .inl (cI, 36, .inl mv)), (qbe, .inl (cZ, 36, .inl mb)), (qlo, .inl (cI, 9, .inl ml)), (qhi, .inl (cI, 9, .inl mg)), (qpa, .inl (cI, 6, .inl mp)), (qne, .inl (cI, 6, .inl mx)), (qre, .inl (cI, 6, .inl mr))] s.heap.size) [(qo, .inr (3, [.int (nI n), .ref qha, .ref qkn, .ref qtr, .int ((mGo n mh mk mt mv mb ml mg mc Q).2.2.2.1), .ref qhv, .ref qbe, .int (nI ((mGo n mh mk mt mv mb ml mg mc Q).1)), .ref qlo, .ref qhi, .ref qpa, .ref qne, .ref qre])), (qha, .inl (cZ, 36, .inl mh)), (qkn, .inl (cZ, 36, .inl mk)), (qtr, .inl (cZ, 36, .inl ((mGo n mh mk mt mv mb ml mg mc Q).2.2.2.2.2.1))), (qhv, .inl (cI, 36, .inl ((mGo n mh mk mt mv mb ml mg mc Q).2.2.2.2.1))), (qbe, .inl (cZ, 36, .inl ((mGo n mh mk mt mv mb ml mg mc Q).2.2.2.2.2.2))), (qlo, .inl (cI, 9, .inl ((mGo n mh mk mt mv mb ml mg mc Q).2.1))), (qhi, .inl (cI, 9, .inl ((mGo n mh mk mt mv mb ml mg mc Q).2.2.1))), (qpa, .inl (cI, 6, .inl mp)), (qne, .inl (cI, 6, .inl mx)), (qre, .inl (cI, 6, .inl mr))] := hD.sub [0, 1, 2, 3, 4, 5, 6, 7, 8, 9, 10] (by decide) rfl
  refine lv_iconst (v := 0) hx hb d_M_turned_4 (by decide) ?_
  refine lv_istore_n hx hb d_M_turned_5 rfl hl (by decide) rfl (fun ls hl => ?_)
  have hl : lv_has ls 4 [(1, .int 0), (0, .ref qo)] := hl
  refine lv_iconst (v := 0) hx hb d_M_turned_6 (by decide) ?_
  refine vz_top (y := nI 0) (by decide) ?_
  refine lv_istore_n hx hb d_M_turned_7 rfl hl (by decide) rfl (fun ls hl => ?_)
  have hl : lv_has ls 4 [(2, .int (nI 0)), (1, .int 0), (0, .ref qo)] := hl
  have lp_8 : ∀ (k_8 i_8 : Nat) (c_8 : Int32) (H : Heap) (locs : List Loc) (ls : Array Slot), i_8 + k_8 = n → mTurned_L8 n mh mk mt mv mb ml mg mc Q k_8 i_8 c_8 = (mTurned n mh mk mt mv mb ml mg mc Q) → va_P (dC, dI) vwCl [(qo, .inr (3, [.int (nI n), .ref qha, .ref qkn, .ref qtr, .int ((mGo n mh mk mt mv mb ml mg mc Q).2.2.2.1), .ref qhv, .ref qbe, .int (nI ((mGo n mh mk mt mv mb ml mg mc Q).1)), .ref qlo, .ref qhi, .ref qpa, .ref qne, .ref qre])), (qha, .inl (cZ, 36, .inl mh)), (qkn, .inl (cZ, 36, .inl mk)), (qtr, .inl (cZ, 36, .inl ((mGo n mh mk mt mv mb ml mg mc Q).2.2.2.2.2.1))), (qhv, .inl (cI, 36, .inl ((mGo n mh mk mt mv mb ml mg mc Q).2.2.2.2.1))), (qbe, .inl (cZ, 36, .inl ((mGo n mh mk mt mv mb ml mg mc Q).2.2.2.2.2.2))), (qlo, .inl (cI, 9, .inl ((mGo n mh mk mt mv mb ml mg mc Q).2.1))), (qhi, .inl (cI, 9, .inl ((mGo n mh mk mt mv mb ml mg mc Q).2.2.1))), (qpa, .inl (cI, 6, .inl mp)), (qne, .inl (cI, 6, .inl mx)), (qre, .inl (cI, 6, .inl mr))] H → va_D (va_A [(qo, .inr (3, [.int (nI n), .ref qha, .ref qkn, .ref qtr, .int mc, .ref qhv, .ref qbe, .int (nI Q), .ref qlo, .ref qhi, .ref qpa, .ref qne, .ref qre])), (qha, .inl (cZ, 36, .inl mh)), (qkn, .inl (cZ, 36, .inl mk)), (qtr, .inl (cZ, 36, .inl mt)), (qhv, .inl (cI, 36, .inl mv)), (qbe, .inl (cZ, 36, .inl mb)), (qlo, .inl (cI, 9, .inl ml)), (qhi, .inl (cI, 9, .inl mg)), (qpa, .inl (cI, 6, .inl mp)), (qne, .inl (cI, 6, .inl mx)), (qre, .inl (cI, 6, .inl mr))] s.heap.size) [(qo, .inr (3, [.int (nI n), .ref qha, .ref qkn, .ref qtr, .int ((mGo n mh mk mt mv mb ml mg mc Q).2.2.2.1), .ref qhv, .ref qbe, .int (nI ((mGo n mh mk mt mv mb ml mg mc Q).1)), .ref qlo, .ref qhi, .ref qpa, .ref qne, .ref qre])), (qha, .inl (cZ, 36, .inl mh)), (qkn, .inl (cZ, 36, .inl mk)), (qtr, .inl (cZ, 36, .inl ((mGo n mh mk mt mv mb ml mg mc Q).2.2.2.2.2.1))), (qhv, .inl (cI, 36, .inl ((mGo n mh mk mt mv mb ml mg mc Q).2.2.2.2.1))), (qbe, .inl (cZ, 36, .inl ((mGo n mh mk mt mv mb ml mg mc Q).2.2.2.2.2.2))), (qlo, .inl (cI, 9, .inl ((mGo n mh mk mt mv mb ml mg mc Q).2.1))), (qhi, .inl (cI, 9, .inl ((mGo n mh mk mt mv mb ml mg mc Q).2.2.1))), (qpa, .inl (cI, 6, .inl mp)), (qne, .inl (cI, 6, .inl mx)), (qre, .inl (cI, 6, .inl mr))] → va_S (va_A [(qo, .inr (3, [.int (nI n), .ref qha, .ref qkn, .ref qtr, .int mc, .ref qhv, .ref qbe, .int (nI Q), .ref qlo, .ref qhi, .ref qpa, .ref qne, .ref qre])), (qha, .inl (cZ, 36, .inl mh)), (qkn, .inl (cZ, 36, .inl mk)), (qtr, .inl (cZ, 36, .inl mt)), (qhv, .inl (cI, 36, .inl mv)), (qbe, .inl (cZ, 36, .inl mb)), (qlo, .inl (cI, 9, .inl ml)), (qhi, .inl (cI, 9, .inl mg)), (qpa, .inl (cI, 6, .inl mp)), (qne, .inl (cI, 6, .inl mx)), (qre, .inl (cI, 6, .inl mr))] s.heap.size) s.heap H locs → lv_has ls 4 [(2, .int (nI i_8)), (1, .int c_8), (0, .ref qo)] → W p l e (headSpec w_M_turned rm_M_turned).room s m ([.ref qo] : List Value).toArray below meth c H locs 0 0 (MQ below (va_Qi (fun r (_ : Unit) => r = ((mTurned n mh mk mt mv mb ml mg mc Q).1)) (fun (_ : Unit) t => va_P (dC, dI) vwCl [(qo, .inr (3, [.int (nI n), .ref qha, .ref qkn, .ref qtr, .int ((mTurned n mh mk mt mv mb ml mg mc Q).2.2.2.2.1), .ref qhv, .ref qbe, .int (nI ((mTurned n mh mk mt mv mb ml mg mc Q).2.1)), .ref qlo, .ref qhi, .ref qpa, .ref qne, .ref qre])), (qha, .inl (cZ, 36, .inl mh)), (qkn, .inl (cZ, 36, .inl mk)), (qtr, .inl (cZ, 36, .inl ((mTurned n mh mk mt mv mb ml mg mc Q).2.2.2.2.2.2.1))), (qhv, .inl (cI, 36, .inl ((mTurned n mh mk mt mv mb ml mg mc Q).2.2.2.2.2.1))), (qbe, .inl (cZ, 36, .inl ((mTurned n mh mk mt mv mb ml mg mc Q).2.2.2.2.2.2.2))), (qlo, .inl (cI, 9, .inl ((mTurned n mh mk mt mv mb ml mg mc Q).2.2.1))), (qhi, .inl (cI, 9, .inl ((mTurned n mh mk mt mv mb ml mg mc Q).2.2.2.1))), (qpa, .inl (cI, 6, .inl mp)), (qne, .inl (cI, 6, .inl mx)), (qre, .inl (cI, 6, .inl mr))] t.heap ∧ va_K (dC, dI) vwCl [(cI, .int), (cZ, .boolean)] t ∧ va_D (va_A [(qo, .inr (3, [.int (nI n), .ref qha, .ref qkn, .ref qtr, .int mc, .ref qhv, .ref qbe, .int (nI Q), .ref qlo, .ref qhi, .ref qpa, .ref qne, .ref qre])), (qha, .inl (cZ, 36, .inl mh)), (qkn, .inl (cZ, 36, .inl mk)), (qtr, .inl (cZ, 36, .inl mt)), (qhv, .inl (cI, 36, .inl mv)), (qbe, .inl (cZ, 36, .inl mb)), (qlo, .inl (cI, 9, .inl ml)), (qhi, .inl (cI, 9, .inl mg)), (qpa, .inl (cI, 6, .inl mp)), (qne, .inl (cI, 6, .inl mx)), (qre, .inl (cI, 6, .inl mr))] s.heap.size) [(qo, .inr (3, [.int (nI n), .ref qha, .ref qkn, .ref qtr, .int ((mTurned n mh mk mt mv mb ml mg mc Q).2.2.2.2.1), .ref qhv, .ref qbe, .int (nI ((mTurned n mh mk mt mv mb ml mg mc Q).2.1)), .ref qlo, .ref qhi, .ref qpa, .ref qne, .ref qre])), (qha, .inl (cZ, 36, .inl mh)), (qkn, .inl (cZ, 36, .inl mk)), (qtr, .inl (cZ, 36, .inl ((mTurned n mh mk mt mv mb ml mg mc Q).2.2.2.2.2.2.1))), (qhv, .inl (cI, 36, .inl ((mTurned n mh mk mt mv mb ml mg mc Q).2.2.2.2.2.1))), (qbe, .inl (cZ, 36, .inl ((mTurned n mh mk mt mv mb ml mg mc Q).2.2.2.2.2.2.2))), (qlo, .inl (cI, 9, .inl ((mTurned n mh mk mt mv mb ml mg mc Q).2.2.1))), (qhi, .inl (cI, 9, .inl ((mTurned n mh mk mt mv mb ml mg mc Q).2.2.2.1))), (qpa, .inl (cI, 6, .inl mp)), (qne, .inl (cI, 6, .inl mx)), (qre, .inl (cI, 6, .inl mr))]) (va_A [(qo, .inr (3, [.int (nI n), .ref qha, .ref qkn, .ref qtr, .int mc, .ref qhv, .ref qbe, .int (nI Q), .ref qlo, .ref qhi, .ref qpa, .ref qne, .ref qre])), (qha, .inl (cZ, 36, .inl mh)), (qkn, .inl (cZ, 36, .inl mk)), (qtr, .inl (cZ, 36, .inl mt)), (qhv, .inl (cI, 36, .inl mv)), (qbe, .inl (cZ, 36, .inl mb)), (qlo, .inl (cI, 9, .inl ml)), (qhi, .inl (cI, 9, .inl mg)), (qpa, .inl (cI, 6, .inl mp)), (qne, .inl (cI, 6, .inl mx)), (qre, .inl (cI, 6, .inl mr))] s.heap.size)) ([.ref qo] : List Value).toArray s 0 0 (va_A [(qo, .inr (3, [.int (nI n), .ref qha, .ref qkn, .ref qtr, .int mc, .ref qhv, .ref qbe, .int (nI Q), .ref qlo, .ref qhi, .ref qpa, .ref qne, .ref qre])), (qha, .inl (cZ, 36, .inl mh)), (qkn, .inl (cZ, 36, .inl mk)), (qtr, .inl (cZ, 36, .inl mt)), (qhv, .inl (cI, 36, .inl mv)), (qbe, .inl (cZ, 36, .inl mb)), (qlo, .inl (cI, 9, .inl ml)), (qhi, .inl (cI, 9, .inl mg)), (qpa, .inl (cI, 6, .inl mp)), (qne, .inl (cI, 6, .inl mx)), (qre, .inl (cI, 6, .inl mr))] s.heap.size)) (F0 m 8 ls []) := by
    intro k_8
    induction k_8 with
    | zero =>
      intro i_8 c_8 H locs ls hik_8 hfin_8 hP hD hS hl
      refine lv_iload_n hx hb d_M_turned_8 rfl (lv_at hl 0 rfl) ?_
      refine lv_aload_n hx hb d_M_turned_9 rfl (lv_at hl 2 rfl) ?_
      refine va_get (D := (dC, dI)) (ci := 3) (v := .int (nI n)) (C := "ArrowClassesModel") (T := TM) (N := 13) hx hb hT inM hown hK hP 0 rfl rfl 0 (by decide) (hT _ wd_fld_M_41) (fun _ h9 => h9) rfl d_M_turned_10 ?_
      refine lv_icmp_ge (tgt := 74) hx hb d_M_turned_13 (by decide) (fun _ => ?_) (fun h1 => by rw [nI_leI (by omega) (by omega)] at h1; omega)
      refine lv_iload_n hx hb d_M_turned_74 rfl (lv_at hl 1 rfl) ?_
      have hF : (mTurned n mh mk mt mv mb ml mg mc Q) = (c_8, ((mGo n mh mk mt mv mb ml mg mc Q).1), (mGo n mh mk mt mv mb ml mg mc Q).2.1, (mGo n mh mk mt mv mb ml mg mc Q).2.2.1, (mGo n mh mk mt mv mb ml mg mc Q).2.2.2.1, (mGo n mh mk mt mv mb ml mg mc Q).2.2.2.2.1, (mGo n mh mk mt mv mb ml mg mc Q).2.2.2.2.2.1, (mGo n mh mk mt mv mb ml mg mc Q).2.2.2.2.2.2) := (hfin_8.symm.trans (by rw [mTurned_L8]))
      exact W.iret hx hb hr (fun t ht hW => ⟨⟨c_8, (), rfl, by rw [hF], by rw [hF, ht]; exact hP, va_K.moved hW.alike hK, by rw [hF]; exact hD⟩, hS.F ht⟩) hS.2.2 d_M_turned_75
    | succ k_8 ih_8 =>
      intro i_8 c_8 H locs ls hik_8 hfin_8 hP hD hS hl
      refine lv_iload_n hx hb d_M_turned_8 rfl (lv_at hl 0 rfl) ?_
      refine lv_aload_n hx hb d_M_turned_9 rfl (lv_at hl 2 rfl) ?_
      refine va_get (D := (dC, dI)) (ci := 3) (v := .int (nI n)) (C := "ArrowClassesModel") (T := TM) (N := 13) hx hb hT inM hown hK hP 0 rfl rfl 0 (by decide) (hT _ wd_fld_M_41) (fun _ h9 => h9) rfl d_M_turned_10 ?_
      refine lv_icmp_ge (tgt := 74) hx hb d_M_turned_13 (by decide) (fun h2 => by rw [nI_leI (by omega) (by omega)] at h2; omega) (fun _ => ?_)
      refine lv_iconst (v := 0) hx hb d_M_turned_16 (by decide) ?_
      refine vz_top (y := nI 0) (by decide) ?_
      refine lv_istore_n hx hb d_M_turned_17 rfl hl (by decide) rfl (fun ls hl => ?_)
      have hl : lv_has ls 4 [(3, .int (nI 0)), (2, .int (nI i_8)), (1, .int c_8), (0, .ref qo)] := hl
      have lp_18 : ∀ (k_18 i_18 : Nat) (c_18 : Int32) (H : Heap) (locs : List Loc) (ls : Array Slot), i_18 + k_18 = n → mTurned_L18 n mh mk mt mv mb ml mg mc Q i_8 c_8 (fun w0 => mTurned_L8 n mh mk mt mv mb ml mg mc Q k_8 (i_8 + 1) w0) k_18 i_18 c_18 = (mTurned n mh mk mt mv mb ml mg mc Q) → va_P (dC, dI) vwCl [(qo, .inr (3, [.int (nI n), .ref qha, .ref qkn, .ref qtr, .int ((mGo n mh mk mt mv mb ml mg mc Q).2.2.2.1), .ref qhv, .ref qbe, .int (nI ((mGo n mh mk mt mv mb ml mg mc Q).1)), .ref qlo, .ref qhi, .ref qpa, .ref qne, .ref qre])), (qha, .inl (cZ, 36, .inl mh)), (qkn, .inl (cZ, 36, .inl mk)), (qtr, .inl (cZ, 36, .inl ((mGo n mh mk mt mv mb ml mg mc Q).2.2.2.2.2.1))), (qhv, .inl (cI, 36, .inl ((mGo n mh mk mt mv mb ml mg mc Q).2.2.2.2.1))), (qbe, .inl (cZ, 36, .inl ((mGo n mh mk mt mv mb ml mg mc Q).2.2.2.2.2.2))), (qlo, .inl (cI, 9, .inl ((mGo n mh mk mt mv mb ml mg mc Q).2.1))), (qhi, .inl (cI, 9, .inl ((mGo n mh mk mt mv mb ml mg mc Q).2.2.1))), (qpa, .inl (cI, 6, .inl mp)), (qne, .inl (cI, 6, .inl mx)), (qre, .inl (cI, 6, .inl mr))] H → va_D (va_A [(qo, .inr (3, [.int (nI n), .ref qha, .ref qkn, .ref qtr, .int mc, .ref qhv, .ref qbe, .int (nI Q), .ref qlo, .ref qhi, .ref qpa, .ref qne, .ref qre])), (qha, .inl (cZ, 36, .inl mh)), (qkn, .inl (cZ, 36, .inl mk)), (qtr, .inl (cZ, 36, .inl mt)), (qhv, .inl (cI, 36, .inl mv)), (qbe, .inl (cZ, 36, .inl mb)), (qlo, .inl (cI, 9, .inl ml)), (qhi, .inl (cI, 9, .inl mg)), (qpa, .inl (cI, 6, .inl mp)), (qne, .inl (cI, 6, .inl mx)), (qre, .inl (cI, 6, .inl mr))] s.heap.size) [(qo, .inr (3, [.int (nI n), .ref qha, .ref qkn, .ref qtr, .int ((mGo n mh mk mt mv mb ml mg mc Q).2.2.2.1), .ref qhv, .ref qbe, .int (nI ((mGo n mh mk mt mv mb ml mg mc Q).1)), .ref qlo, .ref qhi, .ref qpa, .ref qne, .ref qre])), (qha, .inl (cZ, 36, .inl mh)), (qkn, .inl (cZ, 36, .inl mk)), (qtr, .inl (cZ, 36, .inl ((mGo n mh mk mt mv mb ml mg mc Q).2.2.2.2.2.1))), (qhv, .inl (cI, 36, .inl ((mGo n mh mk mt mv mb ml mg mc Q).2.2.2.2.1))), (qbe, .inl (cZ, 36, .inl ((mGo n mh mk mt mv mb ml mg mc Q).2.2.2.2.2.2))), (qlo, .inl (cI, 9, .inl ((mGo n mh mk mt mv mb ml mg mc Q).2.1))), (qhi, .inl (cI, 9, .inl ((mGo n mh mk mt mv mb ml mg mc Q).2.2.1))), (qpa, .inl (cI, 6, .inl mp)), (qne, .inl (cI, 6, .inl mx)), (qre, .inl (cI, 6, .inl mr))] → va_S (va_A [(qo, .inr (3, [.int (nI n), .ref qha, .ref qkn, .ref qtr, .int mc, .ref qhv, .ref qbe, .int (nI Q), .ref qlo, .ref qhi, .ref qpa, .ref qne, .ref qre])), (qha, .inl (cZ, 36, .inl mh)), (qkn, .inl (cZ, 36, .inl mk)), (qtr, .inl (cZ, 36, .inl mt)), (qhv, .inl (cI, 36, .inl mv)), (qbe, .inl (cZ, 36, .inl mb)), (qlo, .inl (cI, 9, .inl ml)), (qhi, .inl (cI, 9, .inl mg)), (qpa, .inl (cI, 6, .inl mp)), (qne, .inl (cI, 6, .inl mx)), (qre, .inl (cI, 6, .inl mr))] s.heap.size) s.heap H locs → lv_has ls 4 [(3, .int (nI i_18)), (2, .int (nI i_8)), (1, .int c_18), (0, .ref qo)] → W p l e (headSpec w_M_turned rm_M_turned).room s m ([.ref qo] : List Value).toArray below meth c H locs 0 0 (MQ below (va_Qi (fun r (_ : Unit) => r = ((mTurned n mh mk mt mv mb ml mg mc Q).1)) (fun (_ : Unit) t => va_P (dC, dI) vwCl [(qo, .inr (3, [.int (nI n), .ref qha, .ref qkn, .ref qtr, .int ((mTurned n mh mk mt mv mb ml mg mc Q).2.2.2.2.1), .ref qhv, .ref qbe, .int (nI ((mTurned n mh mk mt mv mb ml mg mc Q).2.1)), .ref qlo, .ref qhi, .ref qpa, .ref qne, .ref qre])), (qha, .inl (cZ, 36, .inl mh)), (qkn, .inl (cZ, 36, .inl mk)), (qtr, .inl (cZ, 36, .inl ((mTurned n mh mk mt mv mb ml mg mc Q).2.2.2.2.2.2.1))), (qhv, .inl (cI, 36, .inl ((mTurned n mh mk mt mv mb ml mg mc Q).2.2.2.2.2.1))), (qbe, .inl (cZ, 36, .inl ((mTurned n mh mk mt mv mb ml mg mc Q).2.2.2.2.2.2.2))), (qlo, .inl (cI, 9, .inl ((mTurned n mh mk mt mv mb ml mg mc Q).2.2.1))), (qhi, .inl (cI, 9, .inl ((mTurned n mh mk mt mv mb ml mg mc Q).2.2.2.1))), (qpa, .inl (cI, 6, .inl mp)), (qne, .inl (cI, 6, .inl mx)), (qre, .inl (cI, 6, .inl mr))] t.heap ∧ va_K (dC, dI) vwCl [(cI, .int), (cZ, .boolean)] t ∧ va_D (va_A [(qo, .inr (3, [.int (nI n), .ref qha, .ref qkn, .ref qtr, .int mc, .ref qhv, .ref qbe, .int (nI Q), .ref qlo, .ref qhi, .ref qpa, .ref qne, .ref qre])), (qha, .inl (cZ, 36, .inl mh)), (qkn, .inl (cZ, 36, .inl mk)), (qtr, .inl (cZ, 36, .inl mt)), (qhv, .inl (cI, 36, .inl mv)), (qbe, .inl (cZ, 36, .inl mb)), (qlo, .inl (cI, 9, .inl ml)), (qhi, .inl (cI, 9, .inl mg)), (qpa, .inl (cI, 6, .inl mp)), (qne, .inl (cI, 6, .inl mx)), (qre, .inl (cI, 6, .inl mr))] s.heap.size) [(qo, .inr (3, [.int (nI n), .ref qha, .ref qkn, .ref qtr, .int ((mTurned n mh mk mt mv mb ml mg mc Q).2.2.2.2.1), .ref qhv, .ref qbe, .int (nI ((mTurned n mh mk mt mv mb ml mg mc Q).2.1)), .ref qlo, .ref qhi, .ref qpa, .ref qne, .ref qre])), (qha, .inl (cZ, 36, .inl mh)), (qkn, .inl (cZ, 36, .inl mk)), (qtr, .inl (cZ, 36, .inl ((mTurned n mh mk mt mv mb ml mg mc Q).2.2.2.2.2.2.1))), (qhv, .inl (cI, 36, .inl ((mTurned n mh mk mt mv mb ml mg mc Q).2.2.2.2.2.1))), (qbe, .inl (cZ, 36, .inl ((mTurned n mh mk mt mv mb ml mg mc Q).2.2.2.2.2.2.2))), (qlo, .inl (cI, 9, .inl ((mTurned n mh mk mt mv mb ml mg mc Q).2.2.1))), (qhi, .inl (cI, 9, .inl ((mTurned n mh mk mt mv mb ml mg mc Q).2.2.2.1))), (qpa, .inl (cI, 6, .inl mp)), (qne, .inl (cI, 6, .inl mx)), (qre, .inl (cI, 6, .inl mr))]) (va_A [(qo, .inr (3, [.int (nI n), .ref qha, .ref qkn, .ref qtr, .int mc, .ref qhv, .ref qbe, .int (nI Q), .ref qlo, .ref qhi, .ref qpa, .ref qne, .ref qre])), (qha, .inl (cZ, 36, .inl mh)), (qkn, .inl (cZ, 36, .inl mk)), (qtr, .inl (cZ, 36, .inl mt)), (qhv, .inl (cI, 36, .inl mv)), (qbe, .inl (cZ, 36, .inl mb)), (qlo, .inl (cI, 9, .inl ml)), (qhi, .inl (cI, 9, .inl mg)), (qpa, .inl (cI, 6, .inl mp)), (qne, .inl (cI, 6, .inl mx)), (qre, .inl (cI, 6, .inl mr))] s.heap.size)) ([.ref qo] : List Value).toArray s 0 0 (va_A [(qo, .inr (3, [.int (nI n), .ref qha, .ref qkn, .ref qtr, .int mc, .ref qhv, .ref qbe, .int (nI Q), .ref qlo, .ref qhi, .ref qpa, .ref qne, .ref qre])), (qha, .inl (cZ, 36, .inl mh)), (qkn, .inl (cZ, 36, .inl mk)), (qtr, .inl (cZ, 36, .inl mt)), (qhv, .inl (cI, 36, .inl mv)), (qbe, .inl (cZ, 36, .inl mb)), (qlo, .inl (cI, 9, .inl ml)), (qhi, .inl (cI, 9, .inl mg)), (qpa, .inl (cI, 6, .inl mp)), (qne, .inl (cI, 6, .inl mx)), (qre, .inl (cI, 6, .inl mr))] s.heap.size)) (F0 m 18 ls []) := by
        intro k_18
        induction k_18 with
        | zero =>
          intro i_18 c_18 H locs ls hik_18 hfin_18 hP hD hS hl
          refine lv_iload_n hx hb d_M_turned_18 rfl (lv_at hl 0 rfl) ?_
          refine lv_aload_n hx hb d_M_turned_19 rfl (lv_at hl 3 rfl) ?_
          refine va_get (D := (dC, dI)) (ci := 3) (v := .int (nI n)) (C := "ArrowClassesModel") (T := TM) (N := 13) hx hb hT inM hown hK hP 0 rfl rfl 0 (by decide) (hT _ wd_fld_M_41) (fun _ h9 => h9) rfl d_M_turned_20 ?_
          refine lv_icmp_ge (tgt := 68) hx hb d_M_turned_23 (by decide) (fun _ => ?_) (fun h3 => by rw [nI_leI (by omega) (by omega)] at h3; omega)
          refine lv_iinc (k := 1) (v := nI (i_8 + 1)) hx hb d_M_turned_68 hl rfl (vz_inc i_8) (by decide) rfl (fun ls hl => ?_)
          have hl : lv_has ls 4 [(2, .int (nI (i_8 + 1))), (3, .int (nI i_18)), (1, .int c_18), (0, .ref qo)] := hl
          refine lv_goto (tgt := 8) hx hb d_M_turned_71 (by decide) ?_
          exact ih_8 (i_8 + 1) c_18 H locs ls (by omega) (by rw [mTurned_L18] at hfin_18; exact hfin_18) hP hD hS (lv_sub hl [0, 2, 3] rfl)
        | succ k_18 ih_18 =>
          intro i_18 c_18 H locs ls hik_18 hfin_18 hP hD hS hl
          refine lv_iload_n hx hb d_M_turned_18 rfl (lv_at hl 0 rfl) ?_
          refine lv_aload_n hx hb d_M_turned_19 rfl (lv_at hl 3 rfl) ?_
          refine va_get (D := (dC, dI)) (ci := 3) (v := .int (nI n)) (C := "ArrowClassesModel") (T := TM) (N := 13) hx hb hT inM hown hK hP 0 rfl rfl 0 (by decide) (hT _ wd_fld_M_41) (fun _ h9 => h9) rfl d_M_turned_20 ?_
          refine lv_icmp_ge (tgt := 68) hx hb d_M_turned_23 (by decide) (fun h4 => by rw [nI_leI (by omega) (by omega)] at h4; omega) (fun _ => ?_)
          refine lv_aload_n hx hb d_M_turned_26 rfl (lv_at hl 3 rfl) ?_
          refine va_get (D := (dC, dI)) (ci := 3) (v := .ref qha) (C := "ArrowClassesModel") (T := TM) (N := 13) hx hb hT inM hown hK hP 0 rfl rfl 1 (by decide) (hT _ wd_fld_M_7) (fun _ h9 => h9) rfl d_M_turned_27 ?_
          refine lv_bipush (v := 6) hx hb d_M_turned_30 (by decide) ?_
          refine lv_iload_n hx hb d_M_turned_32 rfl (lv_at hl 1 rfl) ?_
          refine lv_imul hx hb d_M_turned_33 ?_
          refine lv_iload_n hx hb d_M_turned_34 rfl (lv_at hl 0 rfl) ?_
          refine lv_iadd hx hb d_M_turned_35 ?_
          refine va_zald (D := (dC, dI)) hx hb hK hP 1 1 rfl rfl (vz_ix hn (vp_in_nI (by omega) (by omega)) (vp_in_nI (by omega) (by omega))) d_M_turned_36 ?_
          refine lv_if_eq (tgt := 60) hx hb d_M_turned_37 (by decide) (fun h5 => ?_) (fun h5 => ?_)
          ·
            refine lv_iload_n hx hb d_M_turned_60 rfl (lv_at hl 2 rfl) ?_
            refine lv_istore_n hx hb d_M_turned_61 rfl hl (by decide) rfl (fun ls hl => ?_)
            have hl : lv_has ls 4 [(1, .int c_18), (3, .int (nI i_18)), (2, .int (nI i_8)), (0, .ref qo)] := hl
            refine lv_iinc (k := 1) (v := nI (i_18 + 1)) hx hb d_M_turned_62 hl rfl (vz_inc i_18) (by decide) rfl (fun ls hl => ?_)
            have hl : lv_has ls 4 [(3, .int (nI (i_18 + 1))), (1, .int c_18), (2, .int (nI i_8)), (0, .ref qo)] := hl
            refine lv_goto (tgt := 18) hx hb d_M_turned_65 (by decide) ?_
            exact ih_18 (i_18 + 1) c_18 H locs ls (by omega) (by rw [mTurned_L18, if_pos h5] at hfin_18; exact hfin_18) hP hD hS (lv_sub hl [0, 2, 1, 3] rfl)
          ·
            refine lv_aload_n hx hb d_M_turned_40 rfl (lv_at hl 3 rfl) ?_
            refine va_get (D := (dC, dI)) (ci := 3) (v := .ref qbe) (C := "ArrowClassesModel") (T := TM) (N := 13) hx hb hT inM hown hK hP 0 rfl rfl 6 (by decide) (hT _ wd_fld_M_23) (fun _ h9 => h9) rfl d_M_turned_41 ?_
            refine lv_bipush (v := 6) hx hb d_M_turned_44 (by decide) ?_
            refine lv_iload_n hx hb d_M_turned_46 rfl (lv_at hl 0 rfl) ?_
            refine lv_imul hx hb d_M_turned_47 ?_
            refine lv_iload_n hx hb d_M_turned_48 rfl (lv_at hl 1 rfl) ?_
            refine lv_iadd hx hb d_M_turned_49 ?_
            refine va_zald (D := (dC, dI)) hx hb hK hP 5 1 rfl rfl (vz_ix hn (vp_in_nI (by omega) (by omega)) (vp_in_nI (by omega) (by omega))) d_M_turned_50 ?_
            refine lv_if_eq (tgt := 60) hx hb d_M_turned_51 (by decide) (fun h6 => ?_) (fun h6 => ?_)
            ·
              refine lv_iload_n hx hb d_M_turned_60 rfl (lv_at hl 2 rfl) ?_
              refine lv_istore_n hx hb d_M_turned_61 rfl hl (by decide) rfl (fun ls hl => ?_)
              have hl : lv_has ls 4 [(1, .int c_18), (3, .int (nI i_18)), (2, .int (nI i_8)), (0, .ref qo)] := hl
              refine lv_iinc (k := 1) (v := nI (i_18 + 1)) hx hb d_M_turned_62 hl rfl (vz_inc i_18) (by decide) rfl (fun ls hl => ?_)
              have hl : lv_has ls 4 [(3, .int (nI (i_18 + 1))), (1, .int c_18), (2, .int (nI i_8)), (0, .ref qo)] := hl
              refine lv_goto (tgt := 18) hx hb d_M_turned_65 (by decide) ?_
              exact ih_18 (i_18 + 1) c_18 H locs ls (by omega) (by rw [mTurned_L18, if_neg h5, if_pos h6] at hfin_18; exact hfin_18) hP hD hS (lv_sub hl [0, 2, 1, 3] rfl)
            ·
              refine lv_iload_n hx hb d_M_turned_54 rfl (lv_at hl 2 rfl) ?_
              refine lv_iconst (v := 1) hx hb d_M_turned_55 (by decide) ?_
              refine lv_iadd hx hb d_M_turned_56 ?_
              refine lv_goto (tgt := 61) hx hb d_M_turned_57 (by decide) ?_
              refine lv_istore_n hx hb d_M_turned_61 rfl hl (by decide) rfl (fun ls hl => ?_)
              have hl : lv_has ls 4 [(1, .int (c_18 + 1)), (3, .int (nI i_18)), (2, .int (nI i_8)), (0, .ref qo)] := hl
              refine lv_iinc (k := 1) (v := nI (i_18 + 1)) hx hb d_M_turned_62 hl rfl (vz_inc i_18) (by decide) rfl (fun ls hl => ?_)
              have hl : lv_has ls 4 [(3, .int (nI (i_18 + 1))), (1, .int (c_18 + 1)), (2, .int (nI i_8)), (0, .ref qo)] := hl
              refine lv_goto (tgt := 18) hx hb d_M_turned_65 (by decide) ?_
              exact ih_18 (i_18 + 1) (c_18 + 1) H locs ls (by omega) (by rw [mTurned_L18, if_neg h5, if_neg h6] at hfin_18; exact hfin_18) hP hD hS (lv_sub hl [0, 2, 1, 3] rfl)
      exact lp_18 n 0 c_8 _ _ _ (by omega) (by rw [mTurned_L8] at hfin_8; exact hfin_8) hP hD hS (lv_sub hl [0, 1, 2, 3] rfl)
  exact lp_8 n 0 0 _ _ _ (by omega) (by rw [mTurned]) hP hD hS (lv_sub hl [0, 1, 2] rfl)
set_option maxRecDepth 100000 in
set_option maxHeartbeats 4000000 in
theorem c_M_allBlocked (l : Launch) (dC : Nat → ClassId) (dI : Nat → Nat → Nat) (cI cZ : ClassId) (qo qha qkn qtr qhv qbe qlo qhi qpa qne qre : Nat) (mk : Nat → Int32) (mt : Nat → Int32) (mv : Nat → Int32) (mb : Nat → Int32) (ml : Nat → Int32) (mg : Nat → Int32) (mc : Int32) (Q : Nat) (n : Nat) (mh : Nat → Int32) (mp : Nat → Int32) (mx : Nat → Int32) (mr : Nat → Int32) (x0 : Int32) (y0 : Int32) (set : Int32) (K : Nat) (rr : Int32 × (Nat → Int32) × (Nat → Int32) × (Nat → Int32)) (hrun : mAll n mh mp mx mr x0 y0 set K = some rr) (hn : n ≤ 6) (hvx : vp_in x0 n) (hvy : vp_in y0 n) (hxy : x0 ≠ y0) (sz : Nat) : Met l y_M_allBlocked w_M_allBlocked rm_M_allBlocked (va_Pc [.ref qo, .int x0, .int y0, .int set] (vz_Bw (dC, dI) vwCl [(qo, .inr (3, [.int (nI n), .ref qha, .ref qkn, .ref qtr, .int mc, .ref qhv, .ref qbe, .int (nI Q), .ref qlo, .ref qhi, .ref qpa, .ref qne, .ref qre])), (qha, .inl (cZ, 36, .inl mh)), (qkn, .inl (cZ, 36, .inl mk)), (qtr, .inl (cZ, 36, .inl mt)), (qhv, .inl (cI, 36, .inl mv)), (qbe, .inl (cZ, 36, .inl mb)), (qlo, .inl (cI, 9, .inl ml)), (qhi, .inl (cI, 9, .inl mg)), (qpa, .inl (cI, 6, .inl mp)), (qne, .inl (cI, 6, .inl mx)), (qre, .inl (cI, 6, .inl mr))] [(cI, .int), (cZ, .boolean)] sz)) (va_Qi (fun r (_ : Unit) => r = rr.1) (fun (_ : Unit) t => va_P (dC, dI) vwCl [(qo, .inr (3, [.int (nI n), .ref qha, .ref qkn, .ref qtr, .int mc, .ref qhv, .ref qbe, .int (nI Q), .ref qlo, .ref qhi, .ref qpa, .ref qne, .ref qre])), (qha, .inl (cZ, 36, .inl mh)), (qkn, .inl (cZ, 36, .inl mk)), (qtr, .inl (cZ, 36, .inl mt)), (qhv, .inl (cI, 36, .inl mv)), (qbe, .inl (cZ, 36, .inl mb)), (qlo, .inl (cI, 9, .inl ml)), (qhi, .inl (cI, 9, .inl mg)), (qpa, .inl (cI, 6, .inl rr.2.1)), (qne, .inl (cI, 6, .inl rr.2.2.1)), (qre, .inl (cI, 6, .inl rr.2.2.2))] t.heap ∧ va_K (dC, dI) vwCl [(cI, .int), (cZ, .boolean)] t ∧ va_D (va_A [(qo, .inr (3, [.int (nI n), .ref qha, .ref qkn, .ref qtr, .int mc, .ref qhv, .ref qbe, .int (nI Q), .ref qlo, .ref qhi, .ref qpa, .ref qne, .ref qre])), (qha, .inl (cZ, 36, .inl mh)), (qkn, .inl (cZ, 36, .inl mk)), (qtr, .inl (cZ, 36, .inl mt)), (qhv, .inl (cI, 36, .inl mv)), (qbe, .inl (cZ, 36, .inl mb)), (qlo, .inl (cI, 9, .inl ml)), (qhi, .inl (cI, 9, .inl mg)), (qpa, .inl (cI, 6, .inl mp)), (qne, .inl (cI, 6, .inl mx)), (qre, .inl (cI, 6, .inl mr))] sz) [(qo, .inr (3, [.int (nI n), .ref qha, .ref qkn, .ref qtr, .int mc, .ref qhv, .ref qbe, .int (nI Q), .ref qlo, .ref qhi, .ref qpa, .ref qne, .ref qre])), (qha, .inl (cZ, 36, .inl mh)), (qkn, .inl (cZ, 36, .inl mk)), (qtr, .inl (cZ, 36, .inl mt)), (qhv, .inl (cI, 36, .inl mv)), (qbe, .inl (cZ, 36, .inl mb)), (qlo, .inl (cI, 9, .inl ml)), (qhi, .inl (cI, 9, .inl mg)), (qpa, .inl (cI, 6, .inl rr.2.1)), (qne, .inl (cI, 6, .inl rr.2.2.1)), (qre, .inl (cI, 6, .inl rr.2.2.2))]) (va_A [(qo, .inr (3, [.int (nI n), .ref qha, .ref qkn, .ref qtr, .int mc, .ref qhv, .ref qbe, .int (nI Q), .ref qlo, .ref qhi, .ref qpa, .ref qne, .ref qre])), (qha, .inl (cZ, 36, .inl mh)), (qkn, .inl (cZ, 36, .inl mk)), (qtr, .inl (cZ, 36, .inl mt)), (qhv, .inl (cI, 36, .inl mv)), (qbe, .inl (cZ, 36, .inl mb)), (qlo, .inl (cI, 9, .inl ml)), (qhi, .inl (cI, 9, .inl mg)), (qpa, .inl (cI, 6, .inl mp)), (qne, .inl (cI, 6, .inl mx)), (qre, .inl (cI, 6, .inl mr))] sz)) 0 0 (va_A [(qo, .inr (3, [.int (nI n), .ref qha, .ref qkn, .ref qtr, .int mc, .ref qhv, .ref qbe, .int (nI Q), .ref qlo, .ref qhi, .ref qpa, .ref qne, .ref qre])), (qha, .inl (cZ, 36, .inl mh)), (qkn, .inl (cZ, 36, .inl mk)), (qtr, .inl (cZ, 36, .inl mt)), (qhv, .inl (cI, 36, .inl mv)), (qbe, .inl (cZ, 36, .inl mb)), (qlo, .inl (cI, 9, .inl ml)), (qhi, .inl (cI, 9, .inl mg)), (qpa, .inl (cI, 6, .inl mp)), (qne, .inl (cI, 6, .inl mx)), (qre, .inl (cI, 6, .inl mr))] sz) := by
  refine Met.ofW (cc := b_M_allBlocked) (maxL := 7) (ret := (some .boolean)) (by decide) rfl ?_
  intro p e s m args below meth c s₁ B hml hv
  obtain ⟨rfl, hsz, hP, hK, hD0, hN⟩ := hv
  have hx := B.exec
  have hb := B.bytes
  have hr := B.returns
  have hts := atoms_spec (ws := w_M_allBlocked) B.pre
  have hT : ∀ w ∈ vzB, w.before ([.ref qo, .int x0, .int y0, .int set] : List Value).toArray s = true := fun w h => hts w (List.mem_cons_of_mem _ h)
  have hown : s.vm.findClass "ArrowClassesModel" = some m.cls := findClass_of_methodNamed B.named
  have hlocks := B.notSynchronized
  subst hsz
  have hD := hD0.self (sz := s.heap.size)
  have hA : ∀ q : Nat, s.heap.size ≤ q → va_A [(qo, .inr (3, [.int (nI n), .ref qha, .ref qkn, .ref qtr, .int mc, .ref qhv, .ref qbe, .int (nI Q), .ref qlo, .ref qhi, .ref qpa, .ref qne, .ref qre])), (qha, .inl (cZ, 36, .inl mh)), (qkn, .inl (cZ, 36, .inl mk)), (qtr, .inl (cZ, 36, .inl mt)), (qhv, .inl (cI, 36, .inl mv)), (qbe, .inl (cZ, 36, .inl mb)), (qlo, .inl (cI, 9, .inl ml)), (qhi, .inl (cI, 9, .inl mg)), (qpa, .inl (cI, 6, .inl mp)), (qne, .inl (cI, 6, .inl mx)), (qre, .inl (cI, 6, .inl mr))] s.heap.size q := fun q h => Or.inr h
  have hS : va_S (va_A [(qo, .inr (3, [.int (nI n), .ref qha, .ref qkn, .ref qtr, .int mc, .ref qhv, .ref qbe, .int (nI Q), .ref qlo, .ref qhi, .ref qpa, .ref qne, .ref qre])), (qha, .inl (cZ, 36, .inl mh)), (qkn, .inl (cZ, 36, .inl mk)), (qtr, .inl (cZ, 36, .inl mt)), (qhv, .inl (cI, 36, .inl mv)), (qbe, .inl (cZ, 36, .inl mb)), (qlo, .inl (cI, 9, .inl ml)), (qhi, .inl (cI, 9, .inl mg)), (qpa, .inl (cI, 6, .inl mp)), (qne, .inl (cI, 6, .inl mx)), (qre, .inl (cI, 6, .inl mr))] s.heap.size) s.heap s.heap [] := va_S.rf
  have hl := lv_entry ([.ref qo, .int x0, .int y0, .int set]) (n := 7) (Nat.le_of_ble_eq_true rfl)
  rw [lg_entry_eq]
  generalize (lg_sl ([.ref qo, .int x0, .int y0, .int set]) ++ List.replicate (7 - (lg_sl ([.ref qo, .int x0, .int y0, .int set])).length) Slot.unset).toArray = ls at hl ⊢
  have hl : lv_has ls 7 [(0, .ref qo), (1, .int x0), (2, .int y0), (3, .int set)] := hl
  refine lv_iconst (v := 0) hx hb d_M_allBlocked_0 (by decide) ?_
  refine vz_top (y := nI 0) (by decide) ?_
  refine lv_istore hx hb d_M_allBlocked_1 hl (by decide) rfl (fun ls hl => ?_)
  have hl : lv_has ls 7 [(4, .int (nI 0)), (0, .ref qo), (1, .int x0), (2, .int y0), (3, .int set)] := hl
  have lp_3 : ∀ (k_3 i_3 : Nat) (mr_3 : Nat → Int32) (H : Heap) (locs : List Loc) (ls : Array Slot), i_3 + k_3 = n → mAll_L3 n mh mp mx mr x0 y0 set K k_3 i_3 mr_3 = (some rr) → va_P (dC, dI) vwCl [(qo, .inr (3, [.int (nI n), .ref qha, .ref qkn, .ref qtr, .int mc, .ref qhv, .ref qbe, .int (nI Q), .ref qlo, .ref qhi, .ref qpa, .ref qne, .ref qre])), (qha, .inl (cZ, 36, .inl mh)), (qkn, .inl (cZ, 36, .inl mk)), (qtr, .inl (cZ, 36, .inl mt)), (qhv, .inl (cI, 36, .inl mv)), (qbe, .inl (cZ, 36, .inl mb)), (qlo, .inl (cI, 9, .inl ml)), (qhi, .inl (cI, 9, .inl mg)), (qpa, .inl (cI, 6, .inl mp)), (qne, .inl (cI, 6, .inl mx)), (qre, .inl (cI, 6, .inl mr_3))] H → va_D (va_A [(qo, .inr (3, [.int (nI n), .ref qha, .ref qkn, .ref qtr, .int mc, .ref qhv, .ref qbe, .int (nI Q), .ref qlo, .ref qhi, .ref qpa, .ref qne, .ref qre])), (qha, .inl (cZ, 36, .inl mh)), (qkn, .inl (cZ, 36, .inl mk)), (qtr, .inl (cZ, 36, .inl mt)), (qhv, .inl (cI, 36, .inl mv)), (qbe, .inl (cZ, 36, .inl mb)), (qlo, .inl (cI, 9, .inl ml)), (qhi, .inl (cI, 9, .inl mg)), (qpa, .inl (cI, 6, .inl mp)), (qne, .inl (cI, 6, .inl mx)), (qre, .inl (cI, 6, .inl mr))] s.heap.size) [(qo, .inr (3, [.int (nI n), .ref qha, .ref qkn, .ref qtr, .int mc, .ref qhv, .ref qbe, .int (nI Q), .ref qlo, .ref qhi, .ref qpa, .ref qne, .ref qre])), (qha, .inl (cZ, 36, .inl mh)), (qkn, .inl (cZ, 36, .inl mk)), (qtr, .inl (cZ, 36, .inl mt)), (qhv, .inl (cI, 36, .inl mv)), (qbe, .inl (cZ, 36, .inl mb)), (qlo, .inl (cI, 9, .inl ml)), (qhi, .inl (cI, 9, .inl mg)), (qpa, .inl (cI, 6, .inl mp)), (qne, .inl (cI, 6, .inl mx)), (qre, .inl (cI, 6, .inl mr_3))] → va_S (va_A [(qo, .inr (3, [.int (nI n), .ref qha, .ref qkn, .ref qtr, .int mc, .ref qhv, .ref qbe, .int (nI Q), .ref qlo, .ref qhi, .ref qpa, .ref qne, .ref qre])), (qha, .inl (cZ, 36, .inl mh)), (qkn, .inl (cZ, 36, .inl mk)), (qtr, .inl (cZ, 36, .inl mt)), (qhv, .inl (cI, 36, .inl mv)), (qbe, .inl (cZ, 36, .inl mb)), (qlo, .inl (cI, 9, .inl ml)), (qhi, .inl (cI, 9, .inl mg)), (qpa, .inl (cI, 6, .inl mp)), (qne, .inl (cI, 6, .inl mx)), (qre, .inl (cI, 6, .inl mr))] s.heap.size) s.heap H locs → lv_has ls 7 [(4, .int (nI i_3)), (0, .ref qo), (1, .int x0), (2, .int y0), (3, .int set)] → W p l e (headSpec w_M_allBlocked rm_M_allBlocked).room s m ([.ref qo, .int x0, .int y0, .int set] : List Value).toArray below meth c H locs 0 0 (MQ below (va_Qi (fun r (_ : Unit) => r = rr.1) (fun (_ : Unit) t => va_P (dC, dI) vwCl [(qo, .inr (3, [.int (nI n), .ref qha, .ref qkn, .ref qtr, .int mc, .ref qhv, .ref qbe, .int (nI Q), .ref qlo, .ref qhi, .ref qpa, .ref qne, .ref qre])), (qha, .inl (cZ, 36, .inl mh)), (qkn, .inl (cZ, 36, .inl mk)), (qtr, .inl (cZ, 36, .inl mt)), (qhv, .inl (cI, 36, .inl mv)), (qbe, .inl (cZ, 36, .inl mb)), (qlo, .inl (cI, 9, .inl ml)), (qhi, .inl (cI, 9, .inl mg)), (qpa, .inl (cI, 6, .inl rr.2.1)), (qne, .inl (cI, 6, .inl rr.2.2.1)), (qre, .inl (cI, 6, .inl rr.2.2.2))] t.heap ∧ va_K (dC, dI) vwCl [(cI, .int), (cZ, .boolean)] t ∧ va_D (va_A [(qo, .inr (3, [.int (nI n), .ref qha, .ref qkn, .ref qtr, .int mc, .ref qhv, .ref qbe, .int (nI Q), .ref qlo, .ref qhi, .ref qpa, .ref qne, .ref qre])), (qha, .inl (cZ, 36, .inl mh)), (qkn, .inl (cZ, 36, .inl mk)), (qtr, .inl (cZ, 36, .inl mt)), (qhv, .inl (cI, 36, .inl mv)), (qbe, .inl (cZ, 36, .inl mb)), (qlo, .inl (cI, 9, .inl ml)), (qhi, .inl (cI, 9, .inl mg)), (qpa, .inl (cI, 6, .inl mp)), (qne, .inl (cI, 6, .inl mx)), (qre, .inl (cI, 6, .inl mr))] s.heap.size) [(qo, .inr (3, [.int (nI n), .ref qha, .ref qkn, .ref qtr, .int mc, .ref qhv, .ref qbe, .int (nI Q), .ref qlo, .ref qhi, .ref qpa, .ref qne, .ref qre])), (qha, .inl (cZ, 36, .inl mh)), (qkn, .inl (cZ, 36, .inl mk)), (qtr, .inl (cZ, 36, .inl mt)), (qhv, .inl (cI, 36, .inl mv)), (qbe, .inl (cZ, 36, .inl mb)), (qlo, .inl (cI, 9, .inl ml)), (qhi, .inl (cI, 9, .inl mg)), (qpa, .inl (cI, 6, .inl rr.2.1)), (qne, .inl (cI, 6, .inl rr.2.2.1)), (qre, .inl (cI, 6, .inl rr.2.2.2))]) (va_A [(qo, .inr (3, [.int (nI n), .ref qha, .ref qkn, .ref qtr, .int mc, .ref qhv, .ref qbe, .int (nI Q), .ref qlo, .ref qhi, .ref qpa, .ref qne, .ref qre])), (qha, .inl (cZ, 36, .inl mh)), (qkn, .inl (cZ, 36, .inl mk)), (qtr, .inl (cZ, 36, .inl mt)), (qhv, .inl (cI, 36, .inl mv)), (qbe, .inl (cZ, 36, .inl mb)), (qlo, .inl (cI, 9, .inl ml)), (qhi, .inl (cI, 9, .inl mg)), (qpa, .inl (cI, 6, .inl mp)), (qne, .inl (cI, 6, .inl mx)), (qre, .inl (cI, 6, .inl mr))] s.heap.size)) ([.ref qo, .int x0, .int y0, .int set] : List Value).toArray s 0 0 (va_A [(qo, .inr (3, [.int (nI n), .ref qha, .ref qkn, .ref qtr, .int mc, .ref qhv, .ref qbe, .int (nI Q), .ref qlo, .ref qhi, .ref qpa, .ref qne, .ref qre])), (qha, .inl (cZ, 36, .inl mh)), (qkn, .inl (cZ, 36, .inl mk)), (qtr, .inl (cZ, 36, .inl mt)), (qhv, .inl (cI, 36, .inl mv)), (qbe, .inl (cZ, 36, .inl mb)), (qlo, .inl (cI, 9, .inl ml)), (qhi, .inl (cI, 9, .inl mg)), (qpa, .inl (cI, 6, .inl mp)), (qne, .inl (cI, 6, .inl mx)), (qre, .inl (cI, 6, .inl mr))] s.heap.size)) (F0 m 3 ls []) := by
    intro k_3
    induction k_3 with
    | zero =>
      intro i_3 mr_3 H locs ls hik_3 hfin_3 hP hD hS hl
      refine lv_iload hx hb d_M_allBlocked_3 (lv_at hl 0 rfl) ?_
      refine lv_aload_n hx hb d_M_allBlocked_5 rfl (lv_at hl 1 rfl) ?_
      refine va_get (D := (dC, dI)) (ci := 3) (v := .int (nI n)) (C := "ArrowClassesModel") (T := TM) (N := 13) hx hb hT inM hown hK hP 0 rfl rfl 0 (by decide) (hT _ wd_fld_M_41) (fun _ h9 => h9) rfl d_M_allBlocked_6 ?_
      refine lv_icmp_ge (tgt := 31) hx hb d_M_allBlocked_9 (by decide) (fun _ => ?_) (fun h1 => by rw [nI_leI (by omega) (by omega)] at h1; omega)
      refine lv_iconst (v := 1) hx hb d_M_allBlocked_31 (by decide) ?_
      refine vz_top (y := nI 1) (by decide) ?_
      refine lv_istore hx hb d_M_allBlocked_32 hl (by decide) rfl (fun ls hl => ?_)
      have hl : lv_has ls 7 [(4, .int (nI 1)), (0, .ref qo), (1, .int x0), (2, .int y0), (3, .int set)] := hl
      refine lv_aload_n hx hb d_M_allBlocked_34 rfl (lv_at hl 1 rfl) ?_
      refine va_get (D := (dC, dI)) (ci := 3) (v := .ref qpa) (C := "ArrowClassesModel") (T := TM) (N := 13) hx hb hT inM hown hK hP 0 rfl rfl 10 (by decide) (hT _ wd_fld_M_32) (fun _ h9 => h9) rfl d_M_allBlocked_35 ?_
      refine lv_iconst (v := 0) hx hb d_M_allBlocked_38 (by decide) ?_
      refine lv_iload_n hx hb d_M_allBlocked_39 rfl (lv_at hl 2 rfl) ?_
      refine va_iast (D := (dC, dI)) hx hb hK hP hD hS 8 0 rfl rfl (show vp_in (nI 0) 6 from vp_in_nI (by decide) (by decide)) d_M_allBlocked_40 (fun H locs hP hD hS => ?_)
      have hP : va_P (dC, dI) vwCl [(qo, .inr (3, [.int (nI n), .ref qha, .ref qkn, .ref qtr, .int mc, .ref qhv, .ref qbe, .int (nI Q), .ref qlo, .ref qhi, .ref qpa, .ref qne, .ref qre])), (qha, .inl (cZ, 36, .inl mh)), (qkn, .inl (cZ, 36, .inl mk)), (qtr, .inl (cZ, 36, .inl mt)), (qhv, .inl (cI, 36, .inl mv)), (qbe, .inl (cZ, 36, .inl mb)), (qlo, .inl (cI, 9, .inl ml)), (qhi, .inl (cI, 9, .inl mg)), (qpa, .inl (cI, 6, .inl (upd mp (0 : Int32).toNatClampNeg x0))), (qne, .inl (cI, 6, .inl mx)), (qre, .inl (cI, 6, .inl mr_3))] H := hP
      have hD : va_D (va_A [(qo, .inr (3, [.int (nI n), .ref qha, .ref qkn, .ref qtr, .int mc, .ref qhv, .ref qbe, .int (nI Q), .ref qlo, .ref qhi, .ref qpa, .ref qne, .ref qre])), (qha, .inl (cZ, 36, .inl mh)), (qkn, .inl (cZ, 36, .inl mk)), (qtr, .inl (cZ, 36, .inl mt)), (qhv, .inl (cI, 36, .inl mv)), (qbe, .inl (cZ, 36, .inl mb)), (qlo, .inl (cI, 9, .inl ml)), (qhi, .inl (cI, 9, .inl mg)), (qpa, .inl (cI, 6, .inl mp)), (qne, .inl (cI, 6, .inl mx)), (qre, .inl (cI, 6, .inl mr))] s.heap.size) [(qo, .inr (3, [.int (nI n), .ref qha, .ref qkn, .ref qtr, .int mc, .ref qhv, .ref qbe, .int (nI Q), .ref qlo, .ref qhi, .ref qpa, .ref qne, .ref qre])), (qha, .inl (cZ, 36, .inl mh)), (qkn, .inl (cZ, 36, .inl mk)), (qtr, .inl (cZ, 36, .inl mt)), (qhv, .inl (cI, 36, .inl mv)), (qbe, .inl (cZ, 36, .inl mb)), (qlo, .inl (cI, 9, .inl ml)), (qhi, .inl (cI, 9, .inl mg)), (qpa, .inl (cI, 6, .inl (upd mp (0 : Int32).toNatClampNeg x0))), (qne, .inl (cI, 6, .inl mx)), (qre, .inl (cI, 6, .inl mr_3))] := hD
      refine lv_aload_n hx hb d_M_allBlocked_41 rfl (lv_at hl 1 rfl) ?_
      refine va_get (D := (dC, dI)) (ci := 3) (v := .ref qne) (C := "ArrowClassesModel") (T := TM) (N := 13) hx hb hT inM hown hK hP 0 rfl rfl 11 (by decide) (hT _ wd_fld_M_35) (fun _ h9 => h9) rfl d_M_allBlocked_42 ?_
      refine lv_iconst (v := 0) hx hb d_M_allBlocked_45 (by decide) ?_
      refine lv_iconst (v := 0) hx hb d_M_allBlocked_46 (by decide) ?_
      refine va_iast (D := (dC, dI)) hx hb hK hP hD hS 9 0 rfl rfl (show vp_in (nI 0) 6 from vp_in_nI (by decide) (by decide)) d_M_allBlocked_47 (fun H locs hP hD hS => ?_)
      have hP : va_P (dC, dI) vwCl [(qo, .inr (3, [.int (nI n), .ref qha, .ref qkn, .ref qtr, .int mc, .ref qhv, .ref qbe, .int (nI Q), .ref qlo, .ref qhi, .ref qpa, .ref qne, .ref qre])), (qha, .inl (cZ, 36, .inl mh)), (qkn, .inl (cZ, 36, .inl mk)), (qtr, .inl (cZ, 36, .inl mt)), (qhv, .inl (cI, 36, .inl mv)), (qbe, .inl (cZ, 36, .inl mb)), (qlo, .inl (cI, 9, .inl ml)), (qhi, .inl (cI, 9, .inl mg)), (qpa, .inl (cI, 6, .inl (upd mp (0 : Int32).toNatClampNeg x0))), (qne, .inl (cI, 6, .inl (upd mx (0 : Int32).toNatClampNeg 0))), (qre, .inl (cI, 6, .inl mr_3))] H := hP
      have hD : va_D (va_A [(qo, .inr (3, [.int (nI n), .ref qha, .ref qkn, .ref qtr, .int mc, .ref qhv, .ref qbe, .int (nI Q), .ref qlo, .ref qhi, .ref qpa, .ref qne, .ref qre])), (qha, .inl (cZ, 36, .inl mh)), (qkn, .inl (cZ, 36, .inl mk)), (qtr, .inl (cZ, 36, .inl mt)), (qhv, .inl (cI, 36, .inl mv)), (qbe, .inl (cZ, 36, .inl mb)), (qlo, .inl (cI, 9, .inl ml)), (qhi, .inl (cI, 9, .inl mg)), (qpa, .inl (cI, 6, .inl mp)), (qne, .inl (cI, 6, .inl mx)), (qre, .inl (cI, 6, .inl mr))] s.heap.size) [(qo, .inr (3, [.int (nI n), .ref qha, .ref qkn, .ref qtr, .int mc, .ref qhv, .ref qbe, .int (nI Q), .ref qlo, .ref qhi, .ref qpa, .ref qne, .ref qre])), (qha, .inl (cZ, 36, .inl mh)), (qkn, .inl (cZ, 36, .inl mk)), (qtr, .inl (cZ, 36, .inl mt)), (qhv, .inl (cI, 36, .inl mv)), (qbe, .inl (cZ, 36, .inl mb)), (qlo, .inl (cI, 9, .inl ml)), (qhi, .inl (cI, 9, .inl mg)), (qpa, .inl (cI, 6, .inl (upd mp (0 : Int32).toNatClampNeg x0))), (qne, .inl (cI, 6, .inl (upd mx (0 : Int32).toNatClampNeg 0))), (qre, .inl (cI, 6, .inl mr_3))] := hD
      have lp_48 : ∀ (k_48 : Nat) (M_48 : Nat) (mp_48 : Nat → Int32) (mx_48 : Nat → Int32) (H : Heap) (locs : List Loc) (ls : Array Slot), dInv n x0 M_48 mp_48 mx_48 → mAll_L48 n mh mp mx mr x0 y0 set K i_3 mr_3 k_48 M_48 mp_48 mx_48 = (some rr) → va_P (dC, dI) vwCl [(qo, .inr (3, [.int (nI n), .ref qha, .ref qkn, .ref qtr, .int mc, .ref qhv, .ref qbe, .int (nI Q), .ref qlo, .ref qhi, .ref qpa, .ref qne, .ref qre])), (qha, .inl (cZ, 36, .inl mh)), (qkn, .inl (cZ, 36, .inl mk)), (qtr, .inl (cZ, 36, .inl mt)), (qhv, .inl (cI, 36, .inl mv)), (qbe, .inl (cZ, 36, .inl mb)), (qlo, .inl (cI, 9, .inl ml)), (qhi, .inl (cI, 9, .inl mg)), (qpa, .inl (cI, 6, .inl mp_48)), (qne, .inl (cI, 6, .inl mx_48)), (qre, .inl (cI, 6, .inl mr_3))] H → va_D (va_A [(qo, .inr (3, [.int (nI n), .ref qha, .ref qkn, .ref qtr, .int mc, .ref qhv, .ref qbe, .int (nI Q), .ref qlo, .ref qhi, .ref qpa, .ref qne, .ref qre])), (qha, .inl (cZ, 36, .inl mh)), (qkn, .inl (cZ, 36, .inl mk)), (qtr, .inl (cZ, 36, .inl mt)), (qhv, .inl (cI, 36, .inl mv)), (qbe, .inl (cZ, 36, .inl mb)), (qlo, .inl (cI, 9, .inl ml)), (qhi, .inl (cI, 9, .inl mg)), (qpa, .inl (cI, 6, .inl mp)), (qne, .inl (cI, 6, .inl mx)), (qre, .inl (cI, 6, .inl mr))] s.heap.size) [(qo, .inr (3, [.int (nI n), .ref qha, .ref qkn, .ref qtr, .int mc, .ref qhv, .ref qbe, .int (nI Q), .ref qlo, .ref qhi, .ref qpa, .ref qne, .ref qre])), (qha, .inl (cZ, 36, .inl mh)), (qkn, .inl (cZ, 36, .inl mk)), (qtr, .inl (cZ, 36, .inl mt)), (qhv, .inl (cI, 36, .inl mv)), (qbe, .inl (cZ, 36, .inl mb)), (qlo, .inl (cI, 9, .inl ml)), (qhi, .inl (cI, 9, .inl mg)), (qpa, .inl (cI, 6, .inl mp_48)), (qne, .inl (cI, 6, .inl mx_48)), (qre, .inl (cI, 6, .inl mr_3))] → va_S (va_A [(qo, .inr (3, [.int (nI n), .ref qha, .ref qkn, .ref qtr, .int mc, .ref qhv, .ref qbe, .int (nI Q), .ref qlo, .ref qhi, .ref qpa, .ref qne, .ref qre])), (qha, .inl (cZ, 36, .inl mh)), (qkn, .inl (cZ, 36, .inl mk)), (qtr, .inl (cZ, 36, .inl mt)), (qhv, .inl (cI, 36, .inl mv)), (qbe, .inl (cZ, 36, .inl mb)), (qlo, .inl (cI, 9, .inl ml)), (qhi, .inl (cI, 9, .inl mg)), (qpa, .inl (cI, 6, .inl mp)), (qne, .inl (cI, 6, .inl mx)), (qre, .inl (cI, 6, .inl mr))] s.heap.size) s.heap H locs → lv_has ls 7 [(4, .int (nI M_48)), (0, .ref qo), (1, .int x0), (2, .int y0), (3, .int set)] → W p l e (headSpec w_M_allBlocked rm_M_allBlocked).room s m ([.ref qo, .int x0, .int y0, .int set] : List Value).toArray below meth c H locs 0 0 (MQ below (va_Qi (fun r (_ : Unit) => r = rr.1) (fun (_ : Unit) t => va_P (dC, dI) vwCl [(qo, .inr (3, [.int (nI n), .ref qha, .ref qkn, .ref qtr, .int mc, .ref qhv, .ref qbe, .int (nI Q), .ref qlo, .ref qhi, .ref qpa, .ref qne, .ref qre])), (qha, .inl (cZ, 36, .inl mh)), (qkn, .inl (cZ, 36, .inl mk)), (qtr, .inl (cZ, 36, .inl mt)), (qhv, .inl (cI, 36, .inl mv)), (qbe, .inl (cZ, 36, .inl mb)), (qlo, .inl (cI, 9, .inl ml)), (qhi, .inl (cI, 9, .inl mg)), (qpa, .inl (cI, 6, .inl rr.2.1)), (qne, .inl (cI, 6, .inl rr.2.2.1)), (qre, .inl (cI, 6, .inl rr.2.2.2))] t.heap ∧ va_K (dC, dI) vwCl [(cI, .int), (cZ, .boolean)] t ∧ va_D (va_A [(qo, .inr (3, [.int (nI n), .ref qha, .ref qkn, .ref qtr, .int mc, .ref qhv, .ref qbe, .int (nI Q), .ref qlo, .ref qhi, .ref qpa, .ref qne, .ref qre])), (qha, .inl (cZ, 36, .inl mh)), (qkn, .inl (cZ, 36, .inl mk)), (qtr, .inl (cZ, 36, .inl mt)), (qhv, .inl (cI, 36, .inl mv)), (qbe, .inl (cZ, 36, .inl mb)), (qlo, .inl (cI, 9, .inl ml)), (qhi, .inl (cI, 9, .inl mg)), (qpa, .inl (cI, 6, .inl mp)), (qne, .inl (cI, 6, .inl mx)), (qre, .inl (cI, 6, .inl mr))] s.heap.size) [(qo, .inr (3, [.int (nI n), .ref qha, .ref qkn, .ref qtr, .int mc, .ref qhv, .ref qbe, .int (nI Q), .ref qlo, .ref qhi, .ref qpa, .ref qne, .ref qre])), (qha, .inl (cZ, 36, .inl mh)), (qkn, .inl (cZ, 36, .inl mk)), (qtr, .inl (cZ, 36, .inl mt)), (qhv, .inl (cI, 36, .inl mv)), (qbe, .inl (cZ, 36, .inl mb)), (qlo, .inl (cI, 9, .inl ml)), (qhi, .inl (cI, 9, .inl mg)), (qpa, .inl (cI, 6, .inl rr.2.1)), (qne, .inl (cI, 6, .inl rr.2.2.1)), (qre, .inl (cI, 6, .inl rr.2.2.2))]) (va_A [(qo, .inr (3, [.int (nI n), .ref qha, .ref qkn, .ref qtr, .int mc, .ref qhv, .ref qbe, .int (nI Q), .ref qlo, .ref qhi, .ref qpa, .ref qne, .ref qre])), (qha, .inl (cZ, 36, .inl mh)), (qkn, .inl (cZ, 36, .inl mk)), (qtr, .inl (cZ, 36, .inl mt)), (qhv, .inl (cI, 36, .inl mv)), (qbe, .inl (cZ, 36, .inl mb)), (qlo, .inl (cI, 9, .inl ml)), (qhi, .inl (cI, 9, .inl mg)), (qpa, .inl (cI, 6, .inl mp)), (qne, .inl (cI, 6, .inl mx)), (qre, .inl (cI, 6, .inl mr))] s.heap.size)) ([.ref qo, .int x0, .int y0, .int set] : List Value).toArray s 0 0 (va_A [(qo, .inr (3, [.int (nI n), .ref qha, .ref qkn, .ref qtr, .int mc, .ref qhv, .ref qbe, .int (nI Q), .ref qlo, .ref qhi, .ref qpa, .ref qne, .ref qre])), (qha, .inl (cZ, 36, .inl mh)), (qkn, .inl (cZ, 36, .inl mk)), (qtr, .inl (cZ, 36, .inl mt)), (qhv, .inl (cI, 36, .inl mv)), (qbe, .inl (cZ, 36, .inl mb)), (qlo, .inl (cI, 9, .inl ml)), (qhi, .inl (cI, 9, .inl mg)), (qpa, .inl (cI, 6, .inl mp)), (qne, .inl (cI, 6, .inl mx)), (qre, .inl (cI, 6, .inl mr))] s.heap.size)) (F0 m 48 ls []) := by
        intro k_48
        induction k_48 with
        | zero =>
          intro M_48 mp_48 mx_48 H locs ls hinv_48 hfin_48 hP hD hS hl
          cases hfin_48
        | succ k_48 ih_48 =>
          intro M_48 mp_48 mx_48 H locs ls hinv_48 hfin_48 hP hD hS hl
          refine lv_iload hx hb d_M_allBlocked_48 (lv_at hl 0 rfl) ?_
          refine lv_if_le (tgt := 178) hx hb d_M_allBlocked_50 (by decide) (fun h2 => ?_) (fun h2 => ?_)
          ·
            refine lv_iconst (v := 1) hx hb d_M_allBlocked_178 (by decide) ?_
            have hF : rr = (1, mp_48, mx_48, mr_3) := Option.some.inj (hfin_48.symm.trans (by rw [mAll_L48, if_pos h2]))
            exact W.zret hx hb hr (by decide) (fun t ht hW => ⟨⟨(1 : Int32), (), rfl, by rw [hF], by rw [hF, ht]; exact hP, va_K.moved hW.alike hK, by rw [hF]; exact hD⟩, hS.F ht⟩) hS.2.2 d_M_allBlocked_179
          ·
            have hM1 : 1 ≤ M_48 := dInv_M1 hn hinv_48 h2
            have hM6 : M_48 ≤ 6 := Nat.le_trans hinv_48.1 hn
            have hpa48 := dInv_pa hn hinv_48
            have hat := dInv_at hn hinv_48 hM1
            refine lv_iload hx hb d_M_allBlocked_53 (lv_at hl 0 rfl) ?_
            refine lv_iconst (v := 1) hx hb d_M_allBlocked_55 (by decide) ?_
            refine lv_isub hx hb d_M_allBlocked_56 ?_
            refine lv_istore hx hb d_M_allBlocked_57 hl (by decide) rfl (fun ls hl => ?_)
            have hl : lv_has ls 7 [(5, .int ((nI M_48) - 1)), (4, .int (nI M_48)), (0, .ref qo), (1, .int x0), (2, .int y0), (3, .int set)] := hl
            refine lv_aload_n hx hb d_M_allBlocked_59 rfl (lv_at hl 2 rfl) ?_
            refine va_get (D := (dC, dI)) (ci := 3) (v := .ref qne) (C := "ArrowClassesModel") (T := TM) (N := 13) hx hb hT inM hown hK hP 0 rfl rfl 11 (by decide) (hT _ wd_fld_M_35) (fun _ h9 => h9) rfl d_M_allBlocked_60 ?_
            refine lv_iload hx hb d_M_allBlocked_63 (lv_at hl 0 rfl) ?_
            refine va_iald (D := (dC, dI)) hx hb hK hP 9 0 rfl rfl (by rw [vz_sub1 (by omega)]; exact vp_in_nI (by omega) (by omega)) d_M_allBlocked_65 ?_
            refine lv_istore hx hb d_M_allBlocked_66 hl (by decide) rfl (fun ls hl => ?_)
            have hl : lv_has ls 7 [(6, .int (mx_48 ((nI M_48) - 1).toNatClampNeg)), (5, .int ((nI M_48) - 1)), (4, .int (nI M_48)), (0, .ref qo), (1, .int x0), (2, .int y0), (3, .int set)] := hl
            refine lv_iload hx hb d_M_allBlocked_68 (lv_at hl 0 rfl) ?_
            refine lv_aload_n hx hb d_M_allBlocked_70 rfl (lv_at hl 3 rfl) ?_
            refine va_get (D := (dC, dI)) (ci := 3) (v := .int (nI n)) (C := "ArrowClassesModel") (T := TM) (N := 13) hx hb hT inM hown hK hP 0 rfl rfl 0 (by decide) (hT _ wd_fld_M_41) (fun _ h9 => h9) rfl d_M_allBlocked_71 ?_
            refine lv_icmp_eq (tgt := 88) hx hb d_M_allBlocked_74 (by decide) (fun h3 => ?_) (fun h3 => ?_)
            ·
              refine lv_aload_n hx hb d_M_allBlocked_88 rfl (lv_at hl 3 rfl) ?_
              refine va_get (D := (dC, dI)) (ci := 3) (v := .ref qpa) (C := "ArrowClassesModel") (T := TM) (N := 13) hx hb hT inM hown hK hP 0 rfl rfl 10 (by decide) (hT _ wd_fld_M_32) (fun _ h9 => h9) rfl d_M_allBlocked_89 ?_
              refine lv_iload hx hb d_M_allBlocked_92 (lv_at hl 1 rfl) ?_
              refine va_iald (D := (dC, dI)) hx hb hK hP 8 0 rfl rfl (by rw [vz_sub1 (by omega)]; exact vp_in_nI (by omega) (by omega)) d_M_allBlocked_94 ?_
              refine lv_iload_n hx hb d_M_allBlocked_95 rfl (lv_at hl 5 rfl) ?_
              refine lv_icmp_ne (tgt := 111) hx hb d_M_allBlocked_96 (by decide) (fun h4 => ?_) (fun h4 => ?_)
              ·
                refine lv_iinc (k := 2) (v := nI (M_48 - 1)) hx hb d_M_allBlocked_111 hl rfl (vz_dec (by omega)) (by decide) rfl (fun ls hl => ?_)
                have hl : lv_has ls 7 [(4, .int (nI (M_48 - 1))), (6, .int (mx_48 ((nI M_48) - 1).toNatClampNeg)), (5, .int ((nI M_48) - 1)), (0, .ref qo), (1, .int x0), (2, .int y0), (3, .int set)] := hl
                refine lv_goto (tgt := 175) hx hb d_M_allBlocked_114 (by decide) ?_
                refine lv_goto (tgt := 48) hx hb d_M_allBlocked_175 (by decide) ?_
                exact ih_48 (M_48 - 1) mp_48 mx_48 H locs ls (dInv_pop hinv_48) (by rw [mAll_L48, if_neg h2, if_pos h3, if_neg h4] at hfin_48; exact hfin_48) hP hD hS (lv_sub hl [0, 3, 4, 5, 6] rfl)
              ·
                have h2M : 2 ≤ M_48 := dInv_2 hn hinv_48 hM1 hxy h4
                refine lv_aload_n hx hb d_M_allBlocked_99 rfl (lv_at hl 3 rfl) ?_
                refine lv_iload hx hb d_M_allBlocked_100 (lv_at hl 2 rfl) ?_
                refine lv_iload_n hx hb d_M_allBlocked_102 rfl (lv_at hl 6 rfl) ?_
                refine vz_ro (va_runV (As := [.int (nI M_48), .int set]) (rest := []) ⟨hx, hb, hml, hown, hT⟩ (c_M_blocked l dC dI cI cZ qo qha qkn qtr qhv qbe qlo qhi qpa qne qre n mk mt mv mb ml mg mx_48 mc Q mh mp_48 mr_3 M_48 set (by omega) (by omega) (by omega) (by assumption)) (vz_cwV (n := 2) hT wd_link_M_77 wd_inst_M_blocked wd_sel_M_blocked wd_ini_M wd_code_M_blocked (by decide +kernel) ⟨Nat.le_of_ble_eq_true rfl, Nat.le_of_ble_eq_true rfl⟩) (vz_pv (q0 := 0) (ci := 3) (q := ("ArrowClassesModel", TM, 13)) hN hK hP [0, 1, 2, 3, 4, 5, 6, 7, 8, 9, 10] rfl rfl rfl) rfl rfl hl.1 rfl (lv_room (Nat.le_of_ble_eq_true rfl)) d_M_allBlocked_103 ⟨Nat.zero_le _, Nat.zero_le _⟩) ?_
                refine lv_if_ne (tgt := 111) hx hb d_M_allBlocked_106 (by decide) (fun h5 => ?_) (fun h5 => ?_)
                ·
                  refine lv_iinc (k := 2) (v := nI (M_48 - 1)) hx hb d_M_allBlocked_111 hl rfl (vz_dec (by omega)) (by decide) rfl (fun ls hl => ?_)
                  have hl : lv_has ls 7 [(4, .int (nI (M_48 - 1))), (6, .int (mx_48 ((nI M_48) - 1).toNatClampNeg)), (5, .int ((nI M_48) - 1)), (0, .ref qo), (1, .int x0), (2, .int y0), (3, .int set)] := hl
                  refine lv_goto (tgt := 175) hx hb d_M_allBlocked_114 (by decide) ?_
                  refine lv_goto (tgt := 48) hx hb d_M_allBlocked_175 (by decide) ?_
                  exact ih_48 (M_48 - 1) mp_48 mx_48 H locs ls (dInv_pop hinv_48) (by rw [mAll_L48, if_neg h2, if_pos h3, if_pos h4, if_neg h5] at hfin_48; exact hfin_48) hP hD hS (lv_sub hl [0, 3, 4, 5, 6] rfl)
                ·
                  refine lv_iconst (v := 0) hx hb d_M_allBlocked_109 (by decide) ?_
                  have hF : rr = (0, mp_48, mx_48, mr_3) := Option.some.inj (hfin_48.symm.trans (by rw [mAll_L48, if_neg h2, if_pos h3, if_pos h4, if_pos h5]))
                  exact W.zret hx hb hr (by decide) (fun t ht hW => ⟨⟨(0 : Int32), (), rfl, by rw [hF], by rw [hF, ht]; exact hP, va_K.moved hW.alike hK, by rw [hF]; exact hD⟩, hS.F ht⟩) hS.2.2 d_M_allBlocked_110
            ·
              have hvn := dInv_v hn hinv_48 hM1 h3
              refine lv_aload_n hx hb d_M_allBlocked_77 rfl (lv_at hl 3 rfl) ?_
              refine va_get (D := (dC, dI)) (ci := 3) (v := .ref qpa) (C := "ArrowClassesModel") (T := TM) (N := 13) hx hb hT inM hown hK hP 0 rfl rfl 10 (by decide) (hT _ wd_fld_M_32) (fun _ h9 => h9) rfl d_M_allBlocked_78 ?_
              refine lv_iload hx hb d_M_allBlocked_81 (lv_at hl 1 rfl) ?_
              refine va_iald (D := (dC, dI)) hx hb hK hP 8 0 rfl rfl (by rw [vz_sub1 (by omega)]; exact vp_in_nI (by omega) (by omega)) d_M_allBlocked_83 ?_
              refine lv_iload_n hx hb d_M_allBlocked_84 rfl (lv_at hl 5 rfl) ?_
              refine lv_icmp_ne (tgt := 117) hx hb d_M_allBlocked_85 (by decide) (fun h6 => ?_) (fun h6 => ?_)
              ·
                refine lv_aload_n hx hb d_M_allBlocked_117 rfl (lv_at hl 3 rfl) ?_
                refine va_get (D := (dC, dI)) (ci := 3) (v := .ref qne) (C := "ArrowClassesModel") (T := TM) (N := 13) hx hb hT inM hown hK hP 0 rfl rfl 11 (by decide) (hT _ wd_fld_M_35) (fun _ h9 => h9) rfl d_M_allBlocked_118 ?_
                refine lv_iload hx hb d_M_allBlocked_121 (lv_at hl 1 rfl) ?_
                refine lv_dup2_11 hx hb d_M_allBlocked_123 rfl rfl ?_
                refine va_iald (D := (dC, dI)) hx hb hK hP 9 0 rfl rfl (by rw [vz_sub1 (by omega)]; exact vp_in_nI (by omega) (by omega)) d_M_allBlocked_124 ?_
                refine lv_iconst (v := 1) hx hb d_M_allBlocked_125 (by decide) ?_
                refine lv_iadd hx hb d_M_allBlocked_126 ?_
                refine va_iast (D := (dC, dI)) hx hb hK hP hD hS 9 0 rfl rfl (by rw [vz_sub1 (by omega)]; exact vp_in_nI (by omega) (by omega)) d_M_allBlocked_127 (fun H locs hP hD hS => ?_)
                have hP : va_P (dC, dI) vwCl [(qo, .inr (3, [.int (nI n), .ref qha, .ref qkn, .ref qtr, .int mc, .ref qhv, .ref qbe, .int (nI Q), .ref qlo, .ref qhi, .ref qpa, .ref qne, .ref qre])), (qha, .inl (cZ, 36, .inl mh)), (qkn, .inl (cZ, 36, .inl mk)), (qtr, .inl (cZ, 36, .inl mt)), (qhv, .inl (cI, 36, .inl mv)), (qbe, .inl (cZ, 36, .inl mb)), (qlo, .inl (cI, 9, .inl ml)), (qhi, .inl (cI, 9, .inl mg)), (qpa, .inl (cI, 6, .inl mp_48)), (qne, .inl (cI, 6, .inl (upd mx_48 ((nI M_48) - 1).toNatClampNeg ((mx_48 ((nI M_48) - 1).toNatClampNeg) + 1)))), (qre, .inl (cI, 6, .inl mr_3))] H := hP
                have hD : va_D (va_A [(qo, .inr (3, [.int (nI n), .ref qha, .ref qkn, .ref qtr, .int mc, .ref qhv, .ref qbe, .int (nI Q), .ref qlo, .ref qhi, .ref qpa, .ref qne, .ref qre])), (qha, .inl (cZ, 36, .inl mh)), (qkn, .inl (cZ, 36, .inl mk)), (qtr, .inl (cZ, 36, .inl mt)), (qhv, .inl (cI, 36, .inl mv)), (qbe, .inl (cZ, 36, .inl mb)), (qlo, .inl (cI, 9, .inl ml)), (qhi, .inl (cI, 9, .inl mg)), (qpa, .inl (cI, 6, .inl mp)), (qne, .inl (cI, 6, .inl mx)), (qre, .inl (cI, 6, .inl mr))] s.heap.size) [(qo, .inr (3, [.int (nI n), .ref qha, .ref qkn, .ref qtr, .int mc, .ref qhv, .ref qbe, .int (nI Q), .ref qlo, .ref qhi, .ref qpa, .ref qne, .ref qre])), (qha, .inl (cZ, 36, .inl mh)), (qkn, .inl (cZ, 36, .inl mk)), (qtr, .inl (cZ, 36, .inl mt)), (qhv, .inl (cI, 36, .inl mv)), (qbe, .inl (cZ, 36, .inl mb)), (qlo, .inl (cI, 9, .inl ml)), (qhi, .inl (cI, 9, .inl mg)), (qpa, .inl (cI, 6, .inl mp_48)), (qne, .inl (cI, 6, .inl (upd mx_48 ((nI M_48) - 1).toNatClampNeg ((mx_48 ((nI M_48) - 1).toNatClampNeg) + 1)))), (qre, .inl (cI, 6, .inl mr_3))] := hD
                refine lv_aload_n hx hb d_M_allBlocked_128 rfl (lv_at hl 3 rfl) ?_
                refine lv_aload_n hx hb d_M_allBlocked_129 rfl (lv_at hl 3 rfl) ?_
                refine va_get (D := (dC, dI)) (ci := 3) (v := .ref qpa) (C := "ArrowClassesModel") (T := TM) (N := 13) hx hb hT inM hown hK hP 0 rfl rfl 10 (by decide) (hT _ wd_fld_M_32) (fun _ h9 => h9) rfl d_M_allBlocked_130 ?_
                refine lv_iload hx hb d_M_allBlocked_133 (lv_at hl 1 rfl) ?_
                refine va_iald (D := (dC, dI)) hx hb hK hP 8 0 rfl rfl (by rw [vz_sub1 (by omega)]; exact vp_in_nI (by omega) (by omega)) d_M_allBlocked_135 ?_
                refine lv_iload hx hb d_M_allBlocked_136 (lv_at hl 0 rfl) ?_
                refine vz_ro (va_runV (As := [.int (mp_48 ((nI M_48) - 1).toNatClampNeg), .int (mx_48 ((nI M_48) - 1).toNatClampNeg)]) (rest := []) ⟨hx, hb, hml, hown, hT⟩ (c_M_joined l dC dI cI cZ qo qha qkn qtr qhv qbe qlo qhi qpa qne qre n mk mt mv mb ml mg mp_48 (upd mx_48 ((nI M_48) - 1).toNatClampNeg ((mx_48 ((nI M_48) - 1).toNatClampNeg) + 1)) mr_3 mc Q mh (mp_48 ((nI M_48) - 1).toNatClampNeg) (mx_48 ((nI M_48) - 1).toNatClampNeg) (by omega) (by assumption) (by assumption)) (vz_cwV (n := 2) hT wd_link_M_53 wd_inst_M_joined wd_sel_M_joined wd_ini_M wd_code_M_joined (by decide +kernel) ⟨Nat.le_of_ble_eq_true rfl, Nat.le_of_ble_eq_true rfl⟩) (vz_pv (q0 := 0) (ci := 3) (q := ("ArrowClassesModel", TM, 13)) hN hK hP [0, 1, 2, 3, 4, 5, 6, 7, 8, 9, 10] rfl rfl rfl) rfl rfl hl.1 rfl (lv_room (Nat.le_of_ble_eq_true rfl)) d_M_allBlocked_138 ⟨Nat.zero_le _, Nat.zero_le _⟩) ?_
                refine lv_if_eq (tgt := 175) hx hb d_M_allBlocked_141 (by decide) (fun h7 => ?_) (fun h7 => ?_)
                ·
                  refine lv_goto (tgt := 48) hx hb d_M_allBlocked_175 (by decide) ?_
                  exact ih_48 M_48 mp_48 (upd mx_48 ((nI M_48) - 1).toNatClampNeg ((mx_48 ((nI M_48) - 1).toNatClampNeg) + 1)) H locs ls (dInv_next hn hinv_48 hM1 h3) (by rw [mAll_L48, if_neg h2, if_neg h3, if_neg h6, if_pos h7] at hfin_48; exact hfin_48) hP hD hS (lv_sub hl [2, 3, 4, 5, 6] rfl)
                ·
                  refine lv_aload_n hx hb d_M_allBlocked_144 rfl (lv_at hl 3 rfl) ?_
                  refine lv_iload hx hb d_M_allBlocked_145 (lv_at hl 0 rfl) ?_
                  refine lv_iload hx hb d_M_allBlocked_147 (lv_at hl 2 rfl) ?_
                  refine vz_ro (va_runV (As := [.int (mx_48 ((nI M_48) - 1).toNatClampNeg), .int (nI M_48)]) (rest := []) ⟨hx, hb, hml, hown, hT⟩ (c_M_onPath l dC dI cI cZ qo qha qkn qtr qhv qbe qlo qhi qpa qne qre n mh mk mt mv mb ml mg (upd mx_48 ((nI M_48) - 1).toNatClampNeg ((mx_48 ((nI M_48) - 1).toNatClampNeg) + 1)) mr_3 mc Q mp_48 (mx_48 ((nI M_48) - 1).toNatClampNeg) M_48 (by omega)) (vz_cwV (n := 2) hT wd_link_M_80 wd_inst_M_onPath wd_sel_M_onPath wd_ini_M wd_code_M_onPath (by decide +kernel) ⟨Nat.le_of_ble_eq_true rfl, Nat.le_of_ble_eq_true rfl⟩) (vz_pv (q0 := 0) (ci := 3) (q := ("ArrowClassesModel", TM, 13)) hN hK hP [0, 1, 2, 3, 4, 5, 6, 7, 8, 9, 10] rfl rfl rfl) rfl rfl hl.1 rfl (lv_room (Nat.le_of_ble_eq_true rfl)) d_M_allBlocked_149 ⟨Nat.zero_le _, Nat.zero_le _⟩) ?_
                  refine lv_if_ne (tgt := 175) hx hb d_M_allBlocked_152 (by decide) (fun h8 => ?_) (fun h8 => ?_)
                  ·
                    refine lv_goto (tgt := 48) hx hb d_M_allBlocked_175 (by decide) ?_
                    exact ih_48 M_48 mp_48 (upd mx_48 ((nI M_48) - 1).toNatClampNeg ((mx_48 ((nI M_48) - 1).toNatClampNeg) + 1)) H locs ls (dInv_next hn hinv_48 hM1 h3) (by rw [mAll_L48, if_neg h2, if_neg h3, if_neg h6, if_neg h7, if_neg h8] at hfin_48; exact hfin_48) hP hD hS (lv_sub hl [2, 3, 4, 5, 6] rfl)
                  ·
                    have hMn : M_48 < n := dInv_lt hn hinv_48 hvn h8
                    refine lv_aload_n hx hb d_M_allBlocked_155 rfl (lv_at hl 3 rfl) ?_
                    refine va_get (D := (dC, dI)) (ci := 3) (v := .ref qpa) (C := "ArrowClassesModel") (T := TM) (N := 13) hx hb hT inM hown hK hP 0 rfl rfl 10 (by decide) (hT _ wd_fld_M_32) (fun _ h9 => h9) rfl d_M_allBlocked_156 ?_
                    refine lv_iload hx hb d_M_allBlocked_159 (lv_at hl 2 rfl) ?_
                    refine lv_iload hx hb d_M_allBlocked_161 (lv_at hl 0 rfl) ?_
                    refine va_iast (D := (dC, dI)) hx hb hK hP hD hS 8 0 rfl rfl (vp_in_nI (by omega) (by omega)) d_M_allBlocked_163 (fun H locs hP hD hS => ?_)
                    have hP : va_P (dC, dI) vwCl [(qo, .inr (3, [.int (nI n), .ref qha, .ref qkn, .ref qtr, .int mc, .ref qhv, .ref qbe, .int (nI Q), .ref qlo, .ref qhi, .ref qpa, .ref qne, .ref qre])), (qha, .inl (cZ, 36, .inl mh)), (qkn, .inl (cZ, 36, .inl mk)), (qtr, .inl (cZ, 36, .inl mt)), (qhv, .inl (cI, 36, .inl mv)), (qbe, .inl (cZ, 36, .inl mb)), (qlo, .inl (cI, 9, .inl ml)), (qhi, .inl (cI, 9, .inl mg)), (qpa, .inl (cI, 6, .inl (upd mp_48 (nI M_48).toNatClampNeg (mx_48 ((nI M_48) - 1).toNatClampNeg)))), (qne, .inl (cI, 6, .inl (upd mx_48 ((nI M_48) - 1).toNatClampNeg ((mx_48 ((nI M_48) - 1).toNatClampNeg) + 1)))), (qre, .inl (cI, 6, .inl mr_3))] H := hP
                    have hD : va_D (va_A [(qo, .inr (3, [.int (nI n), .ref qha, .ref qkn, .ref qtr, .int mc, .ref qhv, .ref qbe, .int (nI Q), .ref qlo, .ref qhi, .ref qpa, .ref qne, .ref qre])), (qha, .inl (cZ, 36, .inl mh)), (qkn, .inl (cZ, 36, .inl mk)), (qtr, .inl (cZ, 36, .inl mt)), (qhv, .inl (cI, 36, .inl mv)), (qbe, .inl (cZ, 36, .inl mb)), (qlo, .inl (cI, 9, .inl ml)), (qhi, .inl (cI, 9, .inl mg)), (qpa, .inl (cI, 6, .inl mp)), (qne, .inl (cI, 6, .inl mx)), (qre, .inl (cI, 6, .inl mr))] s.heap.size) [(qo, .inr (3, [.int (nI n), .ref qha, .ref qkn, .ref qtr, .int mc, .ref qhv, .ref qbe, .int (nI Q), .ref qlo, .ref qhi, .ref qpa, .ref qne, .ref qre])), (qha, .inl (cZ, 36, .inl mh)), (qkn, .inl (cZ, 36, .inl mk)), (qtr, .inl (cZ, 36, .inl mt)), (qhv, .inl (cI, 36, .inl mv)), (qbe, .inl (cZ, 36, .inl mb)), (qlo, .inl (cI, 9, .inl ml)), (qhi, .inl (cI, 9, .inl mg)), (qpa, .inl (cI, 6, .inl (upd mp_48 (nI M_48).toNatClampNeg (mx_48 ((nI M_48) - 1).toNatClampNeg)))), (qne, .inl (cI, 6, .inl (upd mx_48 ((nI M_48) - 1).toNatClampNeg ((mx_48 ((nI M_48) - 1).toNatClampNeg) + 1)))), (qre, .inl (cI, 6, .inl mr_3))] := hD
                    refine lv_aload_n hx hb d_M_allBlocked_164 rfl (lv_at hl 3 rfl) ?_
                    refine va_get (D := (dC, dI)) (ci := 3) (v := .ref qne) (C := "ArrowClassesModel") (T := TM) (N := 13) hx hb hT inM hown hK hP 0 rfl rfl 11 (by decide) (hT _ wd_fld_M_35) (fun _ h9 => h9) rfl d_M_allBlocked_165 ?_
                    refine lv_iload hx hb d_M_allBlocked_168 (lv_at hl 2 rfl) ?_
                    refine lv_iconst (v := 0) hx hb d_M_allBlocked_170 (by decide) ?_
                    refine va_iast (D := (dC, dI)) hx hb hK hP hD hS 9 0 rfl rfl (vp_in_nI (by omega) (by omega)) d_M_allBlocked_171 (fun H locs hP hD hS => ?_)
                    have hP : va_P (dC, dI) vwCl [(qo, .inr (3, [.int (nI n), .ref qha, .ref qkn, .ref qtr, .int mc, .ref qhv, .ref qbe, .int (nI Q), .ref qlo, .ref qhi, .ref qpa, .ref qne, .ref qre])), (qha, .inl (cZ, 36, .inl mh)), (qkn, .inl (cZ, 36, .inl mk)), (qtr, .inl (cZ, 36, .inl mt)), (qhv, .inl (cI, 36, .inl mv)), (qbe, .inl (cZ, 36, .inl mb)), (qlo, .inl (cI, 9, .inl ml)), (qhi, .inl (cI, 9, .inl mg)), (qpa, .inl (cI, 6, .inl (upd mp_48 (nI M_48).toNatClampNeg (mx_48 ((nI M_48) - 1).toNatClampNeg)))), (qne, .inl (cI, 6, .inl (upd (upd mx_48 ((nI M_48) - 1).toNatClampNeg ((mx_48 ((nI M_48) - 1).toNatClampNeg) + 1)) (nI M_48).toNatClampNeg 0))), (qre, .inl (cI, 6, .inl mr_3))] H := hP
                    have hD : va_D (va_A [(qo, .inr (3, [.int (nI n), .ref qha, .ref qkn, .ref qtr, .int mc, .ref qhv, .ref qbe, .int (nI Q), .ref qlo, .ref qhi, .ref qpa, .ref qne, .ref qre])), (qha, .inl (cZ, 36, .inl mh)), (qkn, .inl (cZ, 36, .inl mk)), (qtr, .inl (cZ, 36, .inl mt)), (qhv, .inl (cI, 36, .inl mv)), (qbe, .inl (cZ, 36, .inl mb)), (qlo, .inl (cI, 9, .inl ml)), (qhi, .inl (cI, 9, .inl mg)), (qpa, .inl (cI, 6, .inl mp)), (qne, .inl (cI, 6, .inl mx)), (qre, .inl (cI, 6, .inl mr))] s.heap.size) [(qo, .inr (3, [.int (nI n), .ref qha, .ref qkn, .ref qtr, .int mc, .ref qhv, .ref qbe, .int (nI Q), .ref qlo, .ref qhi, .ref qpa, .ref qne, .ref qre])), (qha, .inl (cZ, 36, .inl mh)), (qkn, .inl (cZ, 36, .inl mk)), (qtr, .inl (cZ, 36, .inl mt)), (qhv, .inl (cI, 36, .inl mv)), (qbe, .inl (cZ, 36, .inl mb)), (qlo, .inl (cI, 9, .inl ml)), (qhi, .inl (cI, 9, .inl mg)), (qpa, .inl (cI, 6, .inl (upd mp_48 (nI M_48).toNatClampNeg (mx_48 ((nI M_48) - 1).toNatClampNeg)))), (qne, .inl (cI, 6, .inl (upd (upd mx_48 ((nI M_48) - 1).toNatClampNeg ((mx_48 ((nI M_48) - 1).toNatClampNeg) + 1)) (nI M_48).toNatClampNeg 0))), (qre, .inl (cI, 6, .inl mr_3))] := hD
                    refine lv_iinc (k := 2) (v := nI (M_48 + 1)) hx hb d_M_allBlocked_172 hl rfl (vz_inc M_48) (by decide) rfl (fun ls hl => ?_)
                    have hl : lv_has ls 7 [(4, .int (nI (M_48 + 1))), (6, .int (mx_48 ((nI M_48) - 1).toNatClampNeg)), (5, .int ((nI M_48) - 1)), (0, .ref qo), (1, .int x0), (2, .int y0), (3, .int set)] := hl
                    refine lv_goto (tgt := 48) hx hb d_M_allBlocked_175 (by decide) ?_
                    exact ih_48 (M_48 + 1) (upd mp_48 (nI M_48).toNatClampNeg (mx_48 ((nI M_48) - 1).toNatClampNeg)) (upd (upd mx_48 ((nI M_48) - 1).toNatClampNeg ((mx_48 ((nI M_48) - 1).toNatClampNeg) + 1)) (nI M_48).toNatClampNeg 0) H locs ls (dInv_push hn hinv_48 hM1 h3 h8) (by rw [mAll_L48, if_neg h2, if_neg h3, if_neg h6, if_neg h7, if_pos h8] at hfin_48; exact hfin_48) hP hD hS (lv_sub hl [0, 3, 4, 5, 6] rfl)
              ·
                have h2M : 2 ≤ M_48 := dInv_2 hn hinv_48 hM1 hxy h6
                refine lv_aload_n hx hb d_M_allBlocked_88 rfl (lv_at hl 3 rfl) ?_
                refine va_get (D := (dC, dI)) (ci := 3) (v := .ref qpa) (C := "ArrowClassesModel") (T := TM) (N := 13) hx hb hT inM hown hK hP 0 rfl rfl 10 (by decide) (hT _ wd_fld_M_32) (fun _ h9 => h9) rfl d_M_allBlocked_89 ?_
                refine lv_iload hx hb d_M_allBlocked_92 (lv_at hl 1 rfl) ?_
                refine va_iald (D := (dC, dI)) hx hb hK hP 8 0 rfl rfl (by rw [vz_sub1 (by omega)]; exact vp_in_nI (by omega) (by omega)) d_M_allBlocked_94 ?_
                refine lv_iload_n hx hb d_M_allBlocked_95 rfl (lv_at hl 5 rfl) ?_
                refine lv_icmp_ne (tgt := 111) hx hb d_M_allBlocked_96 (by decide) (fun h9 => absurd h6 h9) (fun _ => ?_)
                refine lv_aload_n hx hb d_M_allBlocked_99 rfl (lv_at hl 3 rfl) ?_
                refine lv_iload hx hb d_M_allBlocked_100 (lv_at hl 2 rfl) ?_
                refine lv_iload_n hx hb d_M_allBlocked_102 rfl (lv_at hl 6 rfl) ?_
                refine vz_ro (va_runV (As := [.int (nI M_48), .int set]) (rest := []) ⟨hx, hb, hml, hown, hT⟩ (c_M_blocked l dC dI cI cZ qo qha qkn qtr qhv qbe qlo qhi qpa qne qre n mk mt mv mb ml mg mx_48 mc Q mh mp_48 mr_3 M_48 set (by omega) (by omega) (by omega) (by assumption)) (vz_cwV (n := 2) hT wd_link_M_77 wd_inst_M_blocked wd_sel_M_blocked wd_ini_M wd_code_M_blocked (by decide +kernel) ⟨Nat.le_of_ble_eq_true rfl, Nat.le_of_ble_eq_true rfl⟩) (vz_pv (q0 := 0) (ci := 3) (q := ("ArrowClassesModel", TM, 13)) hN hK hP [0, 1, 2, 3, 4, 5, 6, 7, 8, 9, 10] rfl rfl rfl) rfl rfl hl.1 rfl (lv_room (Nat.le_of_ble_eq_true rfl)) d_M_allBlocked_103 ⟨Nat.zero_le _, Nat.zero_le _⟩) ?_
                refine lv_if_ne (tgt := 111) hx hb d_M_allBlocked_106 (by decide) (fun h10 => ?_) (fun h10 => ?_)
                ·
                  refine lv_iinc (k := 2) (v := nI (M_48 - 1)) hx hb d_M_allBlocked_111 hl rfl (vz_dec (by omega)) (by decide) rfl (fun ls hl => ?_)
                  have hl : lv_has ls 7 [(4, .int (nI (M_48 - 1))), (6, .int (mx_48 ((nI M_48) - 1).toNatClampNeg)), (5, .int ((nI M_48) - 1)), (0, .ref qo), (1, .int x0), (2, .int y0), (3, .int set)] := hl
                  refine lv_goto (tgt := 175) hx hb d_M_allBlocked_114 (by decide) ?_
                  refine lv_goto (tgt := 48) hx hb d_M_allBlocked_175 (by decide) ?_
                  exact ih_48 (M_48 - 1) mp_48 mx_48 H locs ls (dInv_pop hinv_48) (by rw [mAll_L48, if_neg h2, if_neg h3, if_pos h6, if_neg h10] at hfin_48; exact hfin_48) hP hD hS (lv_sub hl [0, 3, 4, 5, 6] rfl)
                ·
                  refine lv_iconst (v := 0) hx hb d_M_allBlocked_109 (by decide) ?_
                  have hF : rr = (0, mp_48, mx_48, mr_3) := Option.some.inj (hfin_48.symm.trans (by rw [mAll_L48, if_neg h2, if_neg h3, if_pos h6, if_pos h10]))
                  exact W.zret hx hb hr (by decide) (fun t ht hW => ⟨⟨(0 : Int32), (), rfl, by rw [hF], by rw [hF, ht]; exact hP, va_K.moved hW.alike hK, by rw [hF]; exact hD⟩, hS.F ht⟩) hS.2.2 d_M_allBlocked_110
      exact lp_48 K 1 (upd mp (0 : Int32).toNatClampNeg x0) (upd mx (0 : Int32).toNatClampNeg 0) _ _ _ (dInv_0 hn hvx) (by rw [mAll_L3] at hfin_3; exact hfin_3) hP hD hS (lv_sub hl [0, 1, 2, 3, 4] rfl)
    | succ k_3 ih_3 =>
      intro i_3 mr_3 H locs ls hik_3 hfin_3 hP hD hS hl
      refine lv_iload hx hb d_M_allBlocked_3 (lv_at hl 0 rfl) ?_
      refine lv_aload_n hx hb d_M_allBlocked_5 rfl (lv_at hl 1 rfl) ?_
      refine va_get (D := (dC, dI)) (ci := 3) (v := .int (nI n)) (C := "ArrowClassesModel") (T := TM) (N := 13) hx hb hT inM hown hK hP 0 rfl rfl 0 (by decide) (hT _ wd_fld_M_41) (fun _ h9 => h9) rfl d_M_allBlocked_6 ?_
      refine lv_icmp_ge (tgt := 31) hx hb d_M_allBlocked_9 (by decide) (fun h11 => by rw [nI_leI (by omega) (by omega)] at h11; omega) (fun _ => ?_)
      refine lv_aload_n hx hb d_M_allBlocked_12 rfl (lv_at hl 1 rfl) ?_
      refine va_get (D := (dC, dI)) (ci := 3) (v := .ref qre) (C := "ArrowClassesModel") (T := TM) (N := 13) hx hb hT inM hown hK hP 0 rfl rfl 12 (by decide) (hT _ wd_fld_M_38) (fun _ h9 => h9) rfl d_M_allBlocked_13 ?_
      refine lv_iload hx hb d_M_allBlocked_16 (lv_at hl 0 rfl) ?_
      refine lv_aload_n hx hb d_M_allBlocked_18 rfl (lv_at hl 1 rfl) ?_
      refine lv_iload hx hb d_M_allBlocked_19 (lv_at hl 0 rfl) ?_
      refine vz_ro (va_runV (As := [.int (nI i_3)]) (rest := [.int (nI i_3), .ref qre]) ⟨hx, hb, hml, hown, hT⟩ (c_M_reach l dC dI cI cZ qo qha qkn qtr qhv qbe qlo qhi qpa qne qre mk mt mv mb ml mg mp mx mr_3 mc Q n mh (nI i_3) (by omega)) (vz_cwV (n := 1) hT wd_link_M_60 wd_inst_M_reach wd_sel_M_reach wd_ini_M wd_code_M_reach (by decide +kernel) ⟨Nat.le_of_ble_eq_true rfl, Nat.le_of_ble_eq_true rfl⟩) (vz_pv (q0 := 0) (ci := 3) (q := ("ArrowClassesModel", TM, 13)) hN hK hP [0, 1, 2, 3, 4, 5, 6, 7, 8, 9, 10] rfl rfl rfl) rfl rfl hl.1 rfl (lv_room (Nat.le_of_ble_eq_true rfl)) d_M_allBlocked_21 ⟨Nat.zero_le _, Nat.zero_le _⟩) ?_
      refine va_iast (D := (dC, dI)) hx hb hK hP hD hS 10 0 rfl rfl (vp_in_nI (by omega) (by omega)) d_M_allBlocked_24 (fun H locs hP hD hS => ?_)
      have hP : va_P (dC, dI) vwCl [(qo, .inr (3, [.int (nI n), .ref qha, .ref qkn, .ref qtr, .int mc, .ref qhv, .ref qbe, .int (nI Q), .ref qlo, .ref qhi, .ref qpa, .ref qne, .ref qre])), (qha, .inl (cZ, 36, .inl mh)), (qkn, .inl (cZ, 36, .inl mk)), (qtr, .inl (cZ, 36, .inl mt)), (qhv, .inl (cI, 36, .inl mv)), (qbe, .inl (cZ, 36, .inl mb)), (qlo, .inl (cI, 9, .inl ml)), (qhi, .inl (cI, 9, .inl mg)), (qpa, .inl (cI, 6, .inl mp)), (qne, .inl (cI, 6, .inl mx)), (qre, .inl (cI, 6, .inl (upd mr_3 (nI i_3).toNatClampNeg (mReach n mh (nI i_3)))))] H := hP
      have hD : va_D (va_A [(qo, .inr (3, [.int (nI n), .ref qha, .ref qkn, .ref qtr, .int mc, .ref qhv, .ref qbe, .int (nI Q), .ref qlo, .ref qhi, .ref qpa, .ref qne, .ref qre])), (qha, .inl (cZ, 36, .inl mh)), (qkn, .inl (cZ, 36, .inl mk)), (qtr, .inl (cZ, 36, .inl mt)), (qhv, .inl (cI, 36, .inl mv)), (qbe, .inl (cZ, 36, .inl mb)), (qlo, .inl (cI, 9, .inl ml)), (qhi, .inl (cI, 9, .inl mg)), (qpa, .inl (cI, 6, .inl mp)), (qne, .inl (cI, 6, .inl mx)), (qre, .inl (cI, 6, .inl mr))] s.heap.size) [(qo, .inr (3, [.int (nI n), .ref qha, .ref qkn, .ref qtr, .int mc, .ref qhv, .ref qbe, .int (nI Q), .ref qlo, .ref qhi, .ref qpa, .ref qne, .ref qre])), (qha, .inl (cZ, 36, .inl mh)), (qkn, .inl (cZ, 36, .inl mk)), (qtr, .inl (cZ, 36, .inl mt)), (qhv, .inl (cI, 36, .inl mv)), (qbe, .inl (cZ, 36, .inl mb)), (qlo, .inl (cI, 9, .inl ml)), (qhi, .inl (cI, 9, .inl mg)), (qpa, .inl (cI, 6, .inl mp)), (qne, .inl (cI, 6, .inl mx)), (qre, .inl (cI, 6, .inl (upd mr_3 (nI i_3).toNatClampNeg (mReach n mh (nI i_3)))))] := hD
      refine lv_iinc (k := 0) (v := nI (i_3 + 1)) hx hb d_M_allBlocked_25 hl rfl (vz_inc i_3) (by decide) rfl (fun ls hl => ?_)
      have hl : lv_has ls 7 [(4, .int (nI (i_3 + 1))), (0, .ref qo), (1, .int x0), (2, .int y0), (3, .int set)] := hl
      refine lv_goto (tgt := 3) hx hb d_M_allBlocked_28 (by decide) ?_
      exact ih_3 (i_3 + 1) (upd mr_3 (nI i_3).toNatClampNeg (mReach n mh (nI i_3))) H locs ls (by omega) (by rw [mAll_L3] at hfin_3; exact hfin_3) hP hD hS (lv_sub hl [0, 1, 2, 3, 4] rfl)
  exact lp_3 n 0 mr _ _ _ (by omega) (by rw [mAll] at hrun; exact hrun) hP hD hS (lv_sub hl [0, 1, 2, 3, 4] rfl)
