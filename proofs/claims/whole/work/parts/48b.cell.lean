/-! cell(script, 0) -/
def scl (L : Nat) (xs : Nat → Int32) : Int32 := if L = 0 then 0 else xs 0
abbrev rm_L_cell : Room := { frames := 0, cells := 0, slots := 0, locals := 0 }
set_option maxRecDepth 100000 in
set_option maxHeartbeats 4000000 in
theorem c_L_cell (l : Launch) (b L : Nat) (xs : Nat → Int32) (hL : L ≤ 2049) : Met l y_L_cell w_L_cell rm_L_cell (va_Pc [.ref b, .int 0] (fun U => va_X b L xs U U.heap ∧ b < U.heap.size)) (QcRead (scl L xs)) 0 0 (fun _ => False) := by
  refine Met.ofW (cc := b_L_cell) (maxL := 2) (ret := (some .int)) (by decide) rfl ?_
  intro p e s m args below meth c s₁ B hml hv
  obtain ⟨rfl, hX, hbl⟩ := hv
  have hx := B.exec
  have hb := B.bytes
  have hr := B.returns
  have hlocks := B.notSynchronized
  have hS : va_S (fun _ => False) s.heap s.heap [] := va_S.rf
  have hbA : ¬ (fun _ : Nat => False) b := fun h => h
  have hl := lv_entry ([.ref b, .int 0]) (n := 2) (Nat.le_of_ble_eq_true rfl)
  rw [lg_entry_eq]
  generalize (lg_sl ([.ref b, .int 0]) ++ List.replicate (2 - (lg_sl ([.ref b, .int 0])).length) Slot.unset).toArray = ls at hl ⊢
  have hl : lv_has ls 2 [(0, .ref b), (1, .int 0)] := hl
  refine lv_iload_n hx hb d_L_cell_0 rfl (lv_at hl 1 rfl) ?_
  refine lv_aload_n hx hb d_L_cell_1 rfl (lv_at hl 0 rfl) ?_
  refine va_slen hx hb hX hbl hbA hS d_L_cell_2 ?_
  refine lv_icmp_ge (tgt := 12) hx hb d_L_cell_3 (by decide) (fun h1 => ?_) (fun h1 => ?_)
  · have h0 : L = 0 := by
      have h2 : nI L ≤ nI 0 := h1
      rw [nI_leI (by omega) (by omega)] at h2
      omega
    refine lv_iconst (v := 0) hx hb d_L_cell_12 (by decide) ?_
    exact W.iret hx hb hr (fun t ht hW => ⟨by rw [scl, if_pos h0], ht⟩) (fun q h => absurd h List.not_mem_nil) d_L_cell_13
  · have h0 : ¬ L = 0 := by
      have h2 : ¬ nI L ≤ nI 0 := h1
      rw [nI_leI (by omega) (by omega)] at h2
      omega
    refine lv_aload_n hx hb d_L_cell_6 rfl (lv_at hl 0 rfl) ?_
    refine lv_iload_n hx hb d_L_cell_7 rfl (lv_at hl 1 rfl) ?_
    refine va_sld hx hb hX hbl hbA hS (show vp_in (nI 0) L from vp_in_nI (by omega) (by omega)) d_L_cell_8 ?_
    refine lv_goto (tgt := 13) hx hb d_L_cell_9 (by decide) ?_
    exact W.iret hx hb hr (fun t ht hW => ⟨by rw [scl, if_neg h0]; rfl, ht⟩) (fun q h => absurd h List.not_mem_nil) d_L_cell_13
