/-! rows for constructors; how many nodes -/
section VZC
variable {p : Program} {l : Launch} {e : Env} {R : Room} {s : State} {m : MethodId} {args : Array Value} {below : List Frame} {meth : Method} {c : Code} {H : Heap} {locs : List Loc} {cells slots mc ms : Nat} {Q : State → Prop}
variable {pc : Nat} {ls : Array Slot} {rest st0 : List Value} {a : Array Value} {A0 : Nat → Prop} {H0 : Heap} {D : va_G} {cl : List vw_C} {tys : List (ClassId × FieldType)} {ws wc wr w1 : va_W} {As : List Value} {b : Nat}
theorem vz_ci {S : Type} {Bw : S → va_W} (hr : va_Run p l e R s m args below meth c H locs cells slots mc ms (F0 m pc ls st0) rest (va_Qv (fun _ : S => True) (fun (u : S) t => va_P D cl (Bw u) t.heap ∧ va_K D cl tys t ∧ va_D (va_A wc H.size) (Bw u)) (va_A wc H.size) a) (va_A wc H.size))
    (hP : va_P D cl ws H) (hD : va_D A0 ws) (hS : va_S A0 H0 H locs) (hA : ∀ q, H0.size ≤ q → A0 q) (isC isR : List Nat) (hC : isC.map (fun i => ws[i]?) = wc.map some) (hR : isR.map (fun i => ws[i]?) = wr.map some) (hn : va_nd isR = true) (hdis : ∀ i ∈ isR, i ∉ isC)
    (kk : ∀ (u : S) (H1 : Heap) (locs1 : List Loc), va_P D cl (wr ++ Bw u) H1 → va_D A0 (wr ++ Bw u) → va_S A0 H0 H1 locs1 → W p l e R s m args below meth c H1 locs1 (cells + mc) (slots + ms) Q (F0 m (pc + 3) ls rest)) : W p l e R s m args below meth c H locs cells slots Q (F0 m pc ls st0) := by
  have hF := va_free (wc := wc) hD hS hA isC hC
  refine va_callv hr hS (fun q _ h => hF q h) hF (fun u t H1 locs1 ht hvm hw hB hz1 hk1 hS1 => ?_)
  obtain ⟨hP1, hK1, hD1⟩ := hB
  rw [ht] at hP1
  obtain ⟨hP2, hD2⟩ := va_join (wr := wr) (w1 := Bw u) hP hD isC isR hC hR hn hdis hk1 hF hP1 hD1
  exact kk u H1 locs1 hP2 hD2 hS1
theorem vz_psw (hN : va_Nw nW s) (hK : va_K D cl tys s) (hP : va_P D cl ws H) (hD : va_D A0 ws) (is : List Nat) (hs : is.filterMap (fun i => ws[i]?) = wc) (hn : va_nd is = true) (hs2 : is.map (fun i => ws[i]?) = wc.map some) : PreS s H (va_Pc As (vz_Bw D cl wc tys H.size)) As :=
  ⟨fun a U g mk h => ⟨h.1, h.2.1, h.2.2.1, va_K.moved (u := U) (U := U.calling g mk a) (Vm.Alike.refl U.vm) h.2.2.2.1, h.2.2.2.2.1, va_Nw.same rfl (rfl : U.vm = (U.calling g mk a).vm) h.2.2.2.2.2⟩, fun U hU hW => ⟨rfl, by rw [hU], by rw [hU]; exact hP.sub is hs, va_K.moved hW.alike hK, (hD.sub is hn hs2).weaken (fun _ _ _ _ => trivial), va_Nw.warmM hW hN⟩⟩
end VZC
/-- the number of nodes that n asks for -/
def nOf (n : Int32) : Nat := if n < 2 then 6 else if 6 < n then 6 else n.toNatClampNeg
theorem nOf_a {n : Int32} (h : n < 2) : (6 : Int32) = nI (nOf n) := by unfold nOf; rw [if_pos h]; rfl
theorem nOf_b {n : Int32} (h1 : ¬ n < 2) (h2 : ¬ n ≤ 6) : (6 : Int32) = nI (nOf n) := by
  unfold nOf
  rw [if_neg h1, if_pos (by rw [Int32.lt_iff_toInt_lt]; rw [Int32.le_iff_toInt_le] at h2; omega)]; rfl
theorem nOf_c {n : Int32} (h1 : ¬ n < 2) (h2 : n ≤ 6) : n = nI (nOf n) ∧ nOf n = n.toNatClampNeg := by
  unfold nOf
  have h3 : ¬ 6 < n := by rw [Int32.lt_iff_toInt_lt]; rw [Int32.le_iff_toInt_le] at h2; omega
  rw [if_neg h1, if_neg h3]
  refine ⟨?_, rfl⟩
  obtain ⟨j, hj, rfl⟩ := nI_of (x := n) (fun h => h1 (by
    rw [Int32.lt_iff_toInt_lt] at h ⊢
    have e0 : (0 : Int32).toInt = 0 := by decide
    have e2 : (2 : Int32).toInt = 2 := by decide
    omega))
  rw [nI_clamp hj]
theorem nOf_in (n : Int32) : 2 ≤ nOf n ∧ nOf n ≤ 6 := by
  by_cases h1 : n < 2
  · unfold nOf; rw [if_pos h1]; omega
  · by_cases h2 : n ≤ 6
    · obtain ⟨e, -⟩ := nOf_c h1 h2
      have hj : nOf n < 2 ^ 31 := by
        rw [(nOf_c h1 h2).2]
        have := n.toInt_lt
        have h3 := n.toNatClampNeg_lt
        omega
      generalize nOf n = j at e hj
      subst e
      rw [Int32.lt_iff_toInt_lt, nI_toInt hj] at h1
      rw [Int32.le_iff_toInt_le, nI_toInt hj] at h2
      have e6 : (6 : Int32).toInt = 6 := by decide
      have e2 : (2 : Int32).toInt = 2 := by decide
      omega
    · unfold nOf
      rw [if_neg h1, if_pos (by rw [Int32.lt_iff_toInt_lt]; rw [Int32.le_iff_toInt_le] at h2; omega)]; omega
