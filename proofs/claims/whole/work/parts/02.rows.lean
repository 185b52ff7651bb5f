/-! own rows: contracts that only read (vz_B), contracts that write their own cells (vz_Bw), their calls -/
/-- the one link to a nest mate: Graph calls ArrowClasses.holds -/
abbrev nW : Cond := .methodLinkNest "ArrowClasses$Graph" 20 ⟨"ArrowClasses", "holds", "(II)Z"⟩ "ArrowClasses"
abbrev vz_B (D : va_G) (cl : List vw_C) (ws : va_W) (tys : List (ClassId × FieldType)) : State → Prop := fun U => va_P D cl ws U.heap ∧ va_K D cl tys U ∧ va_Nw nW U
abbrev vz_Bw (D : va_G) (cl : List vw_C) (ws : va_W) (tys : List (ClassId × FieldType)) (sz : Nat) : State → Prop := fun U => U.heap.size = sz ∧ va_P D cl ws U.heap ∧ va_K D cl tys U ∧ va_D (fun _ => True) ws ∧ va_Nw nW U
section VZ
variable {p : Program} {l : Launch} {e : Env} {R : Room} {s : State} {m : MethodId} {args : Array Value} {below : List Frame} {meth : Method} {c : Code} {H : Heap} {locs : List Loc} {cells slots : Nat} {Q : State → Prop}
variable {pc : Nat} {ls : Array Slot} {rest st0 : List Value} {a : Array Value} {A0 : Nat → Prop} {H0 : Heap} {D : va_G} {cl : List vw_C} {tys : List (ClassId × FieldType)} {ws wc wr w1 : va_W} {As : List Value} {b : Nat}
theorem vz_top {x y : Int32} (h : x = y) (k : W p l e R s m args below meth c H locs cells slots Q (F0 m pc ls (.int y :: rest))) : W p l e R s m args below meth c H locs cells slots Q (F0 m pc ls (.int x :: rest)) := by
  subst h; exact k
theorem vz_top2 {x y : Int32} {v : Value} (h : x = y) (k : W p l e R s m args below meth c H locs cells slots Q (F0 m pc ls (v :: .int y :: rest))) : W p l e R s m args below meth c H locs cells slots Q (F0 m pc ls (v :: .int x :: rest)) := by
  subst h; exact k
theorem vz_inc (i : Nat) : nI i + Int32.ofInt 1 = nI (i + 1) := by
  rw [← nI_1]; rfl
theorem vz_nz {v : Int32} (h : v = 0 ∨ v = 1) : narrow .boolean (.int v) = .int v := by
  rcases h with rfl | rfl <;> rfl
/-- a call that only reads and answers r -/
theorem vz_ro {r : Int32} (hr : va_Run p l e R s m args below meth c H locs cells slots 0 0 (F0 m pc ls st0) rest (QcRead r a) (fun _ => False))
    (kk : W p l e R s m args below meth c H locs cells slots Q (F0 m (pc + 3) ls (.int r :: rest))) : W p l e R s m args below meth c H locs cells slots Q (F0 m pc ls st0) := by
  intro T hT X
  obtain ⟨v, st₀, t, T', L, h0, X', hL, e1, -, ⟨hv, hh⟩, st⟩ := hr T hT X
  cases hv
  obtain ⟨t2, a1, b1⟩ := kk T' (by rw [e1, hh, h0]) (Stand.forget X' (fun q h => (hL q h).elim))
  exact ⟨t2, st t2 a1, b1⟩
/-- a call that writes its own cells (wc, then w1); the rest (wr) stays -/
theorem vz_rv (hr : va_Run p l e R s m args below meth c H locs cells slots 0 0 (F0 m pc ls st0) rest (va_Qv (fun _ : Unit => True) (fun (_ : Unit) t => va_P D cl w1 t.heap ∧ va_K D cl tys t ∧ va_D (va_A wc H.size) w1) (va_A wc H.size) a) (va_A wc H.size))
    (hP : va_P D cl ws H) (hD : va_D A0 ws) (hS : va_S A0 H0 H locs) (hA : ∀ q, H0.size ≤ q → A0 q) (isC isR : List Nat) (hC : isC.map (fun i => ws[i]?) = wc.map some) (hR : isR.map (fun i => ws[i]?) = wr.map some) (hn : va_nd isR = true) (hdis : ∀ i ∈ isR, i ∉ isC)
    (kk : ∀ (H1 : Heap) (locs1 : List Loc), va_P D cl (wr ++ w1) H1 → va_D A0 (wr ++ w1) → va_S A0 H0 H1 locs1 → W p l e R s m args below meth c H1 locs1 cells slots Q (F0 m (pc + 3) ls rest)) : W p l e R s m args below meth c H locs cells slots Q (F0 m pc ls st0) := by
  have hF := va_free (wc := wc) hD hS hA isC hC
  refine va_callv hr hS (fun q _ h => hF q h) hF (fun u t H1 locs1 ht hvm hw hB hz1 hk1 hS1 => ?_)
  obtain ⟨hP1, hK1, hD1⟩ := hB
  rw [ht] at hP1
  obtain ⟨hP2, hD2⟩ := va_join (wr := wr) (w1 := w1) hP hD isC isR hC hR hn hdis hk1 hF hP1 hD1
  exact kk H1 locs1 hP2 hD2 hS1
theorem vz_ri {r0 : Int32} (hr : va_Run p l e R s m args below meth c H locs cells slots 0 0 (F0 m pc ls st0) rest (va_Qi (fun (r : Int32) (_ : Unit) => r = r0) (fun (_ : Unit) t => va_P D cl w1 t.heap ∧ va_K D cl tys t ∧ va_D (va_A wc H.size) w1) (va_A wc H.size) a) (va_A wc H.size))
    (hP : va_P D cl ws H) (hD : va_D A0 ws) (hS : va_S A0 H0 H locs) (hA : ∀ q, H0.size ≤ q → A0 q) (isC isR : List Nat) (hC : isC.map (fun i => ws[i]?) = wc.map some) (hR : isR.map (fun i => ws[i]?) = wr.map some) (hn : va_nd isR = true) (hdis : ∀ i ∈ isR, i ∉ isC)
    (kk : ∀ (H1 : Heap) (locs1 : List Loc), va_P D cl (wr ++ w1) H1 → va_D A0 (wr ++ w1) → va_S A0 H0 H1 locs1 → W p l e R s m args below meth c H1 locs1 cells slots Q (F0 m (pc + 3) ls (.int r0 :: rest))) : W p l e R s m args below meth c H locs cells slots Q (F0 m pc ls st0) := by
  have hF := va_free (wc := wc) hD hS hA isC hC
  refine va_calli hr hS (fun q _ h => hF q h) hF (fun r u t H1 locs1 ht hvm hw hB hz1 hk1 hS1 => ?_)
  obtain ⟨hP1, hK1, hD1⟩ := hB
  rw [ht] at hP1
  obtain ⟨hP2, hD2⟩ := va_join (wr := wr) (w1 := w1) hP hD isC isR hC hR hn hdis hk1 hF hP1 hD1
  have hw : r = r0 := hw
  subst hw
  exact kk H1 locs1 hP2 hD2 hS1
/-- what a call wants of the world: a receiver, the callee's cells cut out -/
theorem vz_pv {q0 ci : Nat} {q : vw_C} {fs : List Value} (hN : va_Nw nW s) (hK : va_K D cl tys s) (hP : va_P D cl ws H) (is : List Nat) (hs : is.filterMap (fun i => ws[i]?) = wc) (hc : cl[ci]? = some q) (he : ws[q0]? = some (b, .inr (ci, fs))) : PreV s H q.1 b (va_Pc (.ref b :: As) (vz_B D cl wc tys)) As :=
  ⟨fun a U g mk h => ⟨h.1, h.2.1, va_K.moved (u := U) (U := U.calling g mk a) (Vm.Alike.refl U.vm) h.2.2.1, va_Nw.same rfl (rfl : U.vm = (U.calling g mk a).vm) h.2.2.2⟩, va_recv hK hP hc he, fun U hU hW => ⟨rfl, by rw [hU]; exact hP.sub is hs, va_K.moved hW.alike hK, va_Nw.warmM hW hN⟩⟩
theorem vz_ps (hN : va_Nw nW s) (hK : va_K D cl tys s) (hP : va_P D cl ws H) (is : List Nat) (hs : is.filterMap (fun i => ws[i]?) = wc) : PreS s H (va_Pc As (vz_B D cl wc tys)) As :=
  ⟨fun a U g mk h => ⟨h.1, h.2.1, va_K.moved (u := U) (U := U.calling g mk a) (Vm.Alike.refl U.vm) h.2.2.1, va_Nw.same rfl (rfl : U.vm = (U.calling g mk a).vm) h.2.2.2⟩, fun U hU hW => ⟨rfl, by rw [hU]; exact hP.sub is hs, va_K.moved hW.alike hK, va_Nw.warmM hW hN⟩⟩
theorem vz_pvw {q0 ci : Nat} {q : vw_C} {fs : List Value} (hN : va_Nw nW s) (hK : va_K D cl tys s) (hP : va_P D cl ws H) (hD : va_D A0 ws) (is : List Nat) (hs : is.filterMap (fun i => ws[i]?) = wc) (hn : va_nd is = true) (hs2 : is.map (fun i => ws[i]?) = wc.map some) (hc : cl[ci]? = some q) (he : ws[q0]? = some (b, .inr (ci, fs))) : PreV s H q.1 b (va_Pc (.ref b :: As) (vz_Bw D cl wc tys H.size)) As :=
  ⟨fun a U g mk h => ⟨h.1, h.2.1, h.2.2.1, va_K.moved (u := U) (U := U.calling g mk a) (Vm.Alike.refl U.vm) h.2.2.2.1, h.2.2.2.2.1, va_Nw.same rfl (rfl : U.vm = (U.calling g mk a).vm) h.2.2.2.2.2⟩, va_recv hK hP hc he, fun U hU hW => ⟨rfl, by rw [hU], by rw [hU]; exact hP.sub is hs, va_K.moved hW.alike hK, (hD.sub is hn hs2).weaken (fun _ _ _ _ => trivial), va_Nw.warmM hW hN⟩⟩
end VZ
/-- two array classes of one kind are one -/
theorem vz_sameI {D : va_G} {cl : List vw_C} {tys : List (ClassId × FieldType)} {U : State} {x y : ClassId} {i j : Nat} (h : va_K D cl tys U) (hi : tys[i]? = some (x, .int)) (hj : tys[j]? = some (y, .int)) : x = y := by
  have h1 : U.vm.findClass ("[" ++ FieldType.int.toString) = some x := (h.2 i _ hi).2
  have h2 : U.vm.findClass ("[" ++ FieldType.int.toString) = some y := (h.2 j _ hj).2
  rw [h1] at h2
  exact Option.some.inj h2
theorem vz_sameZ {D : va_G} {cl : List vw_C} {tys : List (ClassId × FieldType)} {U : State} {x y : ClassId} {i j : Nat} (h : va_K D cl tys U) (hi : tys[i]? = some (x, .boolean)) (hj : tys[j]? = some (y, .boolean)) : x = y := by
  have h1 : U.vm.findClass ("[" ++ FieldType.boolean.toString) = some x := (h.2 i _ hi).2
  have h2 : U.vm.findClass ("[" ++ FieldType.boolean.toString) = some y := (h.2 j _ hj).2
  rw [h1] at h2
  exact Option.some.inj h2
/-! words of a call out of vzB -/
section VZW
variable {R : Room} {s : State} {args : Array Value} {own C : String} {index : Nat} {y : MethodName} {bytes : ByteArray} {maxL n : Nat} {ret : Option FieldType} {rm : Room}
theorem vz_cwV (hT : ∀ w ∈ vzB, w.before args s = true) (wl : Cond.methodLink own index y ∈ vzB) (wi : Cond.instanceMethod y ∈ vzB) (we : Cond.selects C y y ∈ vzB) (wn : Cond.initialized C ∈ vzB) (wc : Cond.code y bytes maxL ret ∈ vzB)
    (hd : y.cls = C ∧ y.cls ≠ "java/lang/invoke/MethodHandle" ∧ y.cls ≠ "java/lang/invoke/VarHandle" ∧ (parseMethodDescriptor y.desc).map (fun d => d.parameters.length) = some n) (hR : rm.frames + 1 ≤ R.frames ∧ 8 + (maxL + 11) + rm.locals ≤ R.locals) :
    CallW R s args own C index y bytes maxL ret (Cond.code y bytes maxL ret :: vzB) rm rm.cells rm.slots n :=
  cwV n hT (goodIn_c wl rfl (goodIn_c wi rfl (goodIn_c we rfl (goodIn_c wn rfl (goodIn_c wc rfl gd_B))))) rfl rfl rfl hd hR
theorem vz_cwS (hT : ∀ w ∈ vzB, w.before args s = true) (wl : Cond.methodLink own index y ∈ vzB) (wi : Cond.static y ∈ vzB) (wn : Cond.initialized y.cls ∈ vzB) (wc : Cond.code y bytes maxL ret ∈ vzB)
    (hd : y.cls ≠ "java/lang/invoke/MethodHandle" ∧ y.cls ≠ "java/lang/invoke/VarHandle" ∧ (parseMethodDescriptor y.desc).map (fun d => d.parameters.length) = some n) (hR : rm.frames + 1 ≤ R.frames ∧ 8 + (maxL + 11) + rm.locals ≤ R.locals) :
    CallB R s args own index y bytes maxL ret (Cond.code y bytes maxL ret :: vzB) rm rm.cells rm.slots n ∧ (Cond.static y).before args s = true :=
  va_cwS n hT (goodIn_c wl rfl (goodIn_c wi rfl (goodIn_c wn rfl (goodIn_c wc rfl gd_B)))) rfl rfl rfl hd hR
theorem vz_cwI (hT : ∀ w ∈ vzB, w.before args s = true) (wl : Cond.methodLink own index y ∈ vzB) (wi : Cond.instanceMethod y ∈ vzB) (wn : Cond.initialized y.cls ∈ vzB) (wc : Cond.code y bytes maxL none ∈ vzB) (hy1 : y.name = "<init>")
    (hd : y.cls ≠ "java/lang/invoke/MethodHandle" ∧ y.cls ≠ "java/lang/invoke/VarHandle" ∧ (parseMethodDescriptor y.desc).map (fun d => d.parameters.length) = some n) (hR : rm.frames + 1 ≤ R.frames ∧ 8 + (maxL + 11) + rm.locals ≤ R.locals) :
    CallB R s args own index y bytes maxL none (Cond.code y bytes maxL none :: vzB) rm rm.cells rm.slots n ∧ y.name = "<init>" ∧ (Cond.instanceMethod y).before args s = true :=
  cwI n hT (goodIn_c wc rfl gd_B) rfl rfl rfl (hT _ wn) (hT _ wl) (hT _ wi) hy1 hd hR
theorem vz_cwN {host : String} (hT : ∀ w ∈ vzB, w.before args s = true) (hl : va_Nw (.methodLinkNest own index y host) s) (wi : Cond.static y ∈ vzB) (wn : Cond.initialized y.cls ∈ vzB) (wc : Cond.code y bytes maxL ret ∈ vzB)
    (hd : y.cls ≠ "java/lang/invoke/MethodHandle" ∧ y.cls ≠ "java/lang/invoke/VarHandle" ∧ (parseMethodDescriptor y.desc).map (fun d => d.parameters.length) = some n) (hR : rm.frames + 1 ≤ R.frames ∧ 8 + (maxL + 11) + rm.locals ≤ R.locals) :
    va_CN R s args own index y host bytes maxL ret (Cond.code y bytes maxL ret :: vzB) rm rm.cells rm.slots n ∧ (Cond.static y).before args s = true ∧ True :=
  ⟨va_cnB n hT (goodIn_c wc rfl gd_B) rfl rfl rfl hl (hT _ wn) hd hR, hT _ wi, trivial⟩
end VZW
