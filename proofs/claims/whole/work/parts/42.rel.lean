/-! THE RELATION between the class's state and the reference's; every call keeps it and answers alike -/
def RelA (n : Nat) (fp fc fl fh : Nat → Int32) (P : Nat) (dc cbb kb kc ga ct fi sf af sc : Int32) (mh mk mt mb : Nat → Int32) : Prop :=
  2 ≤ n ∧ n ≤ 6 ∧ gRel n fp fc mh ∧ hasRank n mh ∧ jcO mh n n 0 ≤ 9 ∧ pRel n fp fc mh P dc cbb fl fh ∧ kRel n mh mk kb kc ∧ (∃ w, w < 2 ^ P ∧ memB n mh mk w = true) ∧ (ga = 0 ∨ (ga = 1 ∧ GS (memB n mh mk) (2 ^ P) ct fi sf af)) ∧ (sc = -1 ∨ sc = (xSeps n fp fc (-1)).1) ∧ is01 mb ∧ ∀ j, 36 ≤ j → mt j = 0
section RA
variable {n : Nat} {fp fc fl fh : Nat → Int32} {P : Nat} {dc cbb kb kc ga ct fi sf af sc : Int32} {mh mk mt mb : Nat → Int32}
theorem RelA.vin (h : RelA n fp fc fl fh P dc cbb kb kc ga ct fi sf af sc mh mk mt mb) : P ≤ 9 ∧ (∀ j, j < P → vp_in (fl j) n) ∧ ∀ j, j < P → vp_in (fh j) n := by
  obtain ⟨h2, h6, -, -, -, hp, -⟩ := h
  refine ⟨hp.2.1, fun j hj => ?_, fun j hj => ?_⟩
  · have hj2 : j < (plO mh n n 0).length := by rw [← hp.1]; exact hj
    rw [(hp.2.2.2.2 j hj).1]
    have := pl_mem hj2
    exact vp_in_nI (by omega) (by omega)
  · have hj2 : j < (plO mh n n 0).length := by rw [← hp.1]; exact hj
    rw [(hp.2.2.2.2 j hj).2]
    have := pl_mem hj2
    exact vp_in_nI (by omega) (by omega)
theorem forgetAll_0 : ∀ (k i : Nat) (f : Nat → Int32), i + k = 36 → (∀ x, x < i → f x = 0) → ∀ x, x < 36 → mForgetAll_L2 mk k i f x = 0
  | 0, i, f, h, hf, x, hx => hf x (by omega)
  | k + 1, i, f, h, hf, x, hx => by
    rw [mForgetAll_L2, nI_clamp (by omega), nar0]
    refine forgetAll_0 k (i + 1) _ (by omega) (fun y hy => ?_) x hx
    by_cases c : y = i
    · rw [c, pk_us]
    · rw [pk_un c]; exact hf y (by omega)
theorem forgetAll_01 : ∀ (k i : Nat) (f : Nat → Int32), is01 f → is01 (mForgetAll_L2 mk k i f)
  | 0, _, _, h => h
  | k + 1, i, f, h => forgetAll_01 k (i + 1) _ (is01_upd h (by rw [nar0]; exact Or.inl rfl))
/-- nothing is known -/
theorem kRel_none {mh2 : Nat → Int32} (hn : n ≤ 6) (hk : is01 mk) : kRel n mh2 (mForgetAll mk) 0 0 := by
  have z : ∀ x, x < 36 → mForgetAll mk x = 0 := fun x hx => forgetAll_0 36 0 mk (by omega) (fun y hy => by omega) x hx
  refine ⟨forgetAll_01 36 0 mk hk, fun a b ha hb q => absurd (z _ (by omega)) q, fun j u v hj e => ?_, fun t _ => ⟨b_0 t, b_0 t⟩⟩
  have hm := pl_mem hj
  rw [e] at hm
  rw [b_0]
  have z1 := z (6 * u + v)
  have z2 := z (6 * v + u)
  have hm1 : u < v := hm.1
  have hm2 : v < n := hm.2.1
  rw [z1 (by omega), z2 (by omega)]
  exact ⟨⟨fun q => (by cases q), fun q => q.elim (fun y => absurd rfl y) (fun y => absurd rfl y)⟩, ⟨fun q => (by cases q), fun q => absurd rfl q⟩⟩
/-- the state behind a change of the graph -/
theorem RelA_new (hn2 : 2 ≤ n) (hn : n ≤ 6) {fp' fc' mh' : Nat → Int32} (hg : gRel n fp' fc' mh') (hr : hasRank n mh') (hJ : jcO mh' n n 0 ≤ 9) (hk : is01 mk) (hb : is01 mb) (ht : ∀ j, 36 ≤ j → mt j = 0) (ct fi sf af : Int32) :
    RelA n fp' fc' (xNote n fp' fc' fl fh).2.2.2.1 (xNote n fp' fc' fl fh).2.2.2.2 (xNote n fp' fc' fl fh).1 (xNote n fp' fc' fl fh).2.1 (xNote n fp' fc' fl fh).2.2.1 0 0 0 ct fi sf af (-1) mh' (mForgetAll mk) mt mb := by
  have hp : pRel n fp' fc' mh' (xNote n fp' fc' fl fh).1 (xNote n fp' fc' fl fh).2.1 (xNote n fp' fc' fl fh).2.2.1 (xNote n fp' fc' fl fh).2.2.2.1 (xNote n fp' fc' fl fh).2.2.2.2 := restart_pRel hn hg hJ fl fh
  have h9 : (plO mh' n n 0).length ≤ 9 := by rw [plO_len]; exact hJ
  refine ⟨hn2, hn, hg, hr, hJ, hp, kRel_none hn hk, ?_, Or.inl rfl, Or.inl rfl, hb, ht⟩
  have := drawn_mem (mk := mForgetAll mk) hn hg hr h9 (fun x hx => forgetAll_0 36 0 mk (by omega) (fun y hy => by omega) x hx)
  exact ⟨_, by rw [hp.1]; exact this.1, decide_eq_true this.2⟩
end RA
