/-! the calls that look at the members -/
section QU
variable {n : Nat} {fp fc fl fh : Nat → Int32} {P : Nat} {dc cbb kb kc ga ct fi sf af sc : Int32} {mh mk mt mb : Nat → Int32}
/-- both sides have gone through the codes -/
theorem both (h : RelA n fp fc fl fh P dc cbb kb kc ga ct fi sf af sc mh mk mt mb) (fq fd mv ml mg : Nat → Int32) (mc : Int32) (Q : Nat) :
    ∃ ct' fi' sf' af' fq' fd' a' v' b' t', kGather n fp fc fq fd fl fh P dc cbb kb kc ga ct fi sf af = (1, ct', fi', sf', af', fq', fd') ∧ GS (memB n mh mk) (2 ^ P) ct' fi' sf' af' ∧
      mGo n mh mk mt mv mb ml mg mc Q = (P, layA ml 0 ((plO mh n n 0).map Prod.fst), layA mg 0 ((plO mh n n 0).map Prod.snd), a', v', t', b') ∧ MS n mh (memB n mh mk) (2 ^ P) a' v' b' ∧
      RelA n fp fc fl fh P dc cbb kb kc 1 ct' fi' sf' af' sc mh mk t' b' := by
  obtain ⟨hn2, hn, hg, hr, hJ, hp, hk, hw, hga, hsc, hb, ht⟩ := h
  obtain ⟨ct', fi', sf', af', fq', fd', e1, g1⟩ := gather_eq (fq := fq) (fd := fd) hn hg hp hk hga
  obtain ⟨a', v', b', t', e2, m2, b2, t2⟩ := go_eq (mk := mk) (mv := mv) (ml := ml) (mg := mg) (mc := mc) (Q := Q) hn hJ hb ht
  rw [← hp.1] at e2 m2
  exact ⟨ct', fi', sf', af', fq', fd', a', v', b', t', e1, g1, e2, m2, hn2, hn, hg, hr, hJ, hp, hk, hw, Or.inr ⟨rfl, g1⟩, hsc, b2, t2⟩
theorem first_ex (h : RelA n fp fc fl fh P dc cbb kb kc ga ct fi sf af sc mh mk mt mb) : ∃ w0, w0 < 2 ^ P ∧ memB n mh mk w0 = true ∧ ∀ w, w < w0 → memB n mh mk w = false := by
  obtain ⟨hn2, hn, hg, hr, hJ, hp, hk, ⟨w, hw, hM⟩, hga, hsc, hb, ht⟩ := h
  obtain ⟨w0, h1, h2⟩ := pk_least (fun w => memB n mh mk w = true) ⟨w, hM⟩
  refine ⟨w0, ?_, h1, fun x hx => by simpa using h2 x hx⟩
  rcases Nat.lt_or_ge w w0 with g | g
  · exact absurd hM (h2 w g)
  · omega
theorem T_members (h : RelA n fp fc fl fh P dc cbb kb kc ga ct fi sf af sc mh mk mt mb) (fq fd mv ml mg : Nat → Int32) (mc : Int32) (Q : Nat) :
    ∃ r ct' fi' sf' af' fq' fd' l' g' a' v' b' t', xMembers n fp fc fq fd fl fh P dc cbb kb kc ga ct fi sf af = (r, 1, ct', fi', sf', af', fq', fd') ∧ mMembers n mh mk mt mv mb ml mg mc Q = (r, P, l', g', a', v', t', b') ∧ RelA n fp fc fl fh P dc cbb kb kc 1 ct' fi' sf' af' sc mh mk t' b' := by
  obtain ⟨ct', fi', sf', af', fq', fd', a', v', b', t', e1, g1, e2, m2, hR⟩ := both h fq fd mv ml mg mc Q
  refine ⟨ct', ct', fi', sf', af', fq', fd', (layA ml 0 ((plO mh n n 0).map Prod.fst)), (layA mg 0 ((plO mh n n 0).map Prod.snd)), a', v', b', t', ?_, ?_, hR⟩
  · unfold xMembers kSize
    rw [e1]
  · unfold mMembers
    rw [e2, g1.1, ← m2.1]
theorem T_loose (h : RelA n fp fc fl fh P dc cbb kb kc ga ct fi sf af sc mh mk mt mb) (fq fd mv ml mg : Nat → Int32) (mc : Int32) (Q : Nat) :
    ∃ r ct' fi' sf' af' fq' fd' l' g' a' v' b' t', xLoose n fp fc fq fd fl fh P dc cbb kb kc ga ct fi sf af = (r, 1, ct', fi', sf', af', fq', fd') ∧ mLoose n mh mk mt mv mb ml mg mc Q = (r, P, l', g', a', v', t', b') ∧ RelA n fp fc fl fh P dc cbb kb kc 1 ct' fi' sf' af' sc mh mk t' b' := by
  obtain ⟨ct', fi', sf', af', fq', fd', a', v', b', t', e1, g1, e2, m2, hR⟩ := both h fq fd mv ml mg mc Q
  have hn : n ≤ 6 := h.2.1
  have hp : pRel n fp fc mh P dc cbb fl fh := hR.2.2.2.2.2.1
  have hPe := hp.1
  have h9 := hp.2.1
  refine ⟨bitCount (sf' &&& (af' ^^^ (-1))), ct', fi', sf', af', fq', fd', layA ml 0 ((plO mh n n 0).map Prod.fst), layA mg 0 ((plO mh n n 0).map Prod.snd), a', v', b', t', ?_, ?_, hR⟩
  · unfold xLoose kLoose
    rw [e1]
  · subst hPe
    unfold mLoose
    rw [e2, ← nI_0]
    show mLoose_L8 n mh mk mt mv mb ml mg mc Q (plO mh n n 0).length 0 (nI 0) = _
    rw [mLoose_L8_eq hn h9 e2 (fun j hj => ⟨lay_get _ ml hj, lay_get2 _ mg hj⟩) m2 _ 0 0 (by omega), Nat.zero_add]
    show _ = (bitCount (sf' &&& (af' ^^^ (-1))), _)
    rw [eq_loose hn h9 g1]
theorem T_turned (h : RelA n fp fc fl fh P dc cbb kb kc ga ct fi sf af sc mh mk mt mb) (fq fd mv ml mg : Nat → Int32) (mc : Int32) (Q : Nat) :
    ∃ r ct' fi' sf' af' fq' fd' l' g' a' v' b' t', xTurned n fp fc fq fd fl fh P dc cbb kb kc ga ct fi sf af = (r, 1, ct', fi', sf', af', fq', fd') ∧ mTurned n mh mk mt mv mb ml mg mc Q = (r, P, l', g', a', v', t', b') ∧ RelA n fp fc fl fh P dc cbb kb kc 1 ct' fi' sf' af' sc mh mk t' b' := by
  obtain ⟨ct', fi', sf', af', fq', fd', a', v', b', t', e1, g1, e2, m2, hR⟩ := both h fq fd mv ml mg mc Q
  have hn : n ≤ 6 := h.2.1
  have hg : gRel n fp fc mh := h.2.2.1
  have hp : pRel n fp fc mh P dc cbb fl fh := hR.2.2.2.2.2.1
  have hPe := hp.1
  have h9 := hp.2.1
  obtain ⟨w0, hw1, hw2, hw3⟩ := first_ex h
  have ef := g1.2.1 w0 hw1 hw2 hw3
  have eb := m2.2.2 w0 hw1 hw2 hw3
  refine ⟨bitCount (fi' ^^^ dc), ct', fi', sf', af', fq', fd', layA ml 0 ((plO mh n n 0).map Prod.fst), layA mg 0 ((plO mh n n 0).map Prod.snd), a', v', b', t', ?_, ?_, hR⟩
  · unfold xTurned kTurned
    rw [e1]
  · unfold mTurned
    rw [← nI_0, mTurned_L8_eq hn e2 n 0 0 (by omega), Nat.zero_add, ef, hp.2.2.1]
    subst hPe
    rw [eq_turned hn hg h9 hw1 eb]
theorem T_first (h : RelA n fp fc fl fh P dc cbb kb kc ga ct fi sf af sc mh mk mt mb) (fq fd mv ml mg : Nat → Int32) (mc : Int32) (Q : Nat) (u v : Int32) :
    ∃ r ga' ct' fi' sf' af' fq' fd' Q' l' g' a' v' b' t', xFirst n fp fc fq fd fl fh P dc cbb kb kc ga ct fi sf af u v = (r, ga', ct', fi', sf', af', fq', fd') ∧ mFirst n mh mk mt mv mb ml mg mc Q u v = (r, Q', l', g', a', v', t', b') ∧ RelA n fp fc fl fh P dc cbb kb kc ga' ct' fi' sf' af' sc mh mk t' b' := by
  obtain ⟨ct', fi', sf', af', fq', fd', a', v', b', t', e1, g1, e2, m2, hR⟩ := both h fq fd mv ml mg mc Q
  have hn : n ≤ 6 := h.2.1
  have hp : pRel n fp fc mh P dc cbb fl fh := hR.2.2.2.2.2.1
  unfold xFirst mFirst
  rcases pair_cases hn u v with ⟨h1, h2⟩ | ⟨h1, h2, a, b, ha, hb, hab, rfl, rfl⟩
  · rw [if_pos h1, if_pos h2]
    exact ⟨0, ga, ct, fi, sf, af, fq, fd, Q, ml, mg, mc, mv, mb, mt, rfl, rfl, h⟩
  · rw [if_neg h1, if_neg h2, e2, vz_ixC (by omega) (by omega)]
    obtain ⟨w0, hw1, hw2, hw3⟩ := first_ex h
    have ef := g1.2.1 w0 hw1 hw2 hw3
    have eb := m2.2.2 w0 hw1 hw2 hw3
    have h512 := vz_p512 hp.2.1
    have e01 := hR.2.2.2.2.2.2.2.2.2.2.1 (6 * a + b)
    have h9 := hp.2.1
    have key : ∃ r, kFirst n fp fc fq fd fl fh P dc cbb kb kc ga ct fi sf af (nI a) (nI b) = (r, 1, ct', fi', sf', af', fq', fd') ∧ (r = 0 ∨ r = 1) ∧ (r = 0 ↔ tW n mh w0 (6 * a + b) = 0) := by
      unfold kFirst
      rw [e1]
      have pk : ∀ (c : Prop) [Decidable c] (hc : c ↔ tW n mh w0 (6 * a + b) = 0), ∃ r, (if c then ((0 : Int32), (1 : Int32), ct', fi', sf', af', fq', fd') else (1, 1, ct', fi', sf', af', fq', fd')) = (r, 1, ct', fi', sf', af', fq', fd') ∧ (r = 0 ∨ r = 1) ∧ (r = 0 ↔ tW n mh w0 (6 * a + b) = 0) := by
        intro c _ hc
        by_cases q : c
        · rw [if_pos q]; exact ⟨0, rfl, Or.inl rfl, ⟨fun _ => hc.mp q, fun _ => rfl⟩⟩
        · rw [if_neg q]; exact ⟨1, rfl, Or.inr rfl, ⟨fun z => absurd z (by decide), fun z => absurd (hc.mpr z) q⟩⟩
      have hPe := hp.1
      by_cases c : nI b ≤ nI a
      · rw [if_pos c]
        rw [nI_leI (by omega) (by omega)] at c
        have hlt : b < a := by omega
        refine pk _ ?_
        have hbo := bitOf_eq hn hp hlt ha
        show kBitOf fl fh P (nI a) (nI b) &&& fi' = 0 ↔ _
        by_cases d : mJoin mh (nI b) (nI a) = 0
        · rw [(hbo.2 d).2]
          exact ⟨fun _ => Classical.byContradiction (fun z => (tW_in hn w0 (by omega) (by omega) z).2.2.2 ((join_sym hn ha hb).mpr d)), fun _ => b_eq0.mpr (fun i => by rw [b_and, b_0, Bool.false_and])⟩
        · obtain ⟨j, hj, e⟩ := pl_find hlt ha d
          have hup := (tW_up hn w0 hj e).2
          rw [(hbo.1 j hj e).2, and_one (by omega), ef, nI_bt (by omega), ← Bool.not_eq_true, hPe, ← hup]
          exact Classical.not_not
      · rw [if_neg c]
        rw [nI_leI (by omega) (by omega)] at c
        have hlt : a < b := by omega
        refine pk _ ?_
        have hbo := bitOf_eq hn hp hlt hb
        show kBitOf fl fh P (nI a) (nI b) &&& (fi' ^^^ (-1)) = 0 ↔ _
        by_cases d : mJoin mh (nI a) (nI b) = 0
        · rw [(hbo.2 d).1]
          exact ⟨fun _ => Classical.byContradiction (fun z => (tW_in hn w0 (by omega) (by omega) z).2.2.2 d), fun _ => b_eq0.mpr (fun i => by rw [b_and, b_0, Bool.false_and])⟩
        · obtain ⟨j, hj, e⟩ := pl_find hlt hb d
          have hup := (tW_up hn w0 hj e).1
          rw [(hbo.1 j hj e).1, and_one (by omega), b_not _ (by omega), Bool.not_eq_false', ef, nI_bt (by omega), hPe]
          constructor
          · intro q
            exact Classical.byContradiction (fun z => by rw [hup.mp z] at q; cases q)
          · intro q
            rcases r : w0.testBit ((plO mh n n 0).length - 1 - j) with _ | _
            · exact absurd q (hup.mpr r)
            · rfl
    obtain ⟨r, k1, k2, k3⟩ := key
    rw [k1]
    have eb1 : b' (6 * a + b) = tW n mh w0 (6 * a + b) := eb _ (by omega)
    refine ⟨b' (6 * a + b), 1, ct', fi', sf', af', fq', fd', P, (layA ml 0 ((plO mh n n 0).map Prod.fst)), (layA mg 0 ((plO mh n n 0).map Prod.snd)), a', v', b', t', ?_, rfl, hR⟩
    show (if r = 0 then ((0 : Int32), (1 : Int32), ct', fi', sf', af', fq', fd') else (1, 1, ct', fi', sf', af', fq', fd')) = _
    by_cases c : r = 0
    · rw [if_pos c, eb1, k3.mp c]
    · rw [if_neg c]
      have : ¬ b' (6 * a + b) = 0 := fun z => c (k3.mpr (by rw [← eb1]; exact z))
      rw [e01.resolve_left this]
theorem T_forget (h : RelA n fp fc fl fh P dc cbb kb kc ga ct fi sf af sc mh mk mt mb) : xForget kb = (mForget mk).1 ∧ RelA n fp fc fl fh P dc cbb 0 0 0 ct fi sf af sc mh (mForget mk).2 mt mb := by
  obtain ⟨hn2, hn, hg, hr, hJ, hp, hk, hw, hga, hsc, hb, ht⟩ := h
  have h9 : (plO mh n n 0).length ≤ 9 := by rw [← hp.1]; exact hp.2.1
  have e2 : (mForget mk).2 = mForgetAll mk := by
    rw [mForget, ← nI_0, mForget_L4_eq 36 0 0 (by omega)]
  rw [e2]
  refine ⟨eq_forget hn h9 hk, hn2, hn, hg, hr, hJ, hp, kRel_none hn hk.1, ?_, Or.inl rfl, hsc, hb, ht⟩
  have := drawn_mem (mk := mForgetAll mk) hn hg hr h9 (fun x hx => forgetAll_0 36 0 mk (by omega) (fun y hy => by omega) x hx)
  exact ⟨_, by rw [hp.1]; exact this.1, decide_eq_true this.2⟩
theorem T_edge (h : RelA n fp fc fl fh P dc cbb kb kc ga ct fi sf af sc mh mk mt mb) (fq fd mv ml mg : Nat → Int32) (mc : Int32) (Q : Nat) (u v : Int32) :
    ∃ r ga' ct' fi' sf' af' fq' fd' Q' l' g' a' v' b' t', xEdge n fp fc fq fd fl fh P dc cbb kb kc ga ct fi sf af u v = (r, ga', ct', fi', sf', af', fq', fd') ∧ mEdge n mh mk mt mv mb ml mg mc Q u v = (r, Q', l', g', a', v', t', b') ∧ RelA n fp fc fl fh P dc cbb kb kc ga' ct' fi' sf' af' sc mh mk t' b' := by
  obtain ⟨ct', fi', sf', af', fq', fd', a', v', b', t', e1, g1, e2, m2, hR⟩ := both h fq fd mv ml mg mc Q
  have hn : n ≤ 6 := h.2.1
  have hg : gRel n fp fc mh := h.2.2.1
  have hp : pRel n fp fc mh P dc cbb fl fh := hR.2.2.2.2.2.1
  have hPe := hp.1
  have h512 := vz_p512 hp.2.1
  unfold xEdge mEdge
  rcases pair_cases hn u v with ⟨h1, h2⟩ | ⟨h1, h2, a, b, ha, hb, hab, rfl, rfl⟩
  · rw [if_pos h1, if_pos h2]
    exact ⟨0, ga, ct, fi, sf, af, fq, fd, Q, ml, mg, mc, mv, mb, mt, rfl, rfl, h⟩
  · rw [if_neg h1, if_neg h2]
    have hj := hg.joinP hn ha hb
    by_cases c1 : mJoin mh (nI a) (nI b) = 0
    · rw [if_pos (hj.mpr c1), if_pos c1]
      exact ⟨0, ga, ct, fi, sf, af, fq, fd, Q, ml, mg, mc, mv, mb, mt, rfl, rfl, h⟩
    · rw [if_neg (fun q => c1 (hj.mp q)), if_neg c1, e2, vz_ixC (by omega) (by omega), vz_ixC (by omega) (by omega)]
      obtain ⟨r1, s1, s2, s3⟩ := some_eq (mk := mk) (fq := fq) (fd := fd) (kb := kb) (kc := kc) (ga := ga) (ct := ct) (fi := fi) (sf := sf) (af := af) hn hp e1 g1 hb ha (Ne.symm hab)
      have e1' : kGather n fp fc fq' fd' fl fh P dc cbb kb kc 1 ct' fi' sf' af' = (1, ct', fi', sf', af', fq', fd') := by
        unfold kGather; rw [if_neg (by decide)]
      obtain ⟨r2, q1, q2, q3⟩ := some_eq (mk := mk) hn hp e1' g1 ha hb hab
      rw [s1]
      have hv1 : v' (6 * a + b) = nI (hvN n mh mk (2 ^ P) a b) := m2.2.1 _ (by omega)
      have hv2 : v' (6 * b + a) = nI (hvN n mh mk (2 ^ P) b a) := m2.2.1 _ (by omega)
      have l1 : hvN n mh mk (2 ^ P) a b ≤ 2 ^ P := cb_le _ _
      have l2 : hvN n mh mk (2 ^ P) b a ≤ 2 ^ P := cb_le _ _
      have l3 := cb_le (memB n mh mk) (2 ^ P)
      have hsum : cb (memB n mh mk) (2 ^ P) = hvN n mh mk (2 ^ P) a b + hvN n mh mk (2 ^ P) b a := by
        rcases Nat.lt_or_ge a b with g | g
        · obtain ⟨j, hj, e⟩ := pl_find g hb c1
          exact hv_sum hn hj e
        · obtain ⟨j, hj, e⟩ := pl_find (show b < a by omega) ha (fun q => c1 ((join_sym hn ha hb).mpr q))
          rw [hv_sum (mk := mk) hn hj e, Nat.add_comm]
      show ∃ r ga' ct'' fi'' sf'' af'' fq'' fd'' Q' l' g' a'' v'' b'' t'', (if r1 = 0 then ((1 : Int32), (1 : Int32), ct', fi', sf', af', fq', fd') else _) = (r, ga', ct'', fi'', sf'', af'', fq'', fd'') ∧ (if v' (6 * a + b) = a' then ((1 : Int32), P, (layA ml 0 ((plO mh n n 0).map Prod.fst)), (layA mg 0 ((plO mh n n 0).map Prod.snd)), a', v', t', b') else (if v' (6 * b + a) = a' then (2, P, (layA ml 0 ((plO mh n n 0).map Prod.fst)), (layA mg 0 ((plO mh n n 0).map Prod.snd)), a', v', t', b') else (3, P, (layA ml 0 ((plO mh n n 0).map Prod.fst)), (layA mg 0 ((plO mh n n 0).map Prod.snd)), a', v', t', b'))) = (r, Q', l', g', a'', v'', t'', b'') ∧ _
      rw [hv1, hv2, m2.1]
      have w1 : nI (hvN n mh mk (2 ^ P) a b) = nI (cb (memB n mh mk) (2 ^ P)) ↔ r1 = 0 := by
        rw [nI_eq (by omega) (by omega), s3]; omega
      by_cases d1 : r1 = 0
      · rw [if_pos d1, if_pos (w1.mpr d1)]
        exact ⟨1, 1, ct', fi', sf', af', fq', fd', P, (layA ml 0 ((plO mh n n 0).map Prod.fst)), (layA mg 0 ((plO mh n n 0).map Prod.snd)), (nI (cb (memB n mh mk) (2 ^ P))), v', b', t', rfl, rfl, hR⟩
      · rw [if_neg d1, if_neg (fun z => d1 (w1.mp z))]
        rw [q1]
        have w2 : nI (hvN n mh mk (2 ^ P) b a) = nI (cb (memB n mh mk) (2 ^ P)) ↔ r2 = 0 := by
          rw [nI_eq (by omega) (by omega), q3]; omega
        by_cases d2 : r2 = 0
        · rw [if_pos (w2.mpr d2)]
          refine ⟨2, 1, ct', fi', sf', af', fq', fd', P, (layA ml 0 ((plO mh n n 0).map Prod.fst)), (layA mg 0 ((plO mh n n 0).map Prod.snd)), (nI (cb (memB n mh mk) (2 ^ P))), v', b', t', ?_, rfl, hR⟩
          show (if r2 = 0 then ((2 : Int32), (1 : Int32), ct', fi', sf', af', fq', fd') else _) = _
          rw [if_pos d2]
        · rw [if_neg (fun z => d2 (w2.mp z))]
          refine ⟨3, 1, ct', fi', sf', af', fq', fd', P, (layA ml 0 ((plO mh n n 0).map Prod.fst)), (layA mg 0 ((plO mh n n 0).map Prod.snd)), (nI (cb (memB n mh mk) (2 ^ P))), v', b', t', ?_, rfl, hR⟩
          show (if r2 = 0 then ((2 : Int32), (1 : Int32), ct', fi', sf', af', fq', fd') else (3, 1, ct', fi', sf', af', fq', fd')) = _
          rw [if_neg d2]
theorem T_know (h : RelA n fp fc fl fh P dc cbb kb kc ga ct fi sf af sc mh mk mt mb) (fq fd mv ml mg : Nat → Int32) (mc : Int32) (Q : Nat) (u v : Int32) :
    ∃ r kb' kc' ga' ct' fi' sf' af' fq' fd' mk' Q' l' g' a' v' b' t', xKnow n fp fc fq fd fl fh P dc cbb kb kc ga ct fi sf af u v = (r, kb', kc', ga', ct', fi', sf', af', fq', fd') ∧ mKnow n mh mk mt mv mb ml mg mc Q u v = (r, mk', Q', l', g', a', v', t', b') ∧ RelA n fp fc fl fh P dc cbb kb' kc' ga' ct' fi' sf' af' sc mh mk' t' b' := by
  obtain ⟨ct', fi', sf', af', fq', fd', a', v', b', t', e1, g1, e2, m2, hR⟩ := both h fq fd mv ml mg mc Q
  have hn : n ≤ 6 := h.2.1
  have hp : pRel n fp fc mh P dc cbb fl fh := hR.2.2.2.2.2.1
  have hk : kRel n mh mk kb kc := hR.2.2.2.2.2.2.1
  have hPe := hp.1
  have h9 := hp.2.1
  have h512 := vz_p512 hp.2.1
  unfold xKnow mKnow
  rcases pair_cases hn u v with ⟨h1, h2⟩ | ⟨h1, h2, a, b, ha, hb, hab, rfl, rfl⟩
  · rw [if_pos h1, if_pos h2]
    exact ⟨0, kb, kc, ga, ct, fi, sf, af, fq, fd, mk, Q, ml, mg, mc, mv, mb, mt, rfl, rfl, h⟩
  · rw [if_neg h1, if_neg h2, e2, vz_ixC (by omega) (by omega), nar1]
    obtain ⟨r1, s1, s2, s3⟩ := some_eq (mk := mk) (fq := fq) (fd := fd) (kb := kb) (kc := kc) (ga := ga) (ct := ct) (fi := fi) (sf := sf) (af := af) hn hp e1 g1 ha hb hab
    have hv1 : v' (6 * a + b) = nI (hvN n mh mk (2 ^ P) a b) := m2.2.1 _ (by omega)
    have l1 : hvN n mh mk (2 ^ P) a b ≤ 2 ^ P := cb_le _ _
    have w1 : v' (6 * a + b) = 0 ↔ r1 = 0 := by
      rw [hv1, ← nI_0, nI_eq (by omega) (by omega), nI_0, s3]
    rw [s1]
    show ∃ r kb' kc' ga' ct'' fi'' sf'' af'' fq'' fd'' mk' Q' l' g' a'' v'' b'' t'', (if r1 = 0 then ((0 : Int32), kb, kc, (1 : Int32), ct', fi', sf', af', fq', fd') else (1, (kFix fl fh P kb kc (nI a) (nI b)).1, (kFix fl fh P kb kc (nI a) (nI b)).2, 0, ct', fi', sf', af', fq', fd')) = (r, kb', kc', ga', ct'', fi'', sf'', af'', fq'', fd'') ∧ (if v' (6 * a + b) = 0 then ((0 : Int32), mk, P, (layA ml 0 ((plO mh n n 0).map Prod.fst)), (layA mg 0 ((plO mh n n 0).map Prod.snd)), a', v', t', b') else (1, upd mk (6 * a + b) 1, P, (layA ml 0 ((plO mh n n 0).map Prod.fst)), (layA mg 0 ((plO mh n n 0).map Prod.snd)), a', v', t', b')) = (r, mk', Q', l', g', a'', v'', t'', b'') ∧ _
    by_cases d1 : r1 = 0
    · rw [if_pos d1, if_pos (w1.mpr d1)]
      exact ⟨0, kb, kc, 1, ct', fi', sf', af', fq', fd', mk, P, (layA ml 0 ((plO mh n n 0).map Prod.fst)), (layA mg 0 ((plO mh n n 0).map Prod.snd)), a', v', b', t', rfl, rfl, hR⟩
    · rw [if_neg d1, if_neg (fun z => d1 (w1.mp z))]
      refine ⟨1, (kFix fl fh P kb kc (nI a) (nI b)).1, (kFix fl fh P kb kc (nI a) (nI b)).2, 0, ct', fi', sf', af', fq', fd', upd mk (6 * a + b) 1, P, (layA ml 0 ((plO mh n n 0).map Prod.fst)), (layA mg 0 ((plO mh n n 0).map Prod.snd)), a', v', b', t', rfl, rfl, ?_⟩
      obtain ⟨w, hw1, hw2, hw3⟩ : ∃ w, w < 2 ^ P ∧ memB n mh mk w = true ∧ ¬ tW n mh w (6 * a + b) = 0 := Classical.byContradiction (fun hno => d1 (s3.mpr (hv_0.mpr (fun w q1 q2 => Classical.byContradiction (fun z => hno ⟨w, q1, q2, z⟩)))))
      have hmem := (mMember_eq hn).mp (of_decide_eq_true hw2)
      have hj := (tW_in hn w (by omega) (by omega) hw3).2.2.2
      -- the pair
      obtain ⟨x, y, j0, hxy, hj0, e0, hor⟩ : ∃ x y j0, x < y ∧ j0 < (plO mh n n 0).length ∧ (plO mh n n 0).getD j0 (0, 0) = (x, y) ∧ ((x = a ∧ y = b) ∨ (x = b ∧ y = a)) := by
        rcases Nat.lt_or_ge a b with g | g
        · obtain ⟨j, q1, q2⟩ := pl_find g hb hj
          exact ⟨a, b, j, g, q1, q2, Or.inl ⟨rfl, rfl⟩⟩
        · obtain ⟨j, q1, q2⟩ := pl_find (show b < a by omega) ha (fun q => hj ((join_sym hn ha hb).mpr q))
          exact ⟨b, a, j, by omega, q1, q2, Or.inr ⟨rfl, rfl⟩⟩
      have hup := tW_up hn w hj0 e0
      have hm0 : mk (6 * b + a) = 0 := Classical.byContradiction (fun z => by
        have zT := hmem.2.2 (6 * b + a) (by omega) z
        rcases hor with ⟨rfl, rfl⟩ | ⟨rfl, rfl⟩
        · have q1 := hup.1.mp hw3
          rw [hup.2.mp zT] at q1; cases q1
        · have q1 := hup.2.mp hw3
          rw [hup.1.mp zT] at q1; cases q1)
      have hxn : x < n ∧ y < n := by rcases hor with ⟨rfl, rfl⟩ | ⟨rfl, rfl⟩ <;> exact ⟨by assumption, by assumption⟩
      have hbit : kBitOf fl fh P (nI a) (nI b) = (1 : Int32) <<< (nI (P - 1 - j0) &&& 31) := by
        have := (bitOf_eq hn hp hxy hxn.2).1 j0 hj0 e0
        rcases hor with ⟨rfl, rfl⟩ | ⟨rfl, rfl⟩
        · exact this.1
        · exact this.2
      have hbt : ∀ (z : Int32) (t : Nat), bt (z ||| kBitOf fl fh P (nI a) (nI b)) t = true ↔ bt z t = true ∨ t = P - 1 - j0 := fun z t => by
        rw [b_or, Bool.or_eq_true, hbit, b_one (by omega), decide_eq_true_iff]
      have hkf1 : (kFix fl fh P kb kc (nI a) (nI b)).1 = kb ||| kBitOf fl fh P (nI a) (nI b) := by
        unfold kFix; split <;> rfl
      have hkf2 : ∀ t, bt (kFix fl fh P kb kc (nI a) (nI b)).2 t = true ↔ bt kc t = true ∨ (b < a ∧ t = P - 1 - j0) := fun t => by
        unfold kFix
        by_cases c : nI a ≤ nI b
        · rw [if_pos c]
          rw [nI_leI (by omega) (by omega)] at c
          exact ⟨Or.inl, fun q => q.elim id (fun z => by omega)⟩
        · rw [if_neg c]
          rw [nI_leI (by omega) (by omega)] at c
          show bt (kc ||| kBitOf fl fh P (nI a) (nI b)) t = true ↔ _
          rw [hbt]
          exact ⟨fun q => q.imp id (fun z => ⟨by omega, z⟩), fun q => q.imp id (fun z => z.2)⟩
      have hupd : ∀ p q, p < 6 → q < 6 → (¬ upd mk (6 * a + b) 1 (6 * p + q) = 0 ↔ ¬ mk (6 * p + q) = 0 ∨ (p = a ∧ q = b)) := fun p q hp1 hq1 => by
        by_cases c : p = a ∧ q = b
        · rw [c.1, c.2, pk_us]
          exact ⟨fun _ => Or.inr ⟨rfl, rfl⟩, fun _ => by decide⟩
        · rw [pk_un (by omega)]
          exact ⟨Or.inl, fun z => z.elim id (fun z => absurd z c)⟩
      have hk' : kRel n mh (upd mk (6 * a + b) 1) (kFix fl fh P kb kc (nI a) (nI b)).1 (kFix fl fh P kb kc (nI a) (nI b)).2 := by
        refine ⟨is01_upd hk.1 (Or.inr rfl), fun p q hp1 hq1 hne => ?_, fun j p q hjj ej => ?_, fun t ht => ?_⟩
        · by_cases c : p = a ∧ q = b
          · obtain ⟨rfl, rfl⟩ := c
            exact ⟨ha, hb, hab, hj, by rw [pk_un (by omega)]; exact hm0⟩
          · have hne2 := ((hupd p q hp1 hq1).mp hne).resolve_right c
            obtain ⟨k1, k2, k3, k4, k5⟩ := hk.2.1 p q hp1 hq1 hne2
            refine ⟨k1, k2, k3, k4, Classical.byContradiction (fun z => ?_)⟩
            rcases (hupd q p hq1 hp1).mp z with z | z
            · exact z k5
            · rw [z.1, z.2] at hne2; exact hne2 hm0
        · have hpm := pl_mem hjj
          rw [ej] at hpm
          have hp1 : p < q := hpm.1
          have hp2 : q < n := hpm.2.1
          have ho := hk.2.2.1 j p q hjj ej
          have ejj : (plO mh n n 0).length - 1 - j = P - 1 - j0 ↔ ((p = a ∧ q = b) ∨ (q = a ∧ p = b)) := by
            rw [hPe]
            constructor
            · intro z
              have : j = j0 := by omega
              rw [this, e0] at ej
              have e3 : x = p := congrArg Prod.fst ej
              have e4 : y = q := congrArg Prod.snd ej
              rcases hor with ⟨r1, r2⟩ | ⟨r1, r2⟩
              · exact Or.inl ⟨by omega, by omega⟩
              · exact Or.inr ⟨by omega, by omega⟩
            · intro z
              have : j = j0 := pl_inj hjj hj0 (by
                rw [ej, e0]
                rcases hor with ⟨r1, r2⟩ | ⟨r1, r2⟩ <;> rcases z with ⟨z1, z2⟩ | ⟨z1, z2⟩
                · rw [z1, z2, r1, r2]
                · omega
                · omega
                · rw [z1, z2, r1, r2])
              rw [this]
          constructor
          · rw [hkf1, hbt, ho.1, hupd p q (by omega) (by omega), hupd q p (by omega) (by omega), ejj]
            constructor
            · rintro ((z | z) | (z | z))
              · exact Or.inl (Or.inl z)
              · exact Or.inr (Or.inl z)
              · exact Or.inl (Or.inr z)
              · exact Or.inr (Or.inr z)
            · rintro ((z | z) | (z | z))
              · exact Or.inl (Or.inl z)
              · exact Or.inr (Or.inl z)
              · exact Or.inl (Or.inr z)
              · exact Or.inr (Or.inr z)
          · rw [hkf2, ho.2, hupd q p (by omega) (by omega), ejj]
            refine or_congr_right ⟨fun z => ?_, fun z => ⟨by omega, Or.inr z⟩⟩
            rcases z.2 with z2 | z2
            · omega
            · exact z2
        · have old := hk.2.2.2 t ht
          constructor
          · rcases q : bt (kFix fl fh P kb kc (nI a) (nI b)).1 t with _ | _
            · rfl
            · rw [hkf1, hbt, old.1] at q
              rcases q with q | q
              · cases q
              · omega
          · rcases q : bt (kFix fl fh P kb kc (nI a) (nI b)).2 t with _ | _
            · rfl
            · rw [hkf2, old.2] at q
              rcases q with q | q
              · cases q
              · omega
      obtain ⟨hn2, hn, hg, hr, hJ, hp, -, -, -, hsc, hb2, ht2⟩ := hR
      refine ⟨hn2, hn, hg, hr, hJ, hp, hk', ⟨w, hw1, decide_eq_true ((mMember_eq hn).mpr ⟨hmem.1, hmem.2.1, fun z hz hne => ?_⟩)⟩, Or.inl rfl, hsc, hb2, ht2⟩
      by_cases c : z = 6 * a + b
      · rw [c]; exact hw3
      · rw [pk_un c] at hne
        exact hmem.2.2 z hz hne
end QU
