/-! the calls that change the graph -/
section CA
variable {n : Nat} {fp fc fl fh : Nat → Int32} {P : Nat} {dc cbb kb kc ga ct fi sf af sc : Int32} {mh mk mt mb : Nat → Int32}
theorem cntA_le : cntA mh ≤ 36 := by
  have := sm_le (f := iA mh) (c := 1) (fun t => by unfold iA; split <;> omega) 36 0
  unfold cntA
  omega
theorem T_arrow (h : RelA n fp fc fl fh P dc cbb kb kc ga ct fi sf af sc mh mk mt mb) (u v : Int32) :
    (xArrow n fp fc fl fh P dc cbb kb kc ga sc u v).1 = (mArrow n mh mk u v).1 ∧
    RelA n (xArrow n fp fc fl fh P dc cbb kb kc ga sc u v).2.1 (xArrow n fp fc fl fh P dc cbb kb kc ga sc u v).2.2.1 (xArrow n fp fc fl fh P dc cbb kb kc ga sc u v).2.2.2.2.2.2.2.2.2.2.1 (xArrow n fp fc fl fh P dc cbb kb kc ga sc u v).2.2.2.2.2.2.2.2.2.2.2 (xArrow n fp fc fl fh P dc cbb kb kc ga sc u v).2.2.2.2.1 (xArrow n fp fc fl fh P dc cbb kb kc ga sc u v).2.2.2.2.2.1 (xArrow n fp fc fl fh P dc cbb kb kc ga sc u v).2.2.2.2.2.2.1 (xArrow n fp fc fl fh P dc cbb kb kc ga sc u v).2.2.2.2.2.2.2.1 (xArrow n fp fc fl fh P dc cbb kb kc ga sc u v).2.2.2.2.2.2.2.2.1 (xArrow n fp fc fl fh P dc cbb kb kc ga sc u v).2.2.2.2.2.2.2.2.2.1 ct fi sf af (xArrow n fp fc fl fh P dc cbb kb kc ga sc u v).2.2.2.1 (mArrow n mh mk u v).2.1 (mArrow n mh mk u v).2.2 mt mb := by
  have h0 := h
  obtain ⟨hn2, hn, hg, hr, hJ, hp, hk, hw, hga, hsc, hb, ht⟩ := h
  unfold xArrow mArrow
  rcases pair_cases hn u v with ⟨h1, h2⟩ | ⟨h1, h2, a, b, ha, hb', hab, rfl, rfl⟩
  · rw [if_pos h1, if_pos h2]; exact ⟨rfl, h0⟩
  · rw [if_neg h1, if_neg h2]
    have hj := hg.joinP hn ha hb'
    by_cases c1 : mJoin mh (nI a) (nI b) = 0
    · rw [if_pos (hj.mpr c1), if_pos c1, gSize_eq hn hg, mArrows_eq]
      have hc := cntA_le (mh := mh)
      by_cases c2 : cntA mh < 9
      · rw [if_pos (show nI (cntA mh) < 9 by rw [show (9 : Int32) = nI 9 from rfl, nI_ltI (by omega) (by omega)]; exact c2), if_neg (show ¬ (9 : Int32) ≤ nI (cntA mh) by rw [show (9 : Int32) = nI 9 from rfl, nI_leI (by omega) (by omega)]; omega), reach_nI hn hg hb']
        by_cases c3 : bt (mReach n mh (nI b)) a = true
        · rw [if_neg (hHt (by omega) c3), if_pos ((b_at1 _ (by omega)).mpr c3)]; exact ⟨rfl, h0⟩
        · rw [if_pos (hHf (by omega) c3), if_neg (fun q => c3 ((b_at1 _ (by omega)).mp q)), vz_ixC (by omega) (by omega), nar1]
          have cj := (mJoin_eq hn ha hb').mp c1
          have z1 : mh (6 * a + b) = 0 := Classical.byContradiction (fun z => cj (Or.inl ⟨ha, hb', z⟩))
          have z2 : mh (6 * b + a) = 0 := Classical.byContradiction (fun z => cj (Or.inr ⟨hb', ha, z⟩))
          have hg' := gRel_put hn hg ha hb' hab z2
          have hno : ¬ dp_Reach (gM n mh) b a := fun q => c3 ((mReach_spec hn hb' gM_in (fun x y hx hy => ⟨fun z => ⟨hx, hy, z⟩, fun z => z.2.2⟩) a).mpr q)
          have hr' : hasRank n (upd mh (6 * a + b) 1) := rank_add hr hno (fun x y g => gM_put (by omega) hn g)
          have hcu := cnt_upd (mh := mh) (j := 6 * a + b) (by omega) 1
          have hJ' : jcO (upd mh (6 * a + b) 1) n n 0 ≤ 9 := by
            rw [jcO_cnt hn hg']
            rw [if_neg (by decide)] at hcu
            omega
          exact ⟨rfl, RelA_new hn2 hn hg' hr' hJ' hk.1 hb ht ct fi sf af⟩
      · rw [if_neg (show ¬ nI (cntA mh) < 9 by rw [show (9 : Int32) = nI 9 from rfl, nI_ltI (by omega) (by omega)]; exact c2), if_pos (show (9 : Int32) ≤ nI (cntA mh) by rw [show (9 : Int32) = nI 9 from rfl, nI_leI (by omega) (by omega)]; omega)]
        exact ⟨rfl, h0⟩
    · rw [if_neg (fun q => c1 (hj.mp q)), if_neg c1]; exact ⟨rfl, h0⟩
theorem T_erase (h : RelA n fp fc fl fh P dc cbb kb kc ga ct fi sf af sc mh mk mt mb) (u v : Int32) :
    (xErase n fp fc fl fh P dc cbb kb kc ga sc u v).1 = (mErase n mh mk u v).1 ∧
    RelA n (xErase n fp fc fl fh P dc cbb kb kc ga sc u v).2.1 (xErase n fp fc fl fh P dc cbb kb kc ga sc u v).2.2.1 (xErase n fp fc fl fh P dc cbb kb kc ga sc u v).2.2.2.2.2.2.2.2.2.2.1 (xErase n fp fc fl fh P dc cbb kb kc ga sc u v).2.2.2.2.2.2.2.2.2.2.2 (xErase n fp fc fl fh P dc cbb kb kc ga sc u v).2.2.2.2.1 (xErase n fp fc fl fh P dc cbb kb kc ga sc u v).2.2.2.2.2.1 (xErase n fp fc fl fh P dc cbb kb kc ga sc u v).2.2.2.2.2.2.1 (xErase n fp fc fl fh P dc cbb kb kc ga sc u v).2.2.2.2.2.2.2.1 (xErase n fp fc fl fh P dc cbb kb kc ga sc u v).2.2.2.2.2.2.2.2.1 (xErase n fp fc fl fh P dc cbb kb kc ga sc u v).2.2.2.2.2.2.2.2.2.1 ct fi sf af (xErase n fp fc fl fh P dc cbb kb kc ga sc u v).2.2.2.1 (mErase n mh mk u v).2.1 (mErase n mh mk u v).2.2 mt mb := by
  have h0 := h
  obtain ⟨hn2, hn, hg, hr, hJ, hp, hk, hw, hga, hsc, hb, ht⟩ := h
  unfold xErase mErase
  rcases pair_cases hn u v with ⟨h1, h2⟩ | ⟨h1, h2, a, b, ha, hb', hab, rfl, rfl⟩
  · rw [if_pos h1, if_pos h2]; exact ⟨rfl, h0⟩
  · rw [if_neg h1, if_neg h2, vz_ixC (by omega) (by omega), nar0]
    have hh := hg.hasP hn ha hb'
    by_cases c : mh (6 * a + b) = 0
    · rw [if_pos (hh.mpr c), if_pos c]; exact ⟨rfl, h0⟩
    · rw [if_neg (fun q => c (hh.mp q)), if_neg c]
      have hg' := gRel_take hn hg ha hb'
      have hr' : hasRank n (upd mh (6 * a + b) 0) := rank_sub hr (fun x y g => gM_take g)
      have hcu := cnt_upd (mh := mh) (j := 6 * a + b) (by omega) 0
      rw [if_pos rfl] at hcu
      have hJ' : jcO (upd mh (6 * a + b) 0) n n 0 ≤ 9 := by
        rw [jcO_cnt hn hg'] at *
        rw [jcO_cnt hn hg] at hJ
        omega
      exact ⟨rfl, RelA_new hn2 hn hg' hr' hJ' hk.1 hb ht ct fi sf af⟩
theorem put_take (hn : n ≤ 6) (hg : gRel n fp fc mh) {a b : Nat} (ha : a < n) (hb : b < n) (hab : ¬ mh (6 * a + b) = 0) : gPut (gTake fp fc (nI a) (nI b)).1 (gTake fp fc (nI a) (nI b)).2 (nI a) (nI b) = (fp, fc) ∧ upd (upd mh (6 * a + b) 0) (6 * a + b) 1 = mh := by
  have hm1 := msk_take hn hg.msk ha hb
  refine ⟨?_, funext (fun x => ?_)⟩
  · unfold gPut gTake
    rw [nI_clamp (show a < 2 ^ 31 by omega), nI_clamp (show b < 2 ^ 31 by omega)]
    apply Prod.ext
    · show upd (upd fp b (fp b &&& ((1 : Int32) <<< (nI a &&& 31) ^^^ (-1)))) b (upd fp b (fp b &&& ((1 : Int32) <<< (nI a &&& 31) ^^^ (-1))) b ||| (1 : Int32) <<< (nI a &&& 31)) = fp
      funext x
      by_cases c : x = b
      · rw [c, pk_us, pk_us]
        refine b_iff (fun w => ?_)
        rw [b_or, Bool.or_eq_true, b_clr _ (by omega), b_one (by omega), decide_eq_true_iff]
        constructor
        · rintro (q | q)
          · exact q.1
          · rw [q]; exact (hg.2.1 b hb a).mpr ⟨ha, hab⟩
        · intro q
          by_cases d : w = a
          · exact Or.inr d
          · exact Or.inl ⟨q, d⟩
      · rw [pk_un c, pk_un c]
    · show upd (upd fc a (fc a &&& ((1 : Int32) <<< (nI b &&& 31) ^^^ (-1)))) a (upd fc a (fc a &&& ((1 : Int32) <<< (nI b &&& 31) ^^^ (-1))) a ||| (1 : Int32) <<< (nI b &&& 31)) = fc
      funext x
      by_cases c : x = a
      · rw [c, pk_us, pk_us]
        refine b_iff (fun w => ?_)
        rw [b_or, Bool.or_eq_true, b_clr _ (by omega), b_one (by omega), decide_eq_true_iff]
        constructor
        · rintro (q | q)
          · exact q.1
          · rw [q]; exact (hg.2.2.1 a ha b).mpr ⟨hb, hab⟩
        · intro q
          by_cases d : w = b
          · exact Or.inr d
          · exact Or.inl ⟨q, d⟩
      · rw [pk_un c, pk_un c]
  · by_cases c : x = 6 * a + b
    · rw [c, pk_us]
      rcases hg.2.2.2 (6 * a + b) with q | q
      · exact absurd q hab
      · exact q.symm
    · rw [pk_un c, pk_un c]
theorem T_turn (h : RelA n fp fc fl fh P dc cbb kb kc ga ct fi sf af sc mh mk mt mb) (u v : Int32) :
    (xTurn n fp fc fl fh P dc cbb kb kc ga sc u v).1 = (mTurn n mh mk u v).1 ∧
    RelA n (xTurn n fp fc fl fh P dc cbb kb kc ga sc u v).2.1 (xTurn n fp fc fl fh P dc cbb kb kc ga sc u v).2.2.1 (xTurn n fp fc fl fh P dc cbb kb kc ga sc u v).2.2.2.2.2.2.2.2.2.2.1 (xTurn n fp fc fl fh P dc cbb kb kc ga sc u v).2.2.2.2.2.2.2.2.2.2.2 (xTurn n fp fc fl fh P dc cbb kb kc ga sc u v).2.2.2.2.1 (xTurn n fp fc fl fh P dc cbb kb kc ga sc u v).2.2.2.2.2.1 (xTurn n fp fc fl fh P dc cbb kb kc ga sc u v).2.2.2.2.2.2.1 (xTurn n fp fc fl fh P dc cbb kb kc ga sc u v).2.2.2.2.2.2.2.1 (xTurn n fp fc fl fh P dc cbb kb kc ga sc u v).2.2.2.2.2.2.2.2.1 (xTurn n fp fc fl fh P dc cbb kb kc ga sc u v).2.2.2.2.2.2.2.2.2.1 ct fi sf af (xTurn n fp fc fl fh P dc cbb kb kc ga sc u v).2.2.2.1 (mTurn n mh mk u v).2.1 (mTurn n mh mk u v).2.2 mt mb := by
  have h0 := h
  obtain ⟨hn2, hn, hg, hr, hJ, hp, hk, hw, hga, hsc, hb, ht⟩ := h
  unfold xTurn mTurn
  rcases pair_cases hn u v with ⟨h1, h2⟩ | ⟨h1, h2, a, b, ha, hb', hab, rfl, rfl⟩
  · rw [if_pos h1, if_pos h2]; exact ⟨rfl, h0⟩
  · rw [if_neg h1, if_neg h2, vz_ixC (by omega) (by omega), vz_ixC (by omega) (by omega), nar0, nar1]
    have hh := hg.hasP hn ha hb'
    by_cases c : mh (6 * a + b) = 0
    · rw [if_pos (hh.mpr c), if_pos c]; exact ⟨rfl, h0⟩
    · rw [if_neg (fun q => c (hh.mp q)), if_neg c]
      have hg' := gRel_take hn hg ha hb'
      rw [reach_nI hn hg' ha]
      by_cases c3 : bt (mReach n (upd mh (6 * a + b) 0) (nI a)) b = true
      · rw [if_neg (hHt (by omega) c3), if_pos ((b_at1 _ (by omega)).mpr c3), (put_take hn hg ha hb' c).1, (put_take hn hg ha hb' c).2]; exact ⟨rfl, h0⟩
      · rw [if_pos (hHf (by omega) c3), if_neg (fun q => c3 ((b_at1 _ (by omega)).mp q))]
        have z : mh (6 * b + a) = 0 := (hg.1 a b (by omega) (by omega) c).2.2.2
        have hg2 := gRel_put hn hg' hb' ha (Ne.symm hab) (by rw [pk_us])
        have hno : ¬ dp_Reach (gM n (upd mh (6 * a + b) 0)) a b := fun q => c3 ((mReach_spec hn ha gM_in (fun x y hx hy => ⟨fun z => ⟨hx, hy, z⟩, fun z => z.2.2⟩) b).mpr q)
        have hr' : hasRank n (upd mh (6 * a + b) 0) := rank_sub hr (fun x y g => gM_take g)
        have hr2 : hasRank n (upd (upd mh (6 * a + b) 0) (6 * b + a) 1) := rank_add hr' hno (fun x y g => gM_put (by omega) hn g)
        have hc1 := cnt_upd (mh := mh) (j := 6 * a + b) (by omega) 0
        have hc2 := cnt_upd (mh := upd mh (6 * a + b) 0) (j := 6 * b + a) (by omega) 1
        rw [if_pos rfl] at hc1
        rw [if_neg (by decide)] at hc2
        have hi : iA mh (6 * a + b) = 1 := if_neg c
        have hJ' : jcO (upd (upd mh (6 * a + b) 0) (6 * b + a) 1) n n 0 ≤ 9 := by
          rw [jcO_cnt hn hg2]
          rw [jcO_cnt hn hg] at hJ
          omega
        exact ⟨rfl, RelA_new hn2 hn hg2 hr2 hJ' hk.1 hb ht ct fi sf af⟩
theorem T_seps (h : RelA n fp fc fl fh P dc cbb kb kc ga ct fi sf af sc mh mk mt mb) (mp mx mr : Nat → Int32) :
    (xSeps n fp fc sc).1 = (mSeps n mh mp mx mr).1 ∧ RelA n fp fc fl fh P dc cbb kb kc ga ct fi sf af (xSeps n fp fc sc).2 mh mk mt mb := by
  obtain ⟨hn2, hn, hg, hr, hJ, hp, hk, hw, hga, hsc, hb, ht⟩ := h
  have e := eq_separations hn hg mp mx mr
  have e12 : (xSeps n fp fc (-1)).2 = (xSeps n fp fc (-1)).1 := by
    unfold xSeps
    rw [if_pos rfl, ← nI_0, xSeps_L12_eq hn (-1) (2 ^ n) 0 0 (by omega)]
  by_cases c : sc = -1
  · subst c
    exact ⟨e, hn2, hn, hg, hr, hJ, hp, hk, hw, hga, Or.inr e12, hb, ht⟩
  · have hs := hsc.resolve_left c
    have e3 : xSeps n fp fc sc = (sc, sc) := by unfold xSeps; rw [if_neg c]
    rw [e3]
    exact ⟨by rw [← e]; exact hs, hn2, hn, hg, hr, hJ, hp, hk, hw, hga, Or.inr hs, hb, ht⟩
end CA
