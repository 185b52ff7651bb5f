/-! separator and separations -/
section SP
variable {n : Nat} {fp fc mh : Nat → Int32}
/-- is the pair separated by set number i? -/
def sepB (n : Nat) (fp fc : Nat → Int32) (x0 y0 : Int32) (i : Nat) : Bool := decide (¬ xSep n fp fc x0 y0 (nI i) = 0)
def pcn (i : Nat) : Nat := cb (bt (nI i)) 9
theorem sepB_size (hn : n ≤ 6) {x0 y0 : Int32} {i : Nat} (hi : i < 2 ^ n) (h : sepB n fp fc x0 y0 i = true) : pcn i < n := by
  have h := of_decide_eq_true h
  rcases pair_cases hn x0 y0 with ⟨h1, h2⟩ | ⟨h1, h2, a, b, ha, hb, hab, rfl, rfl⟩
  · exact absurd (by unfold xSep; rw [if_pos h1]) h
  · have hna : bt (nI i) a = false := by
      rcases hb : bt (nI i) a with _ | _
      · rfl
      · refine absurd ?_ h
        unfold xSep
        rw [if_neg h1]
        by_cases c1 : nI i < 0
        · rw [if_pos c1]
        · rw [if_neg c1]
          by_cases c2 : (1 : Int32) <<< (nI n &&& 31) ≤ nI i
          · rw [if_pos c2]
          · rw [if_neg c2, if_neg (hHt (by omega) hb)]
    have hbit : ∀ w, bt (nI i) w = true → w < n := fun w hw => by
      have h64 := vz_p64 hn
      have e : bt (nI i) w = i.testBit w := by
        unfold bt
        show (BitVec.ofNat 32 i).getLsbD w = _
        rw [BitVec.getLsbD_ofNat]
        have := b_lt hw
        simp [this]
      rw [e] at hw
      rcases Nat.lt_or_ge w n with q | q
      · exact q
      · have : i < 2 ^ w := Nat.lt_of_lt_of_le hi (Nat.pow_le_pow_right (by decide) q)
        rw [Nat.testBit_lt_two_pow this] at hw; cases hw
    have h1 : pcn i = cb (bt (nI i)) n := by
      unfold pcn
      rw [show 9 = n + (9 - n) by omega]
      exact cb_ge _ n (9 - n) (fun j hj => by
        rcases hc : bt (nI i) j with _ | _
        · rfl
        · have := hbit j hc; omega)
    rw [h1]
    have h2 := cb_lt (f := bt (nI i)) (g := fun _ => true) n (fun _ _ _ => rfl) ⟨a, ha, hna, rfl⟩
    have h3 := cb_le (fun _ => true) n
    omega
/-- the best so far -/
def bestOf (S : Nat → Bool) (i : Nat) (be bs : Int32) (n : Nat) : Prop :=
  (be = -1 ∧ bs = nI n ∧ ∀ j, j < i → S j = false) ∨ ∃ j, j < i ∧ be = nI j ∧ bs = nI (pcn j) ∧ S j = true ∧ ∀ j', j' < i → S j' = true → pcn j < pcn j' ∨ (pcn j = pcn j' ∧ j ≤ j')
theorem xSepr_best (hn : n ≤ 6) (x0 y0 : Int32) : ∀ (k i : Nat) (be bs : Int32), i + k = 2 ^ n → bestOf (sepB n fp fc x0 y0) i be bs n → ∃ be' bs', xSepr_L11 n fp fc x0 y0 k i be bs = be' ∧ bestOf (sepB n fp fc x0 y0) (2 ^ n) be' bs' n
  | 0, i, be, bs, hk, h => ⟨be, bs, rfl, by rw [← hk]; exact h⟩
  | k + 1, i, be, bs, hk, h => by
    have h64 := vz_p64 hn
    have ebc : bitCount (nI i) = nI (pcn i) := bc_all i (by omega)
    have hp9 : pcn i ≤ 9 := cb_le _ _
    rw [xSepr_L11, ebc]
    have keep : (sepB n fp fc x0 y0 i = true → ∃ j, j < i ∧ be = nI j ∧ bs = nI (pcn j) ∧ sepB n fp fc x0 y0 j = true ∧ pcn j ≤ pcn i ∧ ∀ j', j' < i → sepB n fp fc x0 y0 j' = true → pcn j < pcn j' ∨ (pcn j = pcn j' ∧ j ≤ j')) → bestOf (sepB n fp fc x0 y0) (i + 1) be bs n := fun hyp => by
      rcases hs : sepB n fp fc x0 y0 i with _ | _
      · rcases h with ⟨h1, h2, h3⟩ | ⟨j, h1, h2, h3, h4, h5⟩
        · refine Or.inl ⟨h1, h2, fun j hj => ?_⟩
          by_cases c : j = i
          · rw [c]; exact hs
          · exact h3 j (by omega)
        · refine Or.inr ⟨j, by omega, h2, h3, h4, fun j' hj' hs' => ?_⟩
          by_cases c : j' = i
          · rw [c, hs] at hs'; cases hs'
          · exact h5 j' (by omega) hs'
      · obtain ⟨j, h1, h2, h3, h4, h5, h6⟩ := hyp hs
        refine Or.inr ⟨j, by omega, h2, h3, h4, fun j' hj' hs' => ?_⟩
        by_cases c : j' = i
        · rw [c]
          rcases Nat.lt_or_ge (pcn j) (pcn i) with q | q
          · exact Or.inl q
          · exact Or.inr ⟨by omega, by omega⟩
        · exact h6 j' (by omega) hs'
    by_cases c1 : bs ≤ nI (pcn i)
    · rw [if_pos c1]
      refine xSepr_best hn x0 y0 k (i + 1) be bs (by omega) (keep (fun hs => ?_))
      rcases h with ⟨h1, h2, h3⟩ | ⟨j, h1, h2, h3, h4, h5⟩
      · exfalso
        have := sepB_size hn (show i < 2 ^ n by omega) hs
        rw [h2, nI_leI (by omega) (by omega)] at c1
        omega
      · have hj9 : pcn j ≤ 9 := cb_le _ _
        rw [h3, nI_leI (by omega) (by omega)] at c1
        exact ⟨j, h1, h2, h3, h4, c1, h5⟩
    · rw [if_neg c1]
      by_cases c2 : xSep n fp fc x0 y0 (nI i) = 0
      · rw [if_pos c2]
        refine xSepr_best hn x0 y0 k (i + 1) be bs (by omega) (keep (fun hs => absurd c2 (of_decide_eq_true hs)))
      · rw [if_neg c2]
        refine xSepr_best hn x0 y0 k (i + 1) (nI i) (nI (pcn i)) (by omega) (Or.inr ⟨i, by omega, rfl, rfl, decide_eq_true c2, fun j' hj' hs' => ?_⟩)
        by_cases c : j' = i
        · rw [c]; exact Or.inr ⟨rfl, Nat.le_refl _⟩
        · rcases h with ⟨h1, h2, h3⟩ | ⟨j, h1, h2, h3, h4, h5⟩
          · rw [h3 j' (by omega)] at hs'; cases hs'
          · have hj9 : pcn j ≤ 9 := cb_le _ _
            rw [h3, nI_leI (by omega) (by omega)] at c1
            have := h5 j' (by omega) hs'
            left; omega
theorem mSep_1 (hn : n ≤ 6) (h : gRel n fp fc mh) (mp mx mr : Nat → Int32) (x0 y0 : Int32) (i : Nat) : (mSep n mh mp mx mr x0 y0 (nI i)).1 = 0 ↔ sepB n fp fc x0 y0 i = false := by
  rw [← eq_separated hn h mp mx mr x0 y0 (nI i)]
  unfold sepB
  rw [decide_eq_false_iff_not]
  exact Classical.not_not.symm
theorem mSepr_in (hn : n ≤ 6) (h : gRel n fp fc mh) (mp mx mr : Nat → Int32) (x0 y0 : Int32) {many : Nat} (hm : many ≤ 9) (p13 x13 r13 : Nat → Int32) (kk : (Nat → Int32) → (Nat → Int32) → (Nat → Int32) → Int32 × (Nat → Int32) × (Nat → Int32) × (Nat → Int32)) : ∀ (k i : Nat) (p x r : Nat → Int32), i + k = 2 ^ n →
    (∀ j0, i ≤ j0 → j0 < 2 ^ n → pcn j0 = many → sepB n fp fc x0 y0 j0 = true → (∀ j, i ≤ j → j < j0 → pcn j = many → sepB n fp fc x0 y0 j = false) → (mSepr_L24 n mh mp mx mr x0 y0 many p13 x13 r13 kk k i p x r).1 = nI j0) ∧
    ((∀ j, i ≤ j → j < 2 ^ n → pcn j = many → sepB n fp fc x0 y0 j = false) → ∃ p' x' r', mSepr_L24 n mh mp mx mr x0 y0 many p13 x13 r13 kk k i p x r = kk p' x' r')
  | 0, i, p, x, r, hk => ⟨fun j0 h1 h2 => by omega, fun _ => ⟨p, x, r, rfl⟩⟩
  | k + 1, i, p, x, r, hk => by
    have h64 := vz_p64 hn
    have ems : mSize (nI i) = nI (pcn i) := ms_all i (by omega)
    have hp9 : pcn i ≤ 9 := cb_le _ _
    rw [mSepr_L24, ems]
    by_cases c1 : pcn i = many
    · rw [if_pos (by rw [c1])]
      by_cases c2 : (mSep n mh p x r x0 y0 (nI i)).1 = 0
      · rw [if_pos c2]
        have ih := mSepr_in hn h mp mx mr x0 y0 hm p13 x13 r13 kk k (i + 1) (mSep n mh p x r x0 y0 (nI i)).2.1 (mSep n mh p x r x0 y0 (nI i)).2.2.1 (mSep n mh p x r x0 y0 (nI i)).2.2.2 (by omega)
        have hs := (mSep_1 hn h p x r x0 y0 i).mp c2
        refine ⟨fun j0 h1 h2 h3 h4 h5 => ih.1 j0 ?_ h2 h3 h4 (fun j a b => h5 j (by omega) b), fun hno => ih.2 (fun j a b => hno j (by omega) b)⟩
        by_cases c : j0 = i
        · rw [c, hs] at h4; cases h4
        · omega
      · rw [if_neg c2]
        have hs : sepB n fp fc x0 y0 i = true := by
          rcases q : sepB n fp fc x0 y0 i with _ | _
          · exact absurd ((mSep_1 hn h p x r x0 y0 i).mpr q) c2
          · rfl
        refine ⟨fun j0 h1 h2 h3 h4 h5 => ?_, fun hno => ?_⟩
        · by_cases c : j0 = i
          · rw [c]
          · have := h5 i (by omega) (by omega) c1
            rw [hs] at this; cases this
        · have := hno i (by omega) (by omega) c1
          rw [hs] at this; cases this
    · rw [if_neg (fun e => c1 ((nI_eq (by omega) (by omega)).mp e))]
      have ih := mSepr_in hn h mp mx mr x0 y0 hm p13 x13 r13 kk k (i + 1) p x r (by omega)
      refine ⟨fun j0 h1 h2 h3 h4 h5 => ih.1 j0 ?_ h2 h3 h4 (fun j a b => h5 j (by omega) b), fun hno => ih.2 (fun j a b => hno j (by omega) b)⟩
      by_cases c : j0 = i
      · rw [c] at h3; exact absurd h3 c1
      · omega
theorem mSepr_out (hn : n ≤ 6) (h : gRel n fp fc mh) (mp mx mr : Nat → Int32) (x0 y0 : Int32) : ∀ (k i : Nat) (p x r : Nat → Int32), i + k = n + 1 →
    (∀ j0, j0 < 2 ^ n → i ≤ pcn j0 → pcn j0 ≤ n → sepB n fp fc x0 y0 j0 = true → (∀ j, j < 2 ^ n → i ≤ pcn j → sepB n fp fc x0 y0 j = true → pcn j0 < pcn j ∨ (pcn j0 = pcn j ∧ j0 ≤ j)) → (mSepr_L13 n mh mp mx mr x0 y0 k i p x r).1 = nI j0) ∧
    ((∀ j, j < 2 ^ n → i ≤ pcn j → sepB n fp fc x0 y0 j = false) → (mSepr_L13 n mh mp mx mr x0 y0 k i p x r).1 = -1)
  | 0, i, p, x, r, hk => ⟨fun j0 h1 h2 h3 => by omega, fun _ => rfl⟩
  | k + 1, i, p, x, r, hk => by
    rw [mSepr_L13]
    have hin := mSepr_in hn h mp mx mr x0 y0 (show i ≤ 9 by omega) p x r (fun w0 w1 w2 => mSepr_L13 n mh mp mx mr x0 y0 k (i + 1) w0 w1 w2) (2 ^ n) 0 p x r (by omega)
    refine ⟨fun j0 h1 h2 h3 h4 h5 => ?_, fun hno => ?_⟩
    · by_cases c : pcn j0 = i
      · refine hin.1 j0 (by omega) h1 c h4 (fun j _ hj hp => ?_)
        rcases q : sepB n fp fc x0 y0 j with _ | _
        · rfl
        · have := h5 j (by omega) (by omega) q; omega
      · obtain ⟨p', x', r', e⟩ := hin.2 (fun j _ hj hp => by
          rcases q : sepB n fp fc x0 y0 j with _ | _
          · rfl
          · have := h5 j hj (by omega) q; omega)
        rw [e]
        exact (mSepr_out hn h mp mx mr x0 y0 k (i + 1) p' x' r' (by omega)).1 j0 h1 (by omega) h3 h4 (fun j a b => h5 j a (by omega))
    · obtain ⟨p', x', r', e⟩ := hin.2 (fun j _ hj hp => hno j hj (by omega))
      rw [e]
      exact (mSepr_out hn h mp mx mr x0 y0 k (i + 1) p' x' r' (by omega)).2 (fun j a b => hno j a (by omega))
theorem eq_separator (hn : n ≤ 6) (h : gRel n fp fc mh) (mp mx mr : Nat → Int32) (x0 y0 : Int32) : xSepr n fp fc x0 y0 = (mSepr n mh mp mx mr x0 y0).1 := by
  obtain ⟨be, bs, e, hb⟩ := xSepr_best (fp := fp) (fc := fc) hn x0 y0 (2 ^ n) 0 (-1) (nI n) (by omega) (Or.inl ⟨rfl, rfl, fun j hj => by omega⟩)
  unfold xSepr mSepr
  rw [e]
  have ho := mSepr_out hn h mp mx mr x0 y0 (n + 1) 0 mp mx mr (by omega)
  by_cases c : mPair n x0 y0 = 0
  · rw [if_pos c]
    rcases hb with ⟨h1, _, _⟩ | ⟨j, h1, h2, h3, h4, h5⟩
    · exact h1
    · refine absurd ?_ (of_decide_eq_true h4)
      unfold xSep
      rw [if_pos (show xPair n x0 y0 = 0 from c)]
  · rw [if_neg c]
    rcases hb with ⟨h1, h2, h3⟩ | ⟨j, h1, h2, h3, h4, h5⟩
    · rw [h1]; exact (ho.2 (fun j hj _ => h3 j hj)).symm
    · rw [h2]
      exact (ho.1 j h1 (by omega) (by have := sepB_size hn h1 h4; omega) h4 (fun j' a _ b => h5 j' a b)).symm
end SP
