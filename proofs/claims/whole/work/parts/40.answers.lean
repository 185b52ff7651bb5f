/-! the answers that look at the members -/
section AN
variable {n : Nat} {fp fc mh mk : Nat → Int32}
theorem kBitOf_L2_eq {fl fh : Nat → Int32} {L : List (Nat × Nat)} (hL : L.length ≤ 9) (hb : ∀ j, j < L.length → (L.getD j (0, 0)).1 < 6 ∧ (L.getD j (0, 0)).2 < 6) (hl : ∀ j, j < L.length → fl j = nI (L.getD j (0, 0)).1 ∧ fh j = nI (L.getD j (0, 0)).2) {u v : Int32} {x y : Nat} (hx : x < 6) (hy : y < 6) (e1 : (if v < u then v else u) = nI x) (e2 : (if u < v then v else u) = nI y) : ∀ (k i : Nat), i + k = L.length →
    (∀ j0, i ≤ j0 → j0 < L.length → L.getD j0 (0, 0) = (x, y) → (∀ j, i ≤ j → j < j0 → L.getD j (0, 0) ≠ (x, y)) → kBitOf_L2 fl fh L.length u v k i = (1 : Int32) <<< (nI (L.length - 1 - j0) &&& 31)) ∧ ((∀ j, i ≤ j → j < L.length → L.getD j (0, 0) ≠ (x, y)) → kBitOf_L2 fl fh L.length u v k i = 0)
  | 0, i, h => ⟨fun j0 h1 h2 => by omega, fun _ => rfl⟩
  | k + 1, i, h => by
    have hi : i < L.length := by omega
    have ih := kBitOf_L2_eq hL hb hl hx hy e1 e2 k (i + 1) (by omega)
    rw [kBitOf_L2, nI_clamp (by omega), (hl i hi).1, (hl i hi).2, e1, e2]
    have q1 : nI (L.getD i (0, 0)).1 = nI x ↔ (L.getD i (0, 0)).1 = x := nI_eq (by have := (hb i hi).1; omega) (by omega)
    have q2 : nI (L.getD i (0, 0)).2 = nI y ↔ (L.getD i (0, 0)).2 = y := nI_eq (by have := (hb i hi).2; omega) (by omega)
    by_cases c : L.getD i (0, 0) = (x, y)
    · rw [if_pos (q1.mpr (by rw [c])), if_pos (q2.mpr (by rw [c]))]
      refine ⟨fun j0 h1 h2 h3 h4 => ?_, fun hno => absurd c (hno i (by omega) hi)⟩
      have : j0 = i := by
        rcases Nat.lt_or_ge i j0 with g | g
        · exact absurd c (h4 i (by omega) g)
        · omega
      rw [this]
      unfold kBitAt
      rw [sub_ix hi]
    · have hno : (if nI (L.getD i (0, 0)).1 = nI x then (if nI (L.getD i (0, 0)).2 = nI y then kBitAt L.length (nI i) else kBitOf_L2 fl fh L.length u v k (i + 1)) else kBitOf_L2 fl fh L.length u v k (i + 1)) = kBitOf_L2 fl fh L.length u v k (i + 1) := by
        by_cases d1 : nI (L.getD i (0, 0)).1 = nI x
        · rw [if_pos d1]
          by_cases d2 : nI (L.getD i (0, 0)).2 = nI y
          · exact absurd (Prod.ext (q1.mp d1) (q2.mp d2)) c
          · rw [if_neg d2]
        · rw [if_neg d1]
      rw [hno]
      refine ⟨fun j0 h1 h2 h3 h4 => ih.1 j0 ?_ h2 h3 (fun j a b => h4 j (by omega) b), fun hno => ih.2 (fun j a b => hno j (by omega) b)⟩
      by_cases d : j0 = i
      · rw [d] at h3; exact absurd h3 c
      · omega
theorem minmax {a b : Nat} (hab : a < b) (hb : b < 6) : (if nI b < nI a then nI b else nI a) = nI a ∧ (if nI a < nI b then nI b else nI a) = nI b ∧ (if nI a < nI b then nI a else nI b) = nI a ∧ (if nI b < nI a then nI a else nI b) = nI b := by
  have h1 : ¬ nI b < nI a := by rw [nI_ltI (by omega) (by omega)]; omega
  have h2 : nI a < nI b := by rw [nI_ltI (by omega) (by omega)]; exact hab
  rw [if_neg h1, if_pos h2, if_pos h2, if_neg h1]
  exact ⟨rfl, rfl, rfl, rfl⟩
/-- the bit of a pair -/
theorem bitOf_eq (hn : n ≤ 6) {fl fh : Nat → Int32} {P : Nat} {dc cbb : Int32} (hp : pRel n fp fc mh P dc cbb fl fh) {a b : Nat} (hab : a < b) (hb : b < n) :
    (∀ j, j < (plO mh n n 0).length → (plO mh n n 0).getD j (0, 0) = (a, b) → kBitOf fl fh P (nI a) (nI b) = (1 : Int32) <<< (nI (P - 1 - j) &&& 31) ∧ kBitOf fl fh P (nI b) (nI a) = (1 : Int32) <<< (nI (P - 1 - j) &&& 31)) ∧
    (mJoin mh (nI a) (nI b) = 0 → kBitOf fl fh P (nI a) (nI b) = 0 ∧ kBitOf fl fh P (nI b) (nI a) = 0) := by
  obtain ⟨rfl, h9, -, -, hl⟩ := hp
  obtain ⟨m1, m2, m3, m4⟩ := minmax hab (show b < 6 by omega)
  have hbd : ∀ j, j < (plO mh n n 0).length → ((plO mh n n 0).getD j (0, 0)).1 < 6 ∧ ((plO mh n n 0).getD j (0, 0)).2 < 6 := fun j hj => by have := pl_mem (mh := mh) hj; omega
  have A := kBitOf_L2_eq h9 hbd hl (show a < 6 by omega) (show b < 6 by omega) m1 m2 (plO mh n n 0).length 0 (by omega)
  have B := kBitOf_L2_eq h9 hbd hl (show a < 6 by omega) (show b < 6 by omega) m3 m4 (plO mh n n 0).length 0 (by omega)
  refine ⟨fun j hj e => ?_, fun hno => ?_⟩
  · have hf : ∀ j', 0 ≤ j' → j' < j → (plO mh n n 0).getD j' (0, 0) ≠ (a, b) := fun j' _ hj' e' => by
      have := pl_inj (show j' < (plO mh n n 0).length by omega) hj (e'.trans e.symm)
      omega
    exact ⟨A.1 j (by omega) hj e hf, B.1 j (by omega) hj e hf⟩
  · have hf : ∀ j', 0 ≤ j' → j' < (plO mh n n 0).length → (plO mh n n 0).getD j' (0, 0) ≠ (a, b) := fun j' _ hj' e' => by
      have := (pl_mem hj').2.2
      rw [e'] at this
      exact this hno
    exact ⟨A.2 hf, B.2 hf⟩
/-- how many members have the arrow from a to b -/
def hvN (n : Nat) (mh mk : Nat → Int32) (m a b : Nat) : Nat := cb (fun w => memB n mh mk w && decide (¬ tW n mh w (6 * a + b) = 0)) m
theorem hv_0 {m a b : Nat} : hvN n mh mk m a b = 0 ↔ ∀ w, w < m → memB n mh mk w = true → tW n mh w (6 * a + b) = 0 := by
  unfold hvN
  rw [cb_none]
  constructor
  · intro h w hw hM
    have := h w hw
    rw [hM, Bool.true_and, decide_eq_false_iff_not] at this
    exact Classical.not_not.mp this
  · intro h w hw
    rcases q : memB n mh mk w with _ | _
    · rfl
    · rw [Bool.true_and, decide_eq_false_iff_not]
      exact fun z => z (h w hw q)
theorem cb_part {f g h : Nat → Bool} : ∀ m, (∀ w, w < m → (f w = true ↔ g w = true ∨ h w = true) ∧ ¬ (g w = true ∧ h w = true)) → cb f m = cb g m + cb h m
  | 0, _ => rfl
  | m + 1, hy => by
    have ih := cb_part m (fun w hw => hy w (by omega))
    have h1 := hy m (by omega)
    show cb f m + _ = (cb g m + _) + (cb h m + _)
    rw [ih]
    by_cases c1 : g m = true
    · have c2 : ¬ h m = true := fun q => h1.2 ⟨c1, q⟩
      rw [if_pos (h1.1.mpr (Or.inl c1)), if_pos c1, if_neg c2]; omega
    · by_cases c2 : h m = true
      · rw [if_pos (h1.1.mpr (Or.inr c2)), if_neg c1, if_pos c2]; omega
      · rw [if_neg (fun q => (h1.1.mp q).elim c1 c2), if_neg c1, if_neg c2]; omega
/-- a joined pair goes one way or the other in each member -/
theorem hv_sum (hn : n ≤ 6) {m j u v : Nat} (hj : j < (plO mh n n 0).length) (e : (plO mh n n 0).getD j (0, 0) = (u, v)) : cb (memB n mh mk) m = hvN n mh mk m u v + hvN n mh mk m v u := by
  unfold hvN
  refine cb_part m (fun w _ => ?_)
  have hup := tW_up hn w hj e
  rw [Bool.and_eq_true, Bool.and_eq_true, decide_eq_true_iff, decide_eq_true_iff, hup.1, hup.2]
  rcases q : w.testBit ((plO mh n n 0).length - 1 - j) with _ | _
  · exact ⟨⟨fun z => Or.inl ⟨z, rfl⟩, fun z => z.elim (fun y => y.1) (fun y => y.1)⟩, fun z => by have := z.2.2; cases this⟩
  · exact ⟨⟨fun z => Or.inr ⟨z, rfl⟩, fun z => z.elim (fun y => y.1) (fun y => y.1)⟩, fun z => by have := z.1.2; cases this⟩
theorem sf_hv (hn : n ≤ 6) {m j u v : Nat} {ct fi sf af : Int32} (hg : GS (memB n mh mk) m ct fi sf af) (hP : (plO mh n n 0).length ≤ 9) (hj : j < (plO mh n n 0).length) (e : (plO mh n n 0).getD j (0, 0) = (u, v)) : (bt sf ((plO mh n n 0).length - 1 - j) = true ↔ ¬ hvN n mh mk m v u = 0) ∧ (bt af ((plO mh n n 0).length - 1 - j) = true ↔ hvN n mh mk m u v = 0) := by
  constructor
  · rw [hg.2.2.1, hv_0]
    constructor
    · rintro ⟨w, h1, h2, h3⟩ q
      exact (tW_up hn w hj e).2.mpr h3 (q w h1 h2)
    · intro q
      refine Classical.byContradiction (fun hno => q (fun w h1 h2 => Classical.byContradiction (fun z => hno ⟨w, h1, h2, (tW_up hn w hj e).2.mp z⟩)))
  · rw [hg.2.2.2 _ (by omega), hv_0]
    constructor
    · intro q w h1 h2
      refine Classical.byContradiction (fun z => ?_)
      have := (tW_up hn w hj e).1.mp z
      rw [q w h1 h2] at this; cases this
    · intro q w h1 h2
      rcases r : w.testBit ((plO mh n n 0).length - 1 - j) with _ | _
      · exact absurd (q w h1 h2) ((tW_up hn w hj e).1.mpr r)
      · rfl
theorem hv_nj (hn : n ≤ 6) {m a b : Nat} (ha : a < 6) (hb : b < 6) (h : mJoin mh (nI a) (nI b) = 0) : hvN n mh mk m a b = 0 := by
  rw [hv_0]
  intro w _ _
  exact Classical.byContradiction (fun z => (tW_in hn w ha hb z).2.2.2 h)
theorem join_sym (hn : n ≤ 6) {a b : Nat} (ha : a < n) (hb : b < n) : mJoin mh (nI a) (nI b) = 0 ↔ mJoin mh (nI b) (nI a) = 0 := by
  rw [mJoin_eq hn ha hb, mJoin_eq hn hb ha]
  exact ⟨fun h q => h q.symm, fun h q => h q.symm⟩
theorem and_one {x : Int32} {t : Nat} (ht : t < 32) : (1 : Int32) <<< (nI t &&& 31) &&& x = 0 ↔ bt x t = false := by
  rw [← and_bit ht]
  have : (1 : Int32) <<< (nI t &&& 31) &&& x = x &&& (1 : Int32) <<< (nI t &&& 31) := b_ext' (fun i => by rw [b_and, b_and, Bool.and_comm])
  rw [this]
/-- someHas -/
theorem some_eq (hn : n ≤ 6) {fq fd fl fh : Nat → Int32} {P : Nat} {dc cbb kb kc ga ct fi sf af ct' fi' sf' af' : Int32} {fq' fd' : Nat → Int32} (hp : pRel n fp fc mh P dc cbb fl fh) (he : kGather n fp fc fq fd fl fh P dc cbb kb kc ga ct fi sf af = (1, ct', fi', sf', af', fq', fd')) (hg : GS (memB n mh mk) (2 ^ P) ct' fi' sf' af') {a b : Nat} (ha : a < n) (hb : b < n) (hab : a ≠ b) :
    ∃ r, kSome n fp fc fq fd fl fh P dc cbb kb kc ga ct fi sf af (nI a) (nI b) = (r, 1, ct', fi', sf', af', fq', fd') ∧ (r = 0 ∨ r = 1) ∧ (r = 0 ↔ hvN n mh mk (2 ^ P) a b = 0) := by
  have hP9 : (plO mh n n 0).length ≤ 9 := by rw [← hp.1]; exact hp.2.1
  have hPe := hp.1
  subst hPe
  unfold kSome
  rw [he]
  show ∃ r, (if nI b ≤ nI a then (if kBitOf fl fh (plO mh n n 0).length (nI a) (nI b) &&& sf' = 0 then (0, 1, ct', fi', sf', af', fq', fd') else (1, 1, ct', fi', sf', af', fq', fd')) else (if kBitOf fl fh (plO mh n n 0).length (nI a) (nI b) &&& (af' ^^^ (-1)) = 0 then (0, 1, ct', fi', sf', af', fq', fd') else (1, 1, ct', fi', sf', af', fq', fd'))) = _ ∧ _
  have pk : ∀ (c : Prop) [Decidable c] (hc : c ↔ hvN n mh mk (2 ^ (plO mh n n 0).length) a b = 0), ∃ r, (if c then ((0 : Int32), (1 : Int32), ct', fi', sf', af', fq', fd') else (1, 1, ct', fi', sf', af', fq', fd')) = (r, 1, ct', fi', sf', af', fq', fd') ∧ (r = 0 ∨ r = 1) ∧ (r = 0 ↔ hvN n mh mk (2 ^ (plO mh n n 0).length) a b = 0) := by
    intro c _ hc
    by_cases q : c
    · rw [if_pos q]; exact ⟨0, rfl, Or.inl rfl, ⟨fun _ => hc.mp q, fun _ => rfl⟩⟩
    · rw [if_neg q]; exact ⟨1, rfl, Or.inr rfl, ⟨fun z => absurd z (by decide), fun z => absurd (hc.mpr z) q⟩⟩
  by_cases c : nI b ≤ nI a
  · rw [if_pos c]
    rw [nI_leI (by omega) (by omega)] at c
    have hlt : b < a := by omega
    refine pk _ ?_
    have hbo := bitOf_eq hn hp hlt ha
    by_cases d : mJoin mh (nI b) (nI a) = 0
    · rw [(hbo.2 d).2]
      have : (0 : Int32) &&& sf' = 0 := b_eq0.mpr (fun i => by rw [b_and, b_0, Bool.false_and])
      exact ⟨fun _ => hv_nj hn (by omega) (by omega) ((join_sym hn ha hb).mpr d), fun _ => this⟩
    · obtain ⟨j, hj, e⟩ := pl_find hlt ha d
      rw [(hbo.1 j hj e).2, and_one (by omega)]
      have := (sf_hv hn hg hP9 hj e).1
      rw [← Bool.not_eq_true]
      exact ⟨fun q => Classical.byContradiction (fun z => q (this.mpr z)), fun q z => this.mp z q⟩
  · rw [if_neg c]
    rw [nI_leI (by omega) (by omega)] at c
    have hlt : a < b := by omega
    refine pk _ ?_
    have hbo := bitOf_eq hn hp hlt hb
    by_cases d : mJoin mh (nI a) (nI b) = 0
    · rw [(hbo.2 d).1]
      have : (0 : Int32) &&& (af' ^^^ (-1)) = 0 := b_eq0.mpr (fun i => by rw [b_and, b_0, Bool.false_and])
      exact ⟨fun _ => hv_nj hn (by omega) (by omega) d, fun _ => this⟩
    · obtain ⟨j, hj, e⟩ := pl_find hlt hb d
      have h3 := (sf_hv hn hg hP9 hj e).2
      rw [(hbo.1 j hj e).1, and_one (by omega), b_not _ (by omega), Bool.not_eq_false']
      exact h3
end AN
