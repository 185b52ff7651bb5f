/-! separations, collisions, arrows: counted alike -/
section CT
variable {n : Nat} {fp fc mh : Nat → Int32}
def gSep (n : Nat) (fp fc : Nat → Int32) (u w s : Nat) : Nat := if sepB n fp fc (nI u) (nI w) s = true then 1 else 0
theorem nI_bt {k : Nat} (hk : k < 2 ^ 31) (w : Nat) : bt (nI k) w = k.testBit w := by
  rcases Nat.lt_or_ge w 32 with h | h
  · unfold bt
    show (BitVec.ofNat 32 k).getLsbD w = _
    rw [BitVec.getLsbD_ofNat]
    simp [h]
  · rw [b_big h]
    have : k < 2 ^ w := Nat.lt_of_lt_of_le hk (Nat.pow_le_pow_right (by decide) (by omega))
    exact (Nat.testBit_lt_two_pow this).symm
theorem nI_bt_lt {k m w : Nat} (hm : m ≤ 9) (hk : k < 2 ^ m) (h : bt (nI k) w = true) : w < m := by
  have h5 := vz_p512 hm
  rw [nI_bt (by omega)] at h
  rcases Nat.lt_or_ge w m with q | q
  · exact q
  · have : k < 2 ^ w := Nat.lt_of_lt_of_le hk (Nat.pow_le_pow_right (by decide) q)
    rw [Nat.testBit_lt_two_pow this] at h; cases h
theorem above_bt : ∀ m, m ≤ 6 → ∀ u, u < 6 → ∀ w, w < 32 → u < m → (bt ((1 : Int32) <<< (nI m &&& 31) - (2 : Int32) <<< (nI u &&& 31)) w = true ↔ u < w ∧ w < m) := by decide +kernel
theorem above_bt' (hn : n ≤ 6) {u : Nat} (hu : u < n) (w : Nat) : bt ((1 : Int32) <<< (nI n &&& 31) - (2 : Int32) <<< (nI u &&& 31)) w = true ↔ u < w ∧ w < n := by
  rcases Nat.lt_or_ge w 32 with h | h
  · exact above_bt n hn u (by omega) w h hu
  · rw [b_big h]
    exact ⟨fun q => (by cases q), fun q => (by omega)⟩
theorem sepB_iff (hn : n ≤ 6) {u w s : Nat} (hu : u < n) (hw : w < n) (huw : u ≠ w) (hs : s < 2 ^ n) : sepB n fp fc (nI u) (nI w) s = true ↔ ¬ bt (nI s) u = true ∧ ¬ bt (nI s) w = true ∧ ¬ bt (gOpen n fp fc (nI u) (nI s)) w = true := by
  have h64 := vz_p64 hn
  unfold sepB
  rw [decide_eq_true_iff]
  unfold xSep
  rw [if_neg (xPair_nI hn hu hw huw), if_neg (nI_pos (by omega)), if_neg (by rw [vz_pow (by omega), nI_leI (by omega) (by omega)]; omega)]
  by_cases c3 : bt (nI s) u = true
  · rw [if_neg (hHt (by omega) c3)]
    exact ⟨fun q => absurd rfl q, fun q => absurd c3 q.1⟩
  · rw [if_pos (hHf (by omega) c3)]
    by_cases c4 : bt (nI s) w = true
    · rw [if_neg (hHt (by omega) c4)]
      exact ⟨fun q => absurd rfl q, fun q => absurd c4 q.2.1⟩
    · rw [if_pos (hHf (by omega) c4)]
      by_cases c5 : bt (gOpen n fp fc (nI u) (nI s)) w = true
      · rw [if_neg (hHt (by omega) c5)]
        exact ⟨fun q => absurd rfl q, fun q => absurd c5 q.2.2⟩
      · rw [if_pos (hHf (by omega) c5)]
        exact ⟨fun _ => ⟨c3, c4, c5⟩, fun _ => by decide⟩
theorem xSepBy_eq (hn : n ≤ 6) {s : Nat} (hs : s < 2 ^ n) : ∀ (k i c : Nat), i + k ≤ n → xSepBy_L4 n fp fc (nI s) k i (nI c) = nI (c + sm (fun u => sm (fun w => gSep n fp fc u w s) (n - (u + 1)) (u + 1)) k i)
  | 0, i, c, _ => rfl
  | k + 1, i, c, hk => by
    have h64 := vz_p64 hn
    rw [xSepBy_L4]
    by_cases c1 : bt (nI s) i = true
    · rw [if_neg (hHt (by omega) c1), xSepBy_eq hn hs k (i + 1) c (by omega)]
      congr 1
      show _ = c + (sm (fun w => gSep n fp fc i w s) (n - (i + 1)) (i + 1) + sm (fun u => sm (fun w => gSep n fp fc u w s) (n - (u + 1)) (u + 1)) k (i + 1))
      rw [sm_congr (g := fun _ => 0) (n - (i + 1)) (i + 1) (fun t h1 h2 => ?_), sm_0]
      · omega
      · unfold gSep
        rw [if_neg (fun q => ((sepB_iff hn (by omega) (by omega) (by omega) hs).mp q).1 c1)]
    · rw [if_pos (hHf (by omega) c1)]
      have hb : ∀ w, bt ((((1 : Int32) <<< (nI n &&& 31) - (2 : Int32) <<< (nI i &&& 31)) &&& (nI s ^^^ (-1))) &&& ((gOpen n fp fc (nI i) (nI s)) ^^^ (-1))) w = true ↔ (i < w ∧ w < n) ∧ ¬ bt (nI s) w = true ∧ ¬ bt (gOpen n fp fc (nI i) (nI s)) w = true := fun w => by
        rw [b_and, b_and, Bool.and_eq_true, Bool.and_eq_true, above_bt' hn (by omega)]
        rcases Nat.lt_or_ge w 32 with hw | hw
        · rw [b_not _ hw, b_not _ hw]
          simp only [Bool.not_eq_true', Bool.not_eq_true]
          constructor
          · intro q; exact ⟨q.1.1, q.1.2, q.2⟩
          · intro q; exact ⟨⟨q.1, q.2.1⟩, q.2.2⟩
        · constructor
          · intro q; omega
          · intro q; omega
      rw [bc_eq (m := n) (by omega) (fun w q => ((hb w).mp q).1.2), nI_add, xSepBy_eq hn hs k (i + 1) _ (by omega)]
      congr 1
      show _ = c + (sm (fun w => gSep n fp fc i w s) (n - (i + 1)) (i + 1) + sm (fun u => sm (fun w => gSep n fp fc u w s) (n - (u + 1)) (u + 1)) k (i + 1))
      rw [cb_sm, ← sm_above _ i n (by omega)]
      have e : sm (fun t => if bt ((((1 : Int32) <<< (nI n &&& 31) - (2 : Int32) <<< (nI i &&& 31)) &&& (nI s ^^^ (-1))) &&& ((gOpen n fp fc (nI i) (nI s)) ^^^ (-1))) t = true then 1 else 0) n 0 = sm (fun t => if i < t then gSep n fp fc i t s else 0) n 0 := by
        refine sm_congr n 0 (fun t _ ht => ?_)
        by_cases c2 : i < t
        · rw [if_pos c2]
          unfold gSep
          by_cases c3 : sepB n fp fc (nI i) (nI t) s = true
          · rw [if_pos c3, if_pos]
            have := (sepB_iff hn (by omega) (by omega) (by omega) hs).mp c3
            exact (hb t).mpr ⟨⟨c2, by omega⟩, this.2⟩
          · rw [if_neg c3, if_neg]
            intro q
            have := (hb t).mp q
            exact c3 ((sepB_iff hn (by omega) (by omega) (by omega) hs).mpr ⟨c1, this.2⟩)
        · rw [if_neg c2, if_neg (fun q => c2 ((hb t).mp q).1.1)]
      rw [e]; omega
theorem xSeps_L12_eq (hn : n ≤ 6) (sc : Int32) : ∀ (k i c : Nat), i + k ≤ 2 ^ n → xSeps_L12 n fp fc sc k i (nI c) = (nI (c + sm (fun s => sm (fun u => sm (fun w => gSep n fp fc u w s) (n - (u + 1)) (u + 1)) n 0) k i), nI (c + sm (fun s => sm (fun u => sm (fun w => gSep n fp fc u w s) (n - (u + 1)) (u + 1)) n 0) k i))
  | 0, i, c, _ => rfl
  | k + 1, i, c, hk => by
    rw [xSeps_L12, xSepBy, ← nI_0, xSepBy_eq hn (by omega) n 0 0 (by omega), nI_add, xSeps_L12_eq hn sc k (i + 1) _ (by omega)]
    show _ = (nI (c + (sm (fun u => sm (fun w => gSep n fp fc u w i) (n - (u + 1)) (u + 1)) n 0 + _)), nI (c + (sm (fun u => sm (fun w => gSep n fp fc u w i) (n - (u + 1)) (u + 1)) n 0 + _)))
    rw [Nat.zero_add, Nat.add_assoc]
theorem mSeps_L27_eq (hn : n ≤ 6) (h : gRel n fp fc mh) (mp mx mr : Nat → Int32) (a : Nat) (c4 : Int32) (p4 x4 r4 : Nat → Int32) (b : Nat) (c16 : Int32) (p16 x16 r16 : Nat → Int32) (kk : Int32 → (Nat → Int32) → (Nat → Int32) → (Nat → Int32) → Int32 × (Nat → Int32) × (Nat → Int32) × (Nat → Int32)) : ∀ (k i c : Nat) (p x r : Nat → Int32),
    ∃ p' x' r', mSeps_L27 n mh mp mx mr a c4 p4 x4 r4 b c16 p16 x16 r16 kk k i (nI c) p x r = kk (nI (c + sm (fun s => gSep n fp fc a b s) k i)) p' x' r'
  | 0, i, c, p, x, r => ⟨p, x, r, rfl⟩
  | k + 1, i, c, p, x, r => by
    rw [mSeps_L27]
    by_cases c1 : (mSep n mh p x r (nI a) (nI b) (nI i)).1 = 0
    · rw [if_pos c1]
      obtain ⟨p', x', r', e⟩ := mSeps_L27_eq hn h mp mx mr a c4 p4 x4 r4 b c16 p16 x16 r16 kk k (i + 1) c (mSep n mh p x r (nI a) (nI b) (nI i)).2.1 (mSep n mh p x r (nI a) (nI b) (nI i)).2.2.1 (mSep n mh p x r (nI a) (nI b) (nI i)).2.2.2
      refine ⟨p', x', r', ?_⟩
      rw [e]
      have : gSep n fp fc a b i = 0 := by unfold gSep; rw [if_neg (by rw [(mSep_1 hn h p x r (nI a) (nI b) i).mp c1]; decide)]
      show _ = kk (nI (c + (gSep n fp fc a b i + _))) p' x' r'
      rw [this, Nat.zero_add]
    · rw [if_neg c1, nI_1]
      obtain ⟨p', x', r', e⟩ := mSeps_L27_eq hn h mp mx mr a c4 p4 x4 r4 b c16 p16 x16 r16 kk k (i + 1) (c + 1) (mSep n mh p x r (nI a) (nI b) (nI i)).2.1 (mSep n mh p x r (nI a) (nI b) (nI i)).2.2.1 (mSep n mh p x r (nI a) (nI b) (nI i)).2.2.2
      refine ⟨p', x', r', ?_⟩
      rw [e]
      have : gSep n fp fc a b i = 1 := by
        unfold gSep
        rw [if_pos]
        rcases q : sepB n fp fc (nI a) (nI b) i with _ | _
        · exact absurd ((mSep_1 hn h p x r (nI a) (nI b) i).mpr q) c1
        · rfl
      show _ = kk (nI (c + (gSep n fp fc a b i + _))) p' x' r'
      rw [this, Nat.add_assoc]
theorem mSeps_L16_eq (hn : n ≤ 6) (h : gRel n fp fc mh) (mp mx mr : Nat → Int32) (a : Nat) (c4 : Int32) (p4 x4 r4 : Nat → Int32) (kk : Int32 → (Nat → Int32) → (Nat → Int32) → (Nat → Int32) → Int32 × (Nat → Int32) × (Nat → Int32) × (Nat → Int32)) : ∀ (k i c : Nat) (p x r : Nat → Int32),
    ∃ p' x' r', mSeps_L16 n mh mp mx mr a c4 p4 x4 r4 kk k i (nI c) p x r = kk (nI (c + sm (fun b => sm (fun s => gSep n fp fc a b s) (2 ^ n) 0) k i)) p' x' r'
  | 0, i, c, p, x, r => ⟨p, x, r, rfl⟩
  | k + 1, i, c, p, x, r => by
    rw [mSeps_L16]
    obtain ⟨p1, x1, r1, e1⟩ := mSeps_L27_eq hn h mp mx mr a c4 p4 x4 r4 i (nI c) p x r (fun w0 w1 w2 w3 => mSeps_L16 n mh mp mx mr a c4 p4 x4 r4 kk k (i + 1) w0 w1 w2 w3) (2 ^ n) 0 c p x r
    rw [e1]
    obtain ⟨p', x', r', e⟩ := mSeps_L16_eq hn h mp mx mr a c4 p4 x4 r4 kk k (i + 1) (c + sm (fun s => gSep n fp fc a i s) (2 ^ n) 0) p1 x1 r1
    refine ⟨p', x', r', ?_⟩
    rw [e]
    show _ = kk (nI (c + (sm (fun s => gSep n fp fc a i s) (2 ^ n) 0 + _))) p' x' r'
    rw [Nat.add_assoc]
theorem mSeps_L4_eq (hn : n ≤ 6) (h : gRel n fp fc mh) (mp mx mr : Nat → Int32) : ∀ (k i c : Nat) (p x r : Nat → Int32),
    (mSeps_L4 n mh mp mx mr k i (nI c) p x r).1 = nI (c + sm (fun a => sm (fun b => sm (fun s => gSep n fp fc a b s) (2 ^ n) 0) (n - (a + 1)) (a + 1)) k i)
  | 0, i, c, p, x, r => rfl
  | k + 1, i, c, p, x, r => by
    rw [mSeps_L4]
    obtain ⟨p1, x1, r1, e1⟩ := mSeps_L16_eq hn h mp mx mr i (nI c) p x r (fun w0 w1 w2 w3 => mSeps_L4 n mh mp mx mr k (i + 1) w0 w1 w2 w3) (n - (i + 1)) (i + 1) c p x r
    rw [e1, mSeps_L4_eq hn h mp mx mr k (i + 1) _ p1 x1 r1]
    show _ = nI (c + (sm (fun b => sm (fun s => gSep n fp fc i b s) (2 ^ n) 0) (n - (i + 1)) (i + 1) + _))
    rw [Nat.add_assoc]
theorem eq_separations (hn : n ≤ 6) (h : gRel n fp fc mh) (mp mx mr : Nat → Int32) : (xSeps n fp fc (-1)).1 = (mSeps n mh mp mx mr).1 := by
  unfold xSeps mSeps
  rw [if_pos rfl, ← nI_0, xSeps_L12_eq hn (-1) (2 ^ n) 0 0 (by omega), mSeps_L4_eq hn h mp mx mr n 0 0 mp mx mr]
  have e : sm (fun s => sm (fun u => sm (fun w => gSep n fp fc u w s) (n - (u + 1)) (u + 1)) n 0) (2 ^ n) 0 = sm (fun a => sm (fun b => sm (fun s => gSep n fp fc a b s) (2 ^ n) 0) (n - (a + 1)) (a + 1)) n 0 :=
    (sm_swap (fun s u => sm (fun w => gSep n fp fc u w s) (n - (u + 1)) (u + 1)) n 0 (2 ^ n) 0).trans (sm_congr n 0 (fun u _ _ => sm_swap (fun s w => gSep n fp fc u w s) (n - (u + 1)) (u + 1) (2 ^ n) 0))
  rw [e]
/-! collisions -/
def kP (mh : Nat → Int32) (a b c : Nat) : Prop := ¬ mh (6 * a + c) = 0 ∧ ¬ mh (6 * b + c) = 0 ∧ mh (6 * a + b) = 0 ∧ mh (6 * b + a) = 0
theorem mColl1_eq {a b c : Nat} (ha : a < 6) (hb : b < 6) (hc : c < 6) : (mColl1 mh (nI a) (nI c) (nI b) = 0 ∧ ¬ kP mh a b c) ∨ (mColl1 mh (nI a) (nI c) (nI b) = 1 ∧ kP mh a b c) := by
  unfold mColl1 kP
  rw [vz_ixC ha hc, vz_ixC hb hc, vz_ixC ha hb, vz_ixC hb ha]
  by_cases c1 : mh (6 * a + c) = 0
  · rw [if_pos c1]; exact Or.inl ⟨rfl, fun q => q.1 c1⟩
  · rw [if_neg c1]
    by_cases c2 : mh (6 * b + c) = 0
    · rw [if_pos c2]; exact Or.inl ⟨rfl, fun q => q.2.1 c2⟩
    · rw [if_neg c2]
      by_cases c3 : mh (6 * a + b) = 0
      · rw [if_pos c3]
        by_cases c4 : mh (6 * b + a) = 0
        · rw [if_pos c4]; exact Or.inr ⟨rfl, c1, c2, c3, c4⟩
        · rw [if_neg c4]; exact Or.inl ⟨rfl, fun q => c4 q.2.2.2⟩
      · rw [if_neg c3]; exact Or.inl ⟨rfl, fun q => c3 q.2.2.1⟩
/-- masks that say what the table says -/
def mskR (n : Nat) (fp fc mh : Nat → Int32) : Prop := (∀ v, v < n → ∀ u, bt (fp v) u = true ↔ u < n ∧ ¬ mh (6 * u + v) = 0) ∧ ∀ u, u < n → ∀ v, bt (fc u) v = true ↔ v < n ∧ ¬ mh (6 * u + v) = 0
theorem gRel.msk (h : gRel n fp fc mh) : mskR n fp fc mh := ⟨h.2.1, h.2.2.1⟩
theorem gStr_bt (hn : n ≤ 6) (h : mskR n fp fc mh) {a c : Nat} (ha : a < n) (hc : c < n) (b : Nat) : bt (gStr fp fc (nI a) (nI c)) b = true ↔ b < n ∧ b ≠ a ∧ kP mh a b c := by
  unfold gStr kP
  rw [nI_clamp (by omega), nI_clamp (by omega)]
  have hac := h.1 c hc a
  have hbc := h.1 c hc b
  have hba := h.1 a ha b
  have hab := h.2 a ha b
  by_cases c1 : bt (fp c) a = true
  · rw [if_neg (hHt (by omega) c1)]
    rcases Nat.lt_or_ge b 32 with hb | hb
    · rw [b_and, b_not _ hb, b_or, b_or, b_one (by omega), Bool.and_eq_true, Bool.not_eq_true', Bool.or_eq_false_iff, Bool.or_eq_false_iff, decide_eq_false_iff_not]
      have n1 : bt (fp a) b = false ↔ ¬ (b < n ∧ ¬ mh (6 * b + a) = 0) := by rw [← hba, Bool.not_eq_true]
      have n2 : bt (fc a) b = false ↔ ¬ (b < n ∧ ¬ mh (6 * a + b) = 0) := by rw [← hab, Bool.not_eq_true]
      rw [hbc, n1, n2]
      have hk := (hac.mp c1).2
      constructor
      · rintro ⟨⟨q1, q2⟩, ⟨q3, q4⟩, q5⟩
        exact ⟨q1, q5, hk, q2, Classical.not_not.mp (fun z => q4 ⟨q1, z⟩), Classical.not_not.mp (fun z => q3 ⟨q1, z⟩)⟩
      · rintro ⟨q1, q2, _, q3, q4, q5⟩
        exact ⟨⟨q1, q3⟩, ⟨fun z => z.2 q5, fun z => z.2 q4⟩, q2⟩
    · rw [b_big hb]
      exact ⟨fun q => (by cases q), fun q => (by omega)⟩
  · rw [if_pos (hHf (by omega) c1), b_0]
    exact ⟨fun q => (by cases q), fun q => absurd (hac.mpr ⟨ha, q.2.2.1⟩) c1⟩
noncomputable def kN (mh : Nat → Int32) (n a b c : Nat) : Nat := if bt (gStr mh mh 0 0) 99 = true then 0 else if (a < n ∧ b < n ∧ a ≠ b) ∧ mColl1 mh (nI a) (nI c) (nI b) = 1 then 1 else 0
theorem kN_eq {a b c : Nat} (hn : n ≤ 6) (ha : a < n) (hb : b < n) (hab : a ≠ b) (hc : c < n) : (kP mh a b c → kN mh n a b c = 1) ∧ (¬ kP mh a b c → kN mh n a b c = 0) := by
  unfold kN
  rw [b_big (show 32 ≤ 99 by decide), if_neg (by decide)]
  rcases mColl1_eq (mh := mh) (show a < 6 by omega) (show b < 6 by omega) (show c < 6 by omega) with ⟨e, hk⟩ | ⟨e, hk⟩
  · exact ⟨fun q => absurd q hk, fun _ => if_neg (fun z => by rw [e] at z; exact absurd z.2 (by decide))⟩
  · exact ⟨fun _ => if_pos ⟨⟨ha, hb, hab⟩, e⟩, fun q => absurd hk q⟩
theorem kP_sym {a b c : Nat} : kP mh a b c ↔ kP mh b a c := ⟨fun h => ⟨h.2.1, h.1, h.2.2.2, h.2.2.1⟩, fun h => ⟨h.2.1, h.1, h.2.2.2, h.2.2.1⟩⟩
theorem kN_out {a b c : Nat} (h : ¬ (a < n ∧ b < n ∧ a ≠ b)) : kN mh n a b c = 0 := by
  unfold kN
  rw [b_big (show 32 ≤ 99 by decide), if_neg (by decide), if_neg (fun z => h z.1)]
theorem kN_sym (hn : n ≤ 6) {c : Nat} (hc : c < n) (a b : Nat) : kN mh n a b c = kN mh n b a c := by
  by_cases h : a < n ∧ b < n ∧ a ≠ b
  · by_cases k : kP mh a b c
    · rw [(kN_eq hn h.1 h.2.1 h.2.2 hc).1 k, (kN_eq hn h.2.1 h.1 (Ne.symm h.2.2) hc).1 (kP_sym.mp k)]
    · rw [(kN_eq hn h.1 h.2.1 h.2.2 hc).2 k, (kN_eq hn h.2.1 h.1 (Ne.symm h.2.2) hc).2 (fun q => k (kP_sym.mp q))]
  · rw [kN_out h, kN_out (fun q => h ⟨q.2.1, q.1, Ne.symm q.2.2⟩)]
theorem xColl_L14_eq (hn : n ≤ 6) (h : mskR n fp fc mh) {c : Nat} (hc : c < n) (e4 : Int32) (kk : Int32 → Int32) : ∀ (k i e : Nat), i + k ≤ n → xColl_L14 n fp fc c e4 kk k i (nI e) = kk (nI (e + sm (fun a => sm (fun b => kN mh n a b c) n 0) k i))
  | 0, i, e, _ => rfl
  | k + 1, i, e, hk => by
    rw [xColl_L14, bc_eq (m := n) (by omega) (fun w q => ((gStr_bt hn h (by omega) hc w).mp q).1), nI_add, xColl_L14_eq hn h hc e4 kk k (i + 1) _ (by omega)]
    have e2 : sm (fun t => if bt (gStr fp fc (nI i) (nI c)) t = true then 1 else 0) n 0 = sm (fun b => kN mh n i b c) n 0 := by
      refine sm_congr n 0 (fun t _ ht => ?_)
      by_cases q : bt (gStr fp fc (nI i) (nI c)) t = true
      · rw [if_pos q]
        have := (gStr_bt hn h (by omega) hc t).mp q
        exact ((kN_eq hn (by omega) (by omega) (Ne.symm this.2.1) hc).1 this.2.2).symm
      · rw [if_neg q]
        by_cases r : i < n ∧ t < n ∧ i ≠ t
        · exact ((kN_eq hn r.1 r.2.1 r.2.2 hc).2 (fun z => q ((gStr_bt hn h (by omega) hc t).mpr ⟨r.2.1, Ne.symm r.2.2, z⟩))).symm
        · exact (kN_out r).symm
    show _ = kk (nI (e + (sm (fun b => kN mh n i b c) n 0 + _)))
    rw [cb_sm, e2, Nat.add_assoc]
theorem xColl_L4_eq (hn : n ≤ 6) (h : mskR n fp fc mh) : ∀ (k i e : Nat), i + k ≤ n → xColl_L4 n fp fc k i (nI e) = nI (e + sm (fun c => sm (fun a => sm (fun b => kN mh n a b c) n 0) n 0) k i) / 2
  | 0, i, e, _ => rfl
  | k + 1, i, e, hk => by
    rw [xColl_L4, xColl_L14_eq hn h (by omega) (nI e) _ n 0 e (by omega), xColl_L4_eq hn h k (i + 1) _ (by omega)]
    show _ = nI (e + (sm (fun a => sm (fun b => kN mh n a b i) n 0) n 0 + _)) / 2
    rw [Nat.add_assoc]
theorem mColl_L27_eq (hn : n ≤ 6) {c : Nat} (hc : c < n) (c4 : Int32) {a : Nat} (ha : a < n) (c14 : Int32) (kk : Int32 → Int32) : ∀ (k i e : Nat), a < i → i + k ≤ n → mColl_L27 n mh c c4 a c14 kk k i (nI e) = kk (nI (e + sm (fun b => kN mh n a b c) k i))
  | 0, i, e, _, _ => rfl
  | k + 1, i, e, hi, hk => by
    rw [mColl_L27]
    rcases mColl1_eq (mh := mh) (show a < 6 by omega) (show i < 6 by omega) (show c < 6 by omega) with ⟨q, hq⟩ | ⟨q, hq⟩
    · rw [if_pos q, mColl_L27_eq hn hc c4 ha c14 kk k (i + 1) e (by omega) (by omega)]
      show _ = kk (nI (e + (kN mh n a i c + _)))
      rw [(kN_eq hn ha (by omega) (by omega) hc).2 hq, Nat.zero_add]
    · rw [if_neg (by rw [q]; decide), nI_1, mColl_L27_eq hn hc c4 ha c14 kk k (i + 1) (e + 1) (by omega) (by omega)]
      show _ = kk (nI (e + (kN mh n a i c + _)))
      rw [(kN_eq hn ha (by omega) (by omega) hc).1 hq, Nat.add_assoc]
theorem mColl_L14_eq (hn : n ≤ 6) {c : Nat} (hc : c < n) (c4 : Int32) (kk : Int32 → Int32) : ∀ (k i e : Nat), i + k ≤ n → mColl_L14 n mh c c4 kk k i (nI e) = kk (nI (e + sm (fun a => sm (fun b => kN mh n a b c) (n - (a + 1)) (a + 1)) k i))
  | 0, i, e, _ => rfl
  | k + 1, i, e, hk => by
    rw [mColl_L14, mColl_L27_eq hn hc c4 (by omega) (nI e) _ (n - (i + 1)) (i + 1) e (by omega) (by omega), mColl_L14_eq hn hc c4 kk k (i + 1) _ (by omega)]
    show _ = kk (nI (e + (sm (fun b => kN mh n i b c) (n - (i + 1)) (i + 1) + _)))
    rw [Nat.add_assoc]
theorem mColl_L4_eq (hn : n ≤ 6) : ∀ (k i e : Nat), i + k ≤ n → mColl_L4 n mh k i (nI e) = nI (e + sm (fun c => sm (fun a => sm (fun b => kN mh n a b c) (n - (a + 1)) (a + 1)) n 0) k i)
  | 0, i, e, _ => rfl
  | k + 1, i, e, hk => by
    rw [mColl_L4, mColl_L14_eq hn (by omega) (nI e) _ n 0 e (by omega), mColl_L4_eq hn k (i + 1) _ (by omega)]
    show _ = nI (e + (sm (fun a => sm (fun b => kN mh n a b i) (n - (a + 1)) (a + 1)) n 0 + _))
    rw [Nat.add_assoc]
theorem sm_2 (f : Nat → Nat) : ∀ k i, sm (fun t => 2 * f t) k i = 2 * sm f k i
  | 0, _ => rfl
  | k + 1, i => by
    show 2 * f i + _ = 2 * (f i + _)
    rw [sm_2 f k (i + 1)]; omega
theorem kN_le (a b c : Nat) : kN mh n a b c ≤ 1 := by
  unfold kN
  split
  · omega
  · split <;> omega
theorem eq_collisions (hn : n ≤ 6) (h : mskR n fp fc mh) : xColl n fp fc = mColl n mh := by
  unfold xColl mColl
  rw [← nI_0, xColl_L4_eq hn h n 0 0 (by omega), mColl_L4_eq hn n 0 0 (by omega), Nat.zero_add, Nat.zero_add]
  have e : sm (fun c => sm (fun a => sm (fun b => kN mh n a b c) n 0) n 0) n 0 = 2 * sm (fun c => sm (fun a => sm (fun b => kN mh n a b c) (n - (a + 1)) (a + 1)) n 0) n 0 := by
    rw [← sm_2]
    exact sm_congr n 0 (fun c _ hc => sm_sym (fun a b => kN mh n a b c) (fun a b => kN_sym hn (by omega) a b) (fun a => kN_out (fun q => q.2.2 rfl)) n)
  have hb : sm (fun c => sm (fun a => sm (fun b => kN mh n a b c) (n - (a + 1)) (a + 1)) n 0) n 0 ≤ 216 := by
    have h1 : ∀ a c, sm (fun b => kN mh n a b c) (n - (a + 1)) (a + 1) ≤ 6 := fun a c => by
      have := sm_le (f := fun b => kN mh n a b c) (c := 1) (fun t => kN_le a t c) (n - (a + 1)) (a + 1)
      omega
    have h2 : ∀ c, sm (fun a => sm (fun b => kN mh n a b c) (n - (a + 1)) (a + 1)) n 0 ≤ 36 := fun c => by
      have := sm_le (c := 6) (fun t => h1 t c) n 0
      omega
    have := sm_le (c := 36) h2 n 0
    omega
  rw [e, show (2 : Int32) = nI 2 from rfl, pk_div (by omega) (by decide) (by decide)]
  congr 1
  omega
end CT
