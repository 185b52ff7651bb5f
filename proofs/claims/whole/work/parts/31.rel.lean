/-! class and reference hold the same graph: the answers that change nothing -/
def gRel (n : Nat) (fp fc mh : Nat → Int32) : Prop :=
  (∀ a b, a < 6 → b < 6 → ¬ mh (6 * a + b) = 0 → a < n ∧ b < n ∧ a ≠ b ∧ mh (6 * b + a) = 0) ∧ (∀ v, v < n → ∀ u, bt (fp v) u = true ↔ u < n ∧ ¬ mh (6 * u + v) = 0) ∧ (∀ u, u < n → ∀ v, bt (fc u) v = true ↔ v < n ∧ ¬ mh (6 * u + v) = 0) ∧ is01 mh
section RL
variable {n : Nat} {fp fc mh : Nat → Int32}
theorem gRel.anti (hn : n ≤ 6) (h : gRel n fp fc mh) (a b : Nat) (g : gM n mh a b) : ¬ gM n mh b a := fun g2 => g2.2.2 (h.1 a b (by have := g.1; omega) (by have := g.2.1; omega) g.2.2).2.2.2
theorem gRel.hasP (hn : n ≤ 6) (h : gRel n fp fc mh) {a b : Nat} (ha : a < n) (hb : b < n) : gHas fp (nI a) (nI b) = 0 ↔ mh (6 * a + b) = 0 := by
  unfold gHas
  rw [nI_clamp (by omega), hH0 _ (by omega)]
  have := h.2.1 b hb a
  constructor
  · intro h1
    refine Classical.byContradiction (fun h2 => ?_)
    rw [this.mpr ⟨ha, h2⟩] at h1; cases h1
  · intro h1
    rcases h2 : bt (fp b) a with _ | _
    · rfl
    · exact absurd h1 (this.mp h2).2
theorem gRel.joinP (hn : n ≤ 6) (h : gRel n fp fc mh) {a b : Nat} (ha : a < n) (hb : b < n) : gJoins fp (nI a) (nI b) = 0 ↔ mJoin mh (nI a) (nI b) = 0 := by
  unfold gJoins mJoin
  rw [vz_ixC (by omega) (by omega), vz_ixC (by omega) (by omega)]
  by_cases c : mh (6 * a + b) = 0
  · rw [if_pos ((h.hasP hn ha hb).mpr c), if_pos c]
    by_cases d : mh (6 * b + a) = 0
    · rw [if_pos ((h.hasP hn hb ha).mpr d), if_pos d]
    · rw [if_neg (fun e => d ((h.hasP hn hb ha).mp e)), if_neg d]
  · rw [if_neg (fun e => c ((h.hasP hn ha hb).mp e)), if_neg c]
theorem pair_cases (hn : n ≤ 6) (u v : Int32) : (xPair n u v = 0 ∧ mPair n u v = 0) ∨ (¬ xPair n u v = 0 ∧ ¬ mPair n u v = 0 ∧ ∃ a b, a < n ∧ b < n ∧ a ≠ b ∧ u = nI a ∧ v = nI b) := by
  by_cases h : xPair n u v = 0
  · exact Or.inl ⟨h, h⟩
  · obtain ⟨h1, h2, h3⟩ := xPair_in hn h
    obtain ⟨a, ha, rfl⟩ := vp_in_of h1 (by omega)
    obtain ⟨b, hb, rfl⟩ := vp_in_of h2 (by omega)
    exact Or.inr ⟨h, h, a, b, ha, hb, fun e => h3 (by rw [e]), rfl, rfl⟩
theorem node_cases (hn : n ≤ 6) (u : Int32) : (xNode n u = 0 ∧ mNode n u = 0) ∨ (¬ xNode n u = 0 ∧ ¬ mNode n u = 0 ∧ ∃ a, a < n ∧ u = nI a) := by
  by_cases h : xNode n u = 0
  · exact Or.inl ⟨h, h⟩
  · obtain ⟨a, ha, rfl⟩ := vp_in_of (xNode_in hn h) (by omega)
    exact Or.inr ⟨h, h, a, ha, rfl⟩
theorem xNode_nI (hn : n ≤ 6) {a : Nat} (ha : a < n) : ¬ xNode n (nI a) = 0 := by
  unfold xNode
  rw [if_neg (nI_pos (by omega)), if_neg (nI_ge ha (by omega))]
  decide
theorem xPair_nI (hn : n ≤ 6) {a b : Nat} (ha : a < n) (hb : b < n) (hab : a ≠ b) : ¬ xPair n (nI a) (nI b) = 0 := by
  unfold xPair
  rw [if_neg (xNode_nI hn ha), if_neg (xNode_nI hn hb), if_neg (fun e => hab ((nI_eq (by omega) (by omega)).mp e))]
  decide
theorem eq_drawn (hn : n ≤ 6) (h : gRel n fp fc mh) (u v : Int32) : xDrawn n fp u v = mDrawn n mh u v := by
  unfold xDrawn mDrawn
  rcases pair_cases hn u v with ⟨h1, h2⟩ | ⟨h1, h2, a, b, ha, hb, hab, rfl, rfl⟩
  · rw [if_pos h1, if_pos h2]
  · rw [if_neg h1, if_neg h2, vz_ixC (by omega) (by omega)]
    by_cases c : mh (6 * a + b) = 0
    · rw [if_pos ((h.hasP hn ha hb).mpr c), if_pos c]
    · rw [if_neg (fun e => c ((h.hasP hn ha hb).mp e)), if_neg c]
/-- adding a bit that isn't there -/
theorem add_bit {x : Int32} {i : Nat} (hi : i < 32) (h : bt x i = false) : x + (1 : Int32) <<< (nI i &&& 31) = x ||| (1 : Int32) <<< (nI i &&& 31) := by
  apply Int32.toBitVec_inj.mp
  rw [Int32.toBitVec_add, Int32.toBitVec_or]
  apply BitVec.add_eq_or_of_and_eq_zero
  apply BitVec.eq_of_getLsbD_eq
  intro j hj
  rw [BitVec.getLsbD_and]
  show (bt x j && bt ((1 : Int32) <<< (nI i &&& 31)) j) = _
  rw [b_one hi, BitVec.getLsbD_zero]
  by_cases c : j = i
  · rw [c, h]; rfl
  · rw [decide_eq_false c, Bool.and_false]
theorem mParents_L14_bt (hn : n ≤ 6) {v : Nat} (hv : v < 6) : ∀ (k i : Nat) (st : Int32), i + k ≤ 6 → (∀ w, bt st w = true → w < i) → ∀ w, bt (mParents_L14 n mh (nI v) k i st) w = true ↔ bt st w = true ∨ (i ≤ w ∧ w < i + k ∧ ¬ mh (6 * w + v) = 0)
  | 0, i, st, _, _, w => ⟨fun h => Or.inl h, fun h => h.elim id (fun h => by omega)⟩
  | k + 1, i, st, hk, hs, w => by
    rw [mParents_L14, vz_ixC (by omega) hv]
    have hbi : bt st i = false := by
      rcases hb : bt st i with _ | _
      · rfl
      · exact absurd (hs i hb) (by omega)
    by_cases c : mh (6 * i + v) = 0
    · rw [if_pos c, mParents_L14_bt hn hv k (i + 1) st (by omega) (fun w h => by have := hs w h; omega) w]
      constructor
      · rintro (h | h)
        · exact Or.inl h
        · exact Or.inr ⟨by omega, by omega, h.2.2⟩
      · rintro (h | h)
        · exact Or.inl h
        · refine Or.inr ⟨?_, by omega, h.2.2⟩
          by_cases d : w = i
          · rw [d] at h; exact absurd c h.2.2
          · omega
    · rw [if_neg c, add_bit (by omega) hbi, mParents_L14_bt hn hv k (i + 1) _ (by omega) (fun w h => ?_) w]
      · rw [b_or, Bool.or_eq_true, b_one (by omega), decide_eq_true_iff]
        constructor
        · rintro ((h | h) | h)
          · exact Or.inl h
          · rw [h]; exact Or.inr ⟨by omega, by omega, c⟩
          · exact Or.inr ⟨by omega, by omega, h.2.2⟩
        · rintro (h | h)
          · exact Or.inl (Or.inl h)
          · by_cases d : w = i
            · exact Or.inl (Or.inr d)
            · exact Or.inr ⟨by omega, by omega, h.2.2⟩
      · rw [b_or, Bool.or_eq_true, b_one (by omega), decide_eq_true_iff] at h
        rcases h with h | h
        · have := hs w h; omega
        · omega
theorem b_iff {x y : Int32} (h : ∀ w, bt x w = true ↔ bt y w = true) : x = y := b_le_ext (fun w => (h w).mp) (fun w => (h w).mpr)
theorem par_nI (hn : n ≤ 6) (h : gRel n fp fc mh) {v : Nat} (hv : v < n) : mParents n mh (nI v) = fp v := by
  unfold mParents
  rw [if_neg (show ¬ mNode n (nI v) = 0 from xNode_nI hn hv)]
  refine b_iff (fun w => ?_)
  rw [mParents_L14_bt hn (by omega) n 0 0 (by omega) (fun w h => by rw [b_0] at h; cases h) w, h.2.1 v hv w, b_0]
  constructor
  · rintro (h | h)
    · cases h
    · exact ⟨by omega, h.2.2⟩
  · intro h; exact Or.inr ⟨by omega, by omega, h.2⟩
theorem eq_parents (hn : n ≤ 6) (h : gRel n fp fc mh) (v : Int32) : xParents n fp v = mParents n mh v := by
  rcases node_cases hn v with ⟨h1, h2⟩ | ⟨h1, h2, a, ha, rfl⟩
  · unfold xParents mParents; rw [if_pos h1, if_pos h2]
  · rw [par_nI hn h ha]
    unfold xParents
    rw [if_neg h1, nI_clamp (by omega)]
theorem gRel.gC (h : gRel n fp fc mh) : ∀ u v, u < n → (bt (fc u) v = true ↔ gM n mh u v) := fun u v hu => ⟨fun q => ⟨hu, ((h.2.2.1 u hu v).mp q).1, ((h.2.2.1 u hu v).mp q).2⟩, fun q => (h.2.2.1 u hu v).mpr ⟨q.2.1, q.2.2⟩⟩
theorem gRel.gP (h : gRel n fp fc mh) : ∀ v u, v < n → (bt (fp v) u = true ↔ gM n mh u v) := fun v u hv => ⟨fun q => ⟨((h.2.1 v hv u).mp q).1, hv, ((h.2.1 v hv u).mp q).2⟩, fun q => (h.2.1 v hv u).mpr ⟨q.1, q.2.2⟩⟩
theorem gM_in : ∀ a b, gM n mh a b → a < n ∧ b < n := fun _ _ h => ⟨h.1, h.2.1⟩
theorem reach_nI (hn : n ≤ 6) (h : gRel n fp fc mh) {u : Nat} (hu : u < n) : gReach n fc (nI u) = mReach n mh (nI u) := b_iff (fun w => by
  rw [gReach_spec hn hu gM_in h.gC w, mReach_spec hn hu gM_in (fun a b ha hb => ⟨fun q => ⟨ha, hb, q⟩, fun q => q.2.2⟩) w])
theorem eq_reached (hn : n ≤ 6) (h : gRel n fp fc mh) (u : Int32) : xReached n fc u = mReached n mh u := by
  unfold xReached mReached
  rcases node_cases hn u with ⟨h1, h2⟩ | ⟨h1, h2, a, ha, rfl⟩
  · rw [if_pos h1, if_pos h2]
  · rw [if_neg h1, if_neg h2, reach_nI hn h ha]
theorem eq_covered (hn : n ≤ 6) (h : gRel n fp fc mh) (u v : Int32) : xCov n fp u v = mCov n mh u v := by
  unfold xCov mCov
  rw [eq_drawn hn h]
  by_cases c : mDrawn n mh u v = 0
  · rw [if_pos c, if_pos c]
  · rw [if_neg c, if_neg c]
    have hp : ¬ mPair n u v = 0 := fun e => c (by unfold mDrawn; rw [if_pos e])
    obtain ⟨h1, h2, -⟩ := mPair_in hn hp
    obtain ⟨a, ha, rfl⟩ := vp_in_of h1 (by omega)
    obtain ⟨b, hb, rfl⟩ := vp_in_of h2 (by omega)
    rw [par_nI hn h ha, par_nI hn h hb, nI_clamp (by omega), nI_clamp (by omega)]
theorem xAround_bt (hn : n ≤ 6) (h : gRel n fp fc mh) {u : Nat} (hu : u < n) : ∀ (k i : Nat) (f : Int32), i + k ≤ n → ∀ w, bt (xAround_L32 n fp fc (nI u) k i f) w = true ↔ (bt f w = true ∨ ∃ c, i ≤ c ∧ c < i + k ∧ gM n mh u c ∧ gM n mh w c) ∧ w ≠ u
  | 0, i, f, _, w => by
    rw [xAround_L32, b_clr f (by omega)]
    exact ⟨fun q => ⟨Or.inl q.1, q.2⟩, fun q => ⟨q.1.elim id (fun ⟨c, h1, h2, _⟩ => by omega), q.2⟩⟩
  | k + 1, i, f, hk, w => by
    rw [xAround_L32]
    by_cases c : mh (6 * u + i) = 0
    · rw [if_pos ((h.hasP hn hu (by omega)).mpr c), xAround_bt hn h hu k (i + 1) f (by omega) w]
      refine and_congr_left (fun _ => or_congr_right ⟨fun ⟨d, h1, h2, h3⟩ => ⟨d, by omega, by omega, h3⟩, fun ⟨d, h1, h2, h3⟩ => ⟨d, ?_, by omega, h3⟩⟩)
      by_cases e : d = i
      · rw [e] at h3; exact absurd c h3.1.2.2
      · omega
    · rw [if_neg (fun e => c ((h.hasP hn hu (by omega)).mp e)), xAround_bt hn h hu k (i + 1) _ (by omega) w, nI_clamp (by omega), b_or, Bool.or_eq_true, h.gP i w (by omega)]
      refine and_congr_left (fun _ => ?_)
      constructor
      · rintro ((q | q) | ⟨d, h1, h2, h3⟩)
        · exact Or.inl q
        · exact Or.inr ⟨i, by omega, by omega, ⟨hu, by omega, c⟩, q⟩
        · exact Or.inr ⟨d, by omega, by omega, h3⟩
      · rintro (q | ⟨d, h1, h2, h3⟩)
        · exact Or.inl (Or.inl q)
        · by_cases e : d = i
          · rw [e] at h3; exact Or.inl (Or.inr h3.2)
          · exact Or.inr ⟨d, by omega, by omega, h3⟩
theorem mAround_bt (hn : n ≤ 6) (h : gRel n fp fc mh) {u : Nat} (hu : u < n) : ∀ (k i : Nat) (f : Int32), i + k ≤ n → ∀ w, bt (mAround_L18 n mh (nI u) k i f) w = true ↔ (bt f w = true ∨ ∃ c, i ≤ c ∧ c < i + k ∧ gM n mh u c ∧ (w = c ∨ gM n mh w c)) ∧ w ≠ u
  | 0, i, f, _, w => by
    rw [mAround_L18, b_clr f (by omega)]
    exact ⟨fun q => ⟨Or.inl q.1, q.2⟩, fun q => ⟨q.1.elim id (fun ⟨c, h1, h2, _⟩ => by omega), q.2⟩⟩
  | k + 1, i, f, hk, w => by
    rw [mAround_L18, vz_ixC (by omega) (by omega)]
    by_cases c : mh (6 * u + i) = 0
    · rw [if_pos c, mAround_bt hn h hu k (i + 1) f (by omega) w]
      refine and_congr_left (fun _ => or_congr_right ⟨fun ⟨d, h1, h2, h3⟩ => ⟨d, by omega, by omega, h3⟩, fun ⟨d, h1, h2, h3⟩ => ⟨d, ?_, by omega, h3⟩⟩)
      by_cases e : d = i
      · rw [e] at h3; exact absurd c h3.1.2.2
      · omega
    · rw [if_neg c, mAround_bt hn h hu k (i + 1) _ (by omega) w, par_nI hn h (by omega), b_or, b_or, Bool.or_eq_true, Bool.or_eq_true, h.gP i w (by omega), b_one (by omega), decide_eq_true_iff]
      refine and_congr_left (fun _ => ?_)
      constructor
      · rintro (((q | q) | q) | ⟨d, h1, h2, h3⟩)
        · exact Or.inl q
        · exact Or.inr ⟨i, by omega, by omega, ⟨hu, by omega, c⟩, Or.inl q⟩
        · exact Or.inr ⟨i, by omega, by omega, ⟨hu, by omega, c⟩, Or.inr q⟩
        · exact Or.inr ⟨d, by omega, by omega, h3⟩
      · rintro (q | ⟨d, h1, h2, h3⟩)
        · exact Or.inl (Or.inl (Or.inl q))
        · by_cases e : d = i
          · rw [e] at h3
            rcases h3.2 with g | g
            · exact Or.inl (Or.inl (Or.inr g))
            · exact Or.inl (Or.inr g)
          · exact Or.inr ⟨d, by omega, by omega, h3⟩
theorem eq_around (hn : n ≤ 6) (h : gRel n fp fc mh) (u : Int32) : xAround n fp fc u = mAround n mh u := by
  unfold xAround mAround
  rcases node_cases hn u with ⟨h1, h2⟩ | ⟨h1, h2, a, ha, rfl⟩
  · rw [if_pos h1, if_pos h2]
  · rw [if_neg h1, if_neg h2, par_nI hn h ha, nI_clamp (by omega)]
    refine b_iff (fun w => ?_)
    rw [xAround_bt hn h ha n 0 _ (by omega) w, mAround_bt hn h ha n 0 _ (by omega) w, b_or, Bool.or_eq_true]
    refine and_congr_left (fun _ => ?_)
    constructor
    · rintro ((q | q) | ⟨c, h1, h2, h3⟩)
      · exact Or.inl q
      · have g := (h.gC a w ha).mp q
        exact Or.inr ⟨w, by omega, by have := g.2.1; omega, g, Or.inl rfl⟩
      · exact Or.inr ⟨c, h1, h2, h3.1, Or.inr h3.2⟩
    · rintro (q | ⟨c, h1, h2, h3, h4⟩)
      · exact Or.inl (Or.inl q)
      · rcases h4 with e | e
        · rw [← e] at h3; exact Or.inl (Or.inr ((h.gC a w ha).mpr h3))
        · exact Or.inr ⟨c, h1, h2, h3, e⟩
/-- SEPARATED -/
theorem eq_separated (hn : n ≤ 6) (h : gRel n fp fc mh) (mp mx mr : Nat → Int32) (x0 y0 set : Int32) : xSep n fp fc x0 y0 set = (mSep n mh mp mx mr x0 y0 set).1 := by
  unfold xSep mSep
  rcases pair_cases hn x0 y0 with ⟨h1, h2⟩ | ⟨h1, h2, a, b, ha, hb, hab, rfl, rfl⟩
  · rw [if_pos h1, if_pos h2]
  · rw [if_neg h1, if_neg h2]
    by_cases c1 : set < 0
    · rw [if_pos c1, if_pos c1]
    · rw [if_neg c1, if_neg c1]
      by_cases c2 : (1 : Int32) <<< (nI n &&& 31) ≤ set
      · rw [if_pos c2, if_pos c2]
      · rw [if_neg c2, if_neg c2]
        by_cases c3 : bt set a = true
        · rw [if_neg (hHt (by omega) c3), if_pos ((b_at1 set (by omega)).mpr c3)]
        · rw [if_pos (hHf (by omega) c3), if_neg (fun e => c3 ((b_at1 set (by omega)).mp e))]
          by_cases c4 : bt set b = true
          · rw [if_neg (hHt (by omega) c4), if_pos ((b_at1 set (by omega)).mpr c4)]
          · rw [if_pos (hHf (by omega) c4), if_neg (fun e => c4 ((b_at1 set (by omega)).mp e))]
            obtain ⟨-, h01, hiff⟩ := mAllT_spec hn mh mp mx mr ha hb hab set
            have ho := gOpen_spec (set := set) hn ha hab gM_in (h.anti hn) h.gP h.gC
            show _ = (mAllT n mh mp mx mr (nI a) (nI b) set).1
            by_cases c5 : bt (gOpen n fp fc (nI a) set) b = true
            · rw [if_neg (hHt (by omega) c5)]
              exact (hiff.mpr (by
                obtain ⟨w, m, e1, e2, e3, e4⟩ := ho.mp c5
                exact ⟨w, m, e1, e2, e3, e4⟩)).symm
            · rw [if_pos (hHf (by omega) c5)]
              rcases h01 with e | e
              · obtain ⟨w, m, e1, e2, e3, e4⟩ := hiff.mp e
                exact absurd (ho.mpr ⟨w, m, e1, e2, e3, e4⟩) c5
              · exact e.symm
end RL
