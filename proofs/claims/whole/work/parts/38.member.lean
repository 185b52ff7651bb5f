/-! a code is a member in the class just when it is in the reference -/
section MB
variable {n : Nat} {fp fc mh : Nat → Int32}
theorem and_bit {x : Int32} {t : Nat} (ht : t < 32) : x &&& (1 : Int32) <<< (nI t &&& 31) = 0 ↔ bt x t = false := by
  rw [b_eq0]
  constructor
  · intro h
    have := h t
    rw [b_and, b_one ht, decide_eq_true rfl, Bool.and_true] at this
    exact this
  · intro h i
    rw [b_and, b_one ht]
    by_cases c : i = t
    · rw [c, h]; rfl
    · rw [decide_eq_false c, Bool.and_false]
theorem gEmpty_L2_eq (fq0 fd0 : Nat → Int32) : ∀ (k i : Nat) (q r : Nat → Int32), i + k ≤ 6 → ∀ v, (i ≤ v → v < i + k → (gEmpty_L2 n fq0 fd0 k i q r).1 v = 0 ∧ (gEmpty_L2 n fq0 fd0 k i q r).2 v = 0) ∧ (v < i → (gEmpty_L2 n fq0 fd0 k i q r).1 v = q v ∧ (gEmpty_L2 n fq0 fd0 k i q r).2 v = r v)
  | 0, i, q, r, _, v => ⟨fun h1 h2 => by omega, fun _ => ⟨rfl, rfl⟩⟩
  | k + 1, i, q, r, h, v => by
    rw [gEmpty_L2, nI_clamp (by omega)]
    have ih := gEmpty_L2_eq fq0 fd0 k (i + 1) (upd q i 0) (upd r i 0) (by omega) v
    refine ⟨fun h1 h2 => ?_, fun h1 => ?_⟩
    · by_cases c : v = i
      · have := ih.2 (by omega)
        rw [c] at this ⊢
        rw [pk_us, pk_us] at this
        exact this
      · exact ih.1 (by omega) (by omega)
    · have := ih.2 (by omega)
      rw [pk_un (by omega), pk_un (by omega)] at this
      exact this
theorem msk_empty (hn : n ≤ 6) (fq fd : Nat → Int32) : mskR n (gEmpty n fq fd).1 (gEmpty n fq fd).2 (fun _ => 0) := by
  have h := gEmpty_L2_eq (n := n) fq fd n 0 fq fd (by omega)
  refine ⟨fun v hv u => ?_, fun u hu v => ?_⟩
  · rw [gEmpty, ((h v).1 (by omega) (by omega)).1, b_0]
    exact ⟨fun q => (by cases q), fun q => absurd rfl q.2⟩
  · rw [gEmpty, ((h u).1 (by omega) (by omega)).2, b_0]
    exact ⟨fun q => (by cases q), fun q => absurd rfl q.2⟩
theorem kMember_L40_eq (hn : n ≤ 6) {fq0 fd0 fl fh : Nat → Int32} {dc cbb kb kc : Int32} {L : List (Nat × Nat)} (hL : L.length ≤ 9) (hm : ∀ j, j < L.length → (L.getD j (0, 0)).1 < n ∧ (L.getD j (0, 0)).2 < n) (hl : ∀ j, j < L.length → fl j = nI (L.getD j (0, 0)).1 ∧ fh j = nI (L.getD j (0, 0)).2) {w : Nat} (hw : w < 2 ^ 31) : ∀ (k i : Nat) (fq fd t : Nat → Int32), i + k = L.length → mskR n fq fd t →
    ∃ fq2 fd2, mskR n fq2 fd2 (tbl w L.length i (L.drop i) t) ∧ kMember_L40 n fp fc fq0 fd0 fl fh L.length dc cbb kb kc (nI w) k i fq fd = (if gLike n fq2 fd2 fp fc = 0 then (0, fq2, fd2) else (if gRing n fq2 = 0 then (1, fq2, fd2) else (0, fq2, fd2)))
  | 0, i, fq, fd, t, h, hr => by
    refine ⟨fq, fd, ?_, ?_⟩
    · rw [List.drop_eq_nil_of_le (by omega)]; exact hr
    · rw [kMember_L40]
  | k + 1, i, fq, fd, t, h, hr => by
    have hi : i < L.length := by omega
    rw [kMember_L40, drop_cons hi, nI_clamp (by omega), (hl i hi).1, (hl i hi).2]
    have hb := and_bit (x := nI w) (show L.length - 1 - i < 32 by omega)
    rw [nI_bt hw] at hb
    unfold kBitAt
    rw [sub_ix hi]
    show ∃ fq2 fd2, mskR n fq2 fd2 (tbl w L.length (i + 1) (L.drop (i + 1)) (upd t (ixq (w.testBit (L.length - 1 - i)) (L.getD i (0, 0))) 1)) ∧ _
    unfold ixq
    by_cases c : w.testBit (L.length - 1 - i) = true
    · rw [if_pos c, if_neg (fun q => by rw [hb.mp q] at c; cases c)]
      exact kMember_L40_eq hn hL hm hl hw k (i + 1) _ _ _ (by omega) (msk_put hn hr (hm i hi).2 (hm i hi).1)
    · have c2 : w.testBit (L.length - 1 - i) = false := by simpa using c
      rw [if_neg c, if_pos (hb.mpr c2)]
      exact kMember_L40_eq hn hL hm hl hw k (i + 1) _ _ _ (by omega) (msk_put hn hr (hm i hi).1 (hm i hi).2)
/-- the same collisions in the drawn graph and in the table of code w -/
def likeW (n : Nat) (mh : Nat → Int32) (w : Nat) : Prop := ∀ c a b, c < n → a < b → b < n → (kP mh a b c ↔ kP (tW n mh w) a b c)
theorem kMember_eq (hn : n ≤ 6) (h : gRel n fp fc mh) {fq fd fl fh : Nat → Int32} {P : Nat} {dc cbb kb kc : Int32} (hp : pRel n fp fc mh P dc cbb fl fh) {w : Nat} (hw : w < 2 ^ 31) :
    ((kMember n fp fc fq fd fl fh P dc cbb kb kc (nI w)).1 = 0 ∨ (kMember n fp fc fq fd fl fh P dc cbb kb kc (nI w)).1 = 1) ∧ (¬ (kMember n fp fc fq fd fl fh P dc cbb kb kc (nI w)).1 = 0 ↔ nI w &&& kb = kc ∧ (nI w ^^^ dc) &&& cbb = 0 ∧ likeW n mh w ∧ mRing n (tW n mh w) = 0) := by
  obtain ⟨rfl, h9, -, -, hl⟩ := hp
  unfold kMember
  by_cases c1 : nI w &&& kb = kc
  · rw [if_pos c1]
    by_cases c2 : (nI w ^^^ dc) &&& cbb = 0
    · rw [if_pos c2]
      obtain ⟨fq2, fd2, hm, e⟩ := kMember_L40_eq (fp := fp) (fc := fc) (fq0 := fq) (fd0 := fd) (dc := dc) (cbb := cbb) (kb := kb) (kc := kc) hn h9 (fun j hj => by have := pl_mem (mh := mh) hj; omega) hl hw (plO mh n n 0).length 0 (gEmpty n fq fd).1 (gEmpty n fq fd).2 (fun _ => 0) (by omega) (msk_empty hn fq fd)
      rw [e]
      have hT : mskR n fq2 fd2 (tW n mh w) := hm
      have hlk := gLike_eq hn h.msk hT
      have hrg := ring_same hn (show maskOf n fq2 (tW n mh w) from hT.1)
      by_cases c3 : gLike n fq2 fd2 fp fc = 0
      · rw [if_pos c3]
        exact ⟨Or.inl rfl, ⟨fun q => absurd rfl q, fun q => absurd c3 (hlk.mpr q.2.2.1)⟩⟩
      · rw [if_neg c3]
        by_cases c4 : gRing n fq2 = 0
        · rw [if_pos c4]
          exact ⟨Or.inr rfl, ⟨fun _ => ⟨c1, c2, hlk.mp c3, by rw [← hrg]; exact c4⟩, fun _ => by show ¬ (1 : Int32) = 0; decide⟩⟩
        · rw [if_neg c4]
          exact ⟨Or.inl rfl, ⟨fun q => absurd rfl q, fun q => absurd (hrg.trans q.2.2.2) c4⟩⟩
    · rw [if_neg c2]
      exact ⟨Or.inl rfl, ⟨fun q => absurd rfl q, fun q => absurd q.2.1 c2⟩⟩
  · rw [if_neg c1]
    exact ⟨Or.inl rfl, ⟨fun q => absurd rfl q, fun q => absurd q.1 c1⟩⟩
/-- what is known -/
def kRel (n : Nat) (mh mk : Nat → Int32) (kb kc : Int32) : Prop :=
  is01 mk ∧ (∀ a b, a < 6 → b < 6 → ¬ mk (6 * a + b) = 0 → a < n ∧ b < n ∧ a ≠ b ∧ ¬ mJoin mh (nI a) (nI b) = 0 ∧ mk (6 * b + a) = 0) ∧
  (∀ j u v, j < (plO mh n n 0).length → (plO mh n n 0).getD j (0, 0) = (u, v) → (bt kb ((plO mh n n 0).length - 1 - j) = true ↔ ¬ mk (6 * u + v) = 0 ∨ ¬ mk (6 * v + u) = 0) ∧ (bt kc ((plO mh n n 0).length - 1 - j) = true ↔ ¬ mk (6 * v + u) = 0)) ∧
  ∀ t, (plO mh n n 0).length ≤ t → bt kb t = false ∧ bt kc t = false
theorem known_eq (hn : n ≤ 6) {mk : Nat → Int32} {kb kc : Int32} (hP : (plO mh n n 0).length ≤ 9) (hk : kRel n mh mk kb kc) {w : Nat} (hw : w < 2 ^ 31) : nI w &&& kb = kc ↔ ∀ x, x < 36 → ¬ mk x = 0 → ¬ tW n mh w x = 0 := by
  constructor
  · intro h x hx hmx
    obtain ⟨a, b, ha, hb, rfl⟩ : ∃ a b, a < 6 ∧ b < 6 ∧ x = 6 * a + b := ⟨x / 6, x % 6, by omega, by omega, by omega⟩
    obtain ⟨h1, h2, h3, h4, h5⟩ := hk.2.1 a b ha hb hmx
    rcases Nat.lt_or_ge a b with g | g
    · obtain ⟨j, hj, e⟩ := pl_find g h2 h4
      have hkj := hk.2.2.1 j a b hj e
      have hbit := b_eq.mp h ((plO mh n n 0).length - 1 - j)
      rw [b_and, hkj.1.mpr (Or.inl hmx), Bool.and_true, nI_bt hw] at hbit
      rw [(tW_up hn w hj e).1, hbit]
      rcases q : bt kc ((plO mh n n 0).length - 1 - j) with _ | _
      · rfl
      · exact absurd h5 (hkj.2.mp q)
    · have h4' : ¬ mJoin mh (nI b) (nI a) = 0 := by
        rw [mJoin_eq hn h2 h1]
        rw [mJoin_eq hn h1 h2] at h4
        exact fun q => h4 (fun z => q z.symm)
      obtain ⟨j, hj, e⟩ := pl_find (show b < a by omega) h1 h4'
      have hkj := hk.2.2.1 j b a hj e
      have hbit := b_eq.mp h ((plO mh n n 0).length - 1 - j)
      rw [b_and, hkj.1.mpr (Or.inr hmx), Bool.and_true, nI_bt hw, hkj.2.mpr hmx] at hbit
      exact (tW_up hn w hj e).2.mpr hbit
  · intro h
    refine b_ext' (fun t => ?_)
    rw [b_and, nI_bt hw]
    rcases Nat.lt_or_ge t (plO mh n n 0).length with ht | ht
    · obtain ⟨j, hj, rfl⟩ : ∃ j, j < (plO mh n n 0).length ∧ t = (plO mh n n 0).length - 1 - j := ⟨(plO mh n n 0).length - 1 - t, by omega, by omega⟩
      obtain ⟨u, v, e⟩ : ∃ u v, (plO mh n n 0).getD j (0, 0) = (u, v) := ⟨_, _, rfl⟩
      have hm := pl_mem hj
      rw [e] at hm
      have hm1 : u < v := hm.1
      have hm2 : v < n := hm.2.1
      have hkj := hk.2.2.1 j u v hj e
      rcases q : bt kb ((plO mh n n 0).length - 1 - j) with _ | _
      · rw [Bool.and_false]
        rcases r : bt kc ((plO mh n n 0).length - 1 - j) with _ | _
        · rfl
        · rw [hkj.1.mpr (Or.inr (hkj.2.mp r))] at q; cases q
      · rw [Bool.and_true]
        by_cases c : mk (6 * v + u) = 0
        · have r : bt kc ((plO mh n n 0).length - 1 - j) = false := by
            rcases r : bt kc ((plO mh n n 0).length - 1 - j) with _ | _
            · rfl
            · exact absurd c (hkj.2.mp r)
          rw [r]
          have hm' : ¬ mk (6 * u + v) = 0 := (hkj.1.mp q).resolve_right (fun z => z c)
          exact (tW_up hn w hj e).1.mp (h (6 * u + v) (by omega) hm')
        · rw [hkj.2.mpr c]
          exact (tW_up hn w hj e).2.mp (h (6 * v + u) (by omega) c)
    · rw [(hk.2.2.2 t ht).1, (hk.2.2.2 t ht).2, Bool.and_false]
/-- an arrow of a collision goes the same way in all that have the same collisions -/
theorem coll_eq (hn : n ≤ 6) (h : gRel n fp fc mh) (hP : (plO mh n n 0).length ≤ 9) {w : Nat} (hw : w < 2 ^ 31) (hl : likeW n mh w) : (nI w ^^^ nI (accB (fallN mh) 0 (plO mh n n 0))) &&& nI (accB (colN fp fc) 0 (plO mh n n 0)) = 0 := by
  have h512 := vz_p512 hP
  have hd := accB_lt (fallN mh) fallN_le (plO mh n n 0) 0 0 (by decide)
  have hc := accB_lt (colN fp fc) colN_le (plO mh n n 0) 0 0 (by decide)
  rw [Nat.zero_add] at hd hc
  refine b_eq0.mpr (fun t => ?_)
  rw [b_and, b_xor, nI_bt hw, nI_bt (by omega), nI_bt (by omega)]
  rcases Nat.lt_or_ge t (plO mh n n 0).length with ht | ht
  · obtain ⟨j, hj, rfl⟩ : ∃ j, j < (plO mh n n 0).length ∧ t = (plO mh n n 0).length - 1 - j := ⟨(plO mh n n 0).length - 1 - t, by omega, by omega⟩
    obtain ⟨u, v, e⟩ : ∃ u v, (plO mh n n 0).getD j (0, 0) = (u, v) := ⟨_, _, rfl⟩
    have hm := pl_mem hj
    rw [e] at hm
    have hm1 : u < v := hm.1
    have hm2 : v < n := hm.2.1
    rw [accB_at _ fallN_le _ 0 j hj, accB_at _ colN_le _ 0 j hj, e]
    by_cases c : colN fp fc (u, v) = 1
    · rw [decide_eq_true c, Bool.and_true]
      unfold colN at c
      have c : (if (gStr fp fc (nI u) (nI v)) ||| (gStr fp fc (nI v) (nI u)) = 0 then 0 else 1) = 1 := c
      by_cases d : (gStr fp fc (nI u) (nI v)) ||| (gStr fp fc (nI v) (nI u)) = 0
      · rw [if_pos d] at c; cases c
      · obtain ⟨b, hb⟩ : ∃ b, bt ((gStr fp fc (nI u) (nI v)) ||| (gStr fp fc (nI v) (nI u))) b = true := Classical.byContradiction (fun hno => d (b_eq0.mpr (fun i => by
          rcases q : bt ((gStr fp fc (nI u) (nI v)) ||| (gStr fp fc (nI v) (nI u))) i with _ | _
          · rfl
          · exact absurd ⟨i, q⟩ hno)))
        rw [b_or, Bool.or_eq_true, gStr_bt hn h.msk (by omega) hm2, gStr_bt hn h.msk hm2 (by omega)] at hb
        rcases hb with ⟨b1, b2, b3⟩ | ⟨b1, b2, b3⟩
        · have hT : kP (tW n mh w) u b v := by
            rcases Nat.lt_or_ge u b with g | g
            · exact (hl v u b hm2 g b1).mp b3
            · exact kP_sym.mp ((hl v b u hm2 (by omega) (by omega)).mp (kP_sym.mp b3))
          rw [(tW_up hn w hj e).1.mp hT.1]
          have : mh (6 * v + u) = 0 := (h.1 u v (by omega) (by omega) b3.1).2.2.2
          have f0 : fallN mh (u, v) = 0 := if_pos this
          rw [f0]; decide
        · have hT : kP (tW n mh w) v b u := by
            rcases Nat.lt_or_ge v b with g | g
            · exact (hl u v b (by omega) g b1).mp b3
            · exact kP_sym.mp ((hl u b v (by omega) (by omega) hm2).mp (kP_sym.mp b3))
          rw [(tW_up hn w hj e).2.mp hT.1]
          have f1 : fallN mh (u, v) = 1 := if_neg b3.1
          rw [f1]; decide
    · rw [decide_eq_false c, Bool.and_false]
  · have : accB (colN fp fc) 0 (plO mh n n 0) < 2 ^ t := Nat.lt_of_lt_of_le hc (Nat.pow_le_pow_right (by decide) ht)
    rw [Nat.testBit_lt_two_pow this, Bool.and_false]
/-- MEMBERS: class and reference -/
theorem member_same (hn : n ≤ 6) (h : gRel n fp fc mh) {fq fd fl fh mk : Nat → Int32} {P : Nat} {dc cbb kb kc : Int32} (hp : pRel n fp fc mh P dc cbb fl fh) (hk : kRel n mh mk kb kc) {w : Nat} (hw : w < 2 ^ 31) :
    (kMember n fp fc fq fd fl fh P dc cbb kb kc (nI w)).1 = 0 ↔ mMember n mh mk (tW n mh w) = 0 := by
  have h1 := (kMember_eq (fq := fq) (fd := fd) (kb := kb) (kc := kc) hn h hp hw).2
  have h2 := mMember_eq (mh := mh) (mk := mk) (T := tW n mh w) hn
  have hP9 : (plO mh n n 0).length ≤ 9 := by rw [← hp.1]; exact hp.2.1
  have hkn := known_eq hn hP9 hk hw
  have hcc := coll_eq hn h hP9 hw
  rw [← hp.2.2.1, ← hp.2.2.2.1] at hcc
  have : ¬ (kMember n fp fc fq fd fl fh P dc cbb kb kc (nI w)).1 = 0 ↔ ¬ mMember n mh mk (tW n mh w) = 0 := by
    rw [h1, h2]
    constructor
    · rintro ⟨a, b, c, d⟩
      exact ⟨d, c, hkn.mp a⟩
    · rintro ⟨a, b, c⟩
      exact ⟨hkn.mpr c, hcc b, b, a⟩
  exact ⟨fun q => Classical.byContradiction (fun z => this.mpr z q), fun q => Classical.byContradiction (fun z => this.mp z q)⟩
/-- the drawn graph is a member while nothing is known -/
theorem drawn_mem (hn : n ≤ 6) (h : gRel n fp fc mh) (hr : hasRank n mh) (hP : (plO mh n n 0).length ≤ 9) {mk : Nat → Int32} (hk : ∀ x, x < 36 → mk x = 0) : accB (fallN mh) 0 (plO mh n n 0) < 2 ^ (plO mh n n 0).length ∧ ¬ mMember n mh mk (tW n mh (accB (fallN mh) 0 (plO mh n n 0))) = 0 := by
  have hd := accB_lt (fallN mh) fallN_le (plO mh n n 0) 0 0 (by decide)
  rw [Nat.zero_add] at hd
  refine ⟨hd, ?_⟩
  have hT : ∀ a b, a < 6 → b < 6 → (¬ tW n mh (accB (fallN mh) 0 (plO mh n n 0)) (6 * a + b) = 0 ↔ ¬ mh (6 * a + b) = 0) := by
    intro a b ha hb
    by_cases hj : a < n ∧ b < n ∧ a ≠ b ∧ ¬ mJoin mh (nI a) (nI b) = 0
    · obtain ⟨h1, h2, h3, h4⟩ := hj
      rcases Nat.lt_or_ge a b with g | g
      · obtain ⟨j, hj, e⟩ := pl_find g h2 h4
        rw [(tW_up hn _ hj e).1, accB_at _ fallN_le _ 0 j hj, e]
        unfold fallN
        show decide ((if mh (6 * b + a) = 0 then 0 else 1) = 1) = false ↔ _
        by_cases c : mh (6 * b + a) = 0
        · rw [if_pos c]
          rw [mJoin_eq hn h1 h2] at h4
          exact ⟨fun _ z => h4 (fun q => q.elim (fun q => q.2.2 z) (fun q => q.2.2 c)), fun _ => by decide⟩
        · rw [if_neg c]
          exact ⟨fun q => absurd q (by decide), fun q => absurd (h.1 a b ha hb q).2.2.2 c⟩
      · have h4' : ¬ mJoin mh (nI b) (nI a) = 0 := by
          rw [mJoin_eq hn h2 h1]
          rw [mJoin_eq hn h1 h2] at h4
          exact fun q => h4 (fun z => q z.symm)
        obtain ⟨j, hj, e⟩ := pl_find (show b < a by omega) h1 h4'
        rw [(tW_up hn _ hj e).2, accB_at _ fallN_le _ 0 j hj, e]
        unfold fallN
        show decide ((if mh (6 * a + b) = 0 then 0 else 1) = 1) = true ↔ _
        by_cases c : mh (6 * a + b) = 0
        · rw [if_pos c]; exact ⟨fun q => absurd q (by decide), fun q => absurd c q⟩
        · rw [if_neg c]; exact ⟨fun _ => c, fun _ => by decide⟩
    · constructor
      · intro q; exact absurd (tW_in hn _ ha hb q) hj
      · intro q
        obtain ⟨h1, h2, h3, h4⟩ := h.1 a b ha hb q
        exact absurd ⟨h1, h2, h3, by rw [mJoin_eq hn h1 h2]; exact fun z => z (Or.inl ⟨h1, h2, q⟩)⟩ hj
  rw [mMember_eq hn]
  have hz : ∀ a b, a < 6 → b < 6 → (tW n mh (accB (fallN mh) 0 (plO mh n n 0)) (6 * a + b) = 0 ↔ mh (6 * a + b) = 0) := fun a b ha hb => ⟨fun q => Classical.byContradiction (fun z => (hT a b ha hb).mpr z q), fun q => Classical.byContradiction (fun z => (hT a b ha hb).mp z q)⟩
  refine ⟨?_, fun c a b hc hab hb => ?_, fun x hx hmx => absurd (hk x hx) hmx⟩
  · have e1 := ring_same hn (show maskOf n fp (tW n mh (accB (fallN mh) 0 (plO mh n n 0))) from fun v hv u => by
      rw [h.2.1 v hv u]
      refine and_congr_right (fun hu => ?_)
      exact (hT u v (by omega) (by omega)).symm)
    rw [← e1]
    obtain ⟨rk, hrk⟩ := hr
    exact ring_none hn rk (fun v u hv q => hrk u v ((h.gP v u hv).mp q))
  · unfold kP
    rw [hz a c (by omega) (by omega), hz b c (by omega) (by omega), hz a b (by omega) (by omega), hz b a (by omega) (by omega)]
end MB
