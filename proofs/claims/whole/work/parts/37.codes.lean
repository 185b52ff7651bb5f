/-! codes: which way each pair goes; members of class and reference -/
def ixq (b : Bool) (q : Nat × Nat) : Nat := if b = true then 6 * q.2 + q.1 else 6 * q.1 + q.2
def tbl (w P : Nat) : Nat → List (Nat × Nat) → (Nat → Int32) → Nat → Int32
  | _, [], t => t
  | j, q :: l, t => tbl w P (j + 1) l (upd t (ixq (w.testBit (P - 1 - j)) q) 1)
theorem tbl_ne (w P : Nat) : ∀ (l : List (Nat × Nat)) (j : Nat) (t : Nat → Int32) (x : Nat), ¬ tbl w P j l t x = 0 ↔ ¬ t x = 0 ∨ ∃ i, i < l.length ∧ x = ixq (w.testBit (P - 1 - (j + i))) (l.getD i (0, 0))
  | [], j, t, x => ⟨fun h => Or.inl h, fun h => h.elim id (fun ⟨i, hi, _⟩ => by cases hi)⟩
  | q :: l, j, t, x => by
    show ¬ tbl w P (j + 1) l (upd t (ixq (w.testBit (P - 1 - j)) q) 1) x = 0 ↔ _
    rw [tbl_ne w P l (j + 1)]
    by_cases c : x = ixq (w.testBit (P - 1 - j)) q
    · constructor
      · intro _
        exact Or.inr ⟨0, by rw [List.length_cons]; omega, c⟩
      · intro _
        rw [← c, pk_us]; exact Or.inl (by decide)
    · rw [pk_un c]
      constructor
      · rintro (h | ⟨i, hi, e⟩)
        · exact Or.inl h
        · refine Or.inr ⟨i + 1, by rw [List.length_cons]; omega, ?_⟩
          rw [show j + (i + 1) = j + 1 + i by omega]; exact e
      · rintro (h | ⟨i, hi, e⟩)
        · exact Or.inl h
        · cases i with
          | zero => exact absurd e c
          | succ i =>
            refine Or.inr ⟨i, by rw [List.length_cons] at hi; omega, ?_⟩
            rw [show j + (i + 1) = j + 1 + i by omega] at e; exact e
theorem tbl_01 (w P : Nat) : ∀ (l : List (Nat × Nat)) (j : Nat) (t : Nat → Int32), is01 t → is01 (tbl w P j l t)
  | [], _, _, h => h
  | q :: l, j, t, h => tbl_01 w P l (j + 1) _ (is01_upd h (Or.inr rfl))
section CD
variable {n : Nat} {fp fc mh : Nat → Int32}
/-- the table of code w -/
def tW (n : Nat) (mh : Nat → Int32) (w : Nat) : Nat → Int32 := tbl w (plO mh n n 0).length 0 (plO mh n n 0) (fun _ => 0)
theorem tW_ne (w x : Nat) : ¬ tW n mh w x = 0 ↔ ∃ i, i < (plO mh n n 0).length ∧ x = ixq (w.testBit ((plO mh n n 0).length - 1 - i)) ((plO mh n n 0).getD i (0, 0)) := by
  unfold tW
  rw [tbl_ne]
  constructor
  · rintro (h | ⟨i, hi, e⟩)
    · exact absurd rfl h
    · rw [Nat.zero_add] at e; exact ⟨i, hi, e⟩
  · rintro ⟨i, hi, e⟩
    exact Or.inr ⟨i, hi, by rw [Nat.zero_add]; exact e⟩
theorem tW_01 (w : Nat) : is01 (tW n mh w) := tbl_01 w _ _ 0 _ (fun _ => Or.inl rfl)
/-- the pair number j in the table -/
theorem tW_up (hn : n ≤ 6) (w : Nat) {j u v : Nat} (hj : j < (plO mh n n 0).length) (e : (plO mh n n 0).getD j (0, 0) = (u, v)) : (¬ tW n mh w (6 * u + v) = 0 ↔ w.testBit ((plO mh n n 0).length - 1 - j) = false) ∧ (¬ tW n mh w (6 * v + u) = 0 ↔ w.testBit ((plO mh n n 0).length - 1 - j) = true) := by
  have hm := pl_mem hj
  rw [e] at hm
  have hm1 : u < v := hm.1
  have hm2 : v < n := hm.2.1
  constructor
  · rw [tW_ne]
    constructor
    · rintro ⟨i, hi, hx⟩
      have hi2 := pl_mem hi
      unfold ixq at hx
      by_cases c : w.testBit ((plO mh n n 0).length - 1 - i) = true
      · rw [if_pos c] at hx
        omega
      · rw [if_neg c] at hx
        have : (plO mh n n 0).getD i (0, 0) = (plO mh n n 0).getD j (0, 0) := by
          rw [e]; exact Prod.ext (by show _ = u; omega) (by show _ = v; omega)
        rw [← pl_inj hi hj this]
        simpa using c
    · intro h
      refine ⟨j, hj, ?_⟩
      rw [h, e]; rfl
  · rw [tW_ne]
    constructor
    · rintro ⟨i, hi, hx⟩
      have hi2 := pl_mem hi
      unfold ixq at hx
      by_cases c : w.testBit ((plO mh n n 0).length - 1 - i) = true
      · rw [if_pos c] at hx
        have : (plO mh n n 0).getD i (0, 0) = (plO mh n n 0).getD j (0, 0) := by
          rw [e]; exact Prod.ext (by show _ = u; omega) (by show _ = v; omega)
        rw [← pl_inj hi hj this]
        exact c
      · rw [if_neg c] at hx
        omega
    · intro h
      refine ⟨j, hj, ?_⟩
      rw [h, e]; rfl
theorem tW_in (hn : n ≤ 6) (w : Nat) {a b : Nat} (ha : a < 6) (hb : b < 6) (h : ¬ tW n mh w (6 * a + b) = 0) : a < n ∧ b < n ∧ a ≠ b ∧ ¬ mJoin mh (nI a) (nI b) = 0 := by
  obtain ⟨i, hi, hx⟩ := (tW_ne w _).mp h
  have hm := pl_mem hi
  unfold ixq at hx
  by_cases c : w.testBit ((plO mh n n 0).length - 1 - i) = true
  · rw [if_pos c] at hx
    have e1 : a = ((plO mh n n 0).getD i (0, 0)).2 := by omega
    have e2 : b = ((plO mh n n 0).getD i (0, 0)).1 := by omega
    refine ⟨by omega, by omega, by omega, ?_⟩
    rw [e1, e2, mJoin_eq hn (by omega) (by omega)]
    have := hm.2.2
    rw [mJoin_eq hn (by omega) (by omega)] at this
    exact fun q => this (fun z => q z.symm)
  · rw [if_neg c] at hx
    have e1 : a = ((plO mh n n 0).getD i (0, 0)).1 := by omega
    have e2 : b = ((plO mh n n 0).getD i (0, 0)).2 := by omega
    refine ⟨by omega, by omega, by omega, ?_⟩
    rw [e1, e2]; exact hm.2.2
/-! the reference's direct -/
theorem drop_cons {L : List (Nat × Nat)} {i : Nat} (h : i < L.length) : L.drop i = L.getD i (0, 0) :: L.drop (i + 1) := by
  rw [List.drop_eq_getElem_cons h, List.getD_eq_getElem?_getD, List.getElem?_eq_getElem h]; rfl
theorem sub_ix {P i : Nat} (h : i < P) : nI P - 1 - nI i = nI (P - 1 - i) := by
  rw [vz_sub1 (by omega), pk_sub (by omega)]
theorem mDirect_L23_eq {mt ml mg : Nat → Int32} {L : List (Nat × Nat)} (hL : L.length ≤ 9) (hm : ∀ j, j < L.length → (L.getD j (0, 0)).1 < 6 ∧ (L.getD j (0, 0)).2 < 6) (hl : ∀ j, j < L.length → ml j = nI (L.getD j (0, 0)).1 ∧ mg j = nI (L.getD j (0, 0)).2) {w : Nat} (hw : w < 2 ^ 31) (i2 : Nat) (t2 : Nat → Int32) : ∀ (k i : Nat) (t : Nat → Int32), i + k = L.length →
    mDirect_L23 mt ml mg L.length (nI w) i2 t2 k i t = tbl w L.length i (L.drop i) t
  | 0, i, t, h => by
    rw [mDirect_L23, List.drop_eq_nil_of_le (by omega)]; rfl
  | k + 1, i, t, h => by
    have hi : i < L.length := by omega
    rw [mDirect_L23, drop_cons hi, nI_clamp (by omega), (hl i hi).1, (hl i hi).2, vz_ixC (hm i hi).1 (hm i hi).2, vz_ixC (hm i hi).2 (hm i hi).1, nar1, sub_ix hi]
    have hb := b_at0 (nI w) (show L.length - 1 - i < 32 by omega)
    rw [nI_bt hw] at hb
    show _ = tbl w L.length (i + 1) (L.drop (i + 1)) (upd t (ixq (w.testBit (L.length - 1 - i)) (L.getD i (0, 0))) 1)
    unfold ixq
    by_cases c : w.testBit (L.length - 1 - i) = true
    · rw [if_neg (fun q => by rw [hb.mp q] at c; cases c), if_pos c]
      exact mDirect_L23_eq hL hm hl hw i2 t2 k (i + 1) _ (by omega)
    · have c2 : w.testBit (L.length - 1 - i) = false := by simpa using c
      rw [if_pos (hb.mpr c2), if_neg c]
      exact mDirect_L23_eq hL hm hl hw i2 t2 k (i + 1) _ (by omega)
theorem mDirect_L2_eq {mt ml mg : Nat → Int32} {Q : Nat} {way : Int32} : ∀ (k i : Nat) (t : Nat → Int32), i + k = 36 → (∀ j, j < i → t j = 0) → (∀ j, 36 ≤ j → t j = 0) → ∃ i2, mDirect_L2 mt ml mg Q way k i t = mDirect_L23 mt ml mg Q way i2 (fun _ => 0) Q 0 (fun _ => 0)
  | 0, i, t, h, h0, h36 => by
    have : t = fun _ => 0 := funext (fun j => by
      rcases Nat.lt_or_ge j i with q | q
      · exact h0 j q
      · exact h36 j (by omega))
    subst this
    exact ⟨i, rfl⟩
  | k + 1, i, t, h, h0, h36 => by
    rw [mDirect_L2, nI_clamp (by omega), nar0]
    refine mDirect_L2_eq k (i + 1) _ (by omega) (fun j hj => ?_) (fun j hj => ?_)
    · by_cases c : j = i
      · rw [c, pk_us]
      · rw [pk_un c]; exact h0 j (by omega)
    · rw [pk_un (by omega)]; exact h36 j hj
theorem mDirect_eq (hn : n ≤ 6) {mt ml mg : Nat → Int32} (hP : (plO mh n n 0).length ≤ 9) (hl : ∀ j, j < (plO mh n n 0).length → ml j = nI ((plO mh n n 0).getD j (0, 0)).1 ∧ mg j = nI ((plO mh n n 0).getD j (0, 0)).2) (h36 : ∀ j, 36 ≤ j → mt j = 0) {w : Nat} (hw : w < 2 ^ 31) :
    mDirect mt ml mg (plO mh n n 0).length (nI w) = tW n mh w := by
  obtain ⟨i2, e⟩ := mDirect_L2_eq (ml := ml) (mg := mg) (mt := mt) (Q := (plO mh n n 0).length) (way := nI w) 36 0 mt (by omega) (fun j hj => by omega) h36
  rw [mDirect, e, mDirect_L23_eq hP (fun j hj => by have := pl_mem (mh := mh) hj; omega) hl hw i2 _ _ 0 _ (by omega)]
  rfl
/-! the reference's isMember -/
theorem mMember_L58_eq (hn : n ≤ 6) {mk T : Nat → Int32} (i2 : Nat) {c : Nat} (hc : c < n) {a : Nat} (ha : a < n) (kk : Unit → Int32) : ∀ (k i : Nat), i + k ≤ n → a < i → (mMember_L58 n mh mk T i2 c a kk k i = 0 ↔ kk () = 0 ∨ ¬ ∀ b, i ≤ b → b < i + k → (kP mh a b c ↔ kP T a b c))
  | 0, i, _, _ => ⟨fun h => Or.inl h, fun h => h.elim id (fun q => absurd (fun b h1 h2 => by omega) q)⟩
  | k + 1, i, hk, hi => by
    rw [mMember_L58]
    have m1 := mColl1_eq (mh := mh) (show a < 6 by omega) (show i < 6 by omega) (show c < 6 by omega)
    have m2 := mColl1_eq (mh := T) (show a < 6 by omega) (show i < 6 by omega) (show c < 6 by omega)
    have key : mColl1 mh (nI a) (nI c) (nI i) = mColl1 T (nI a) (nI c) (nI i) ↔ (kP mh a i c ↔ kP T a i c) := by
      rcases m1 with ⟨e1, k1⟩ | ⟨e1, k1⟩ <;> rcases m2 with ⟨e2, k2⟩ | ⟨e2, k2⟩ <;> rw [e1, e2]
      · exact ⟨fun _ => ⟨fun q => absurd q k1, fun q => absurd q k2⟩, fun _ => rfl⟩
      · exact ⟨fun q => absurd q (by decide), fun q => absurd (q.mpr k2) k1⟩
      · exact ⟨fun q => absurd q (by decide), fun q => absurd (q.mp k1) k2⟩
      · exact ⟨fun _ => ⟨fun _ => k2, fun _ => k1⟩, fun _ => rfl⟩
    by_cases c1 : mColl1 mh (nI a) (nI c) (nI i) = mColl1 T (nI a) (nI c) (nI i)
    · rw [if_pos c1, mMember_L58_eq hn i2 hc ha kk k (i + 1) (by omega) (by omega)]
      refine or_congr_right (not_congr ⟨fun h b h1 h2 => ?_, fun h b h1 h2 => h b (by omega) (by omega)⟩)
      by_cases d : b = i
      · rw [d]; exact key.mp c1
      · exact h b (by omega) (by omega)
    · rw [if_neg c1]
      exact ⟨fun _ => Or.inr (fun h => c1 (key.mpr (h i (by omega) (by omega)))), fun _ => rfl⟩
theorem mMember_L46_eq (hn : n ≤ 6) {mk T : Nat → Int32} (i2 : Nat) {c : Nat} (hc : c < n) (kk : Unit → Int32) : ∀ (k i : Nat), i + k ≤ n → (mMember_L46 n mh mk T i2 c kk k i = 0 ↔ kk () = 0 ∨ ¬ ∀ a b, i ≤ a → a < i + k → a < b → b < n → (kP mh a b c ↔ kP T a b c))
  | 0, i, _ => ⟨fun h => Or.inl h, fun h => h.elim id (fun q => absurd (fun a b h1 h2 => by omega) q)⟩
  | k + 1, i, hk => by
    rw [mMember_L46, mMember_L58_eq hn i2 hc (by omega) _ (n - (i + 1)) (i + 1) (by omega) (by omega)]
    show mMember_L46 n mh mk T i2 c kk k (i + 1) = 0 ∨ _ ↔ _
    rw [mMember_L46_eq hn i2 hc kk k (i + 1) (by omega), or_assoc]
    refine or_congr_right ?_
    constructor
    · rintro (h | h)
      · exact fun q => h (fun a b h1 h2 => q a b (by omega) (by omega))
      · exact fun q => h (fun b h1 h2 => q i b (by omega) (by omega) (by omega) (by omega))
    · intro h
      refine Classical.byContradiction (fun hno => h (fun a b h1 h2 h3 h4 => ?_))
      have n1 : ∀ a b, i + 1 ≤ a → a < i + 1 + k → a < b → b < n → (kP mh a b c ↔ kP T a b c) := Classical.byContradiction (fun z => hno (Or.inl z))
      have n2 : ∀ b, i + 1 ≤ b → b < i + 1 + (n - (i + 1)) → (kP mh i b c ↔ kP T i b c) := Classical.byContradiction (fun z => hno (Or.inr z))
      by_cases d : a = i
      · rw [d]; exact n2 b (by omega) (by omega)
      · exact n1 a b (by omega) (by omega) h3 h4
theorem mMember_L36_eq (hn : n ≤ 6) {mk T : Nat → Int32} (i2 : Nat) : ∀ (k i : Nat), i + k ≤ n → (mMember_L36 n mh mk T i2 k i = 0 ↔ ¬ mRing n T = 0 ∨ ¬ ∀ c a b, i ≤ c → c < i + k → a < b → b < n → (kP mh a b c ↔ kP T a b c))
  | 0, i, _ => by
    rw [mMember_L36]
    by_cases c : mRing n T = 0
    · rw [if_pos c]
      exact ⟨fun q => absurd q (by decide), fun q => q.elim (fun z => absurd c z) (fun z => absurd (fun c a b h1 h2 => by omega) z)⟩
    · rw [if_neg c]; exact ⟨fun _ => Or.inl c, fun _ => rfl⟩
  | k + 1, i, hk => by
    rw [mMember_L36, mMember_L46_eq hn i2 (by omega) _ n 0 (by omega)]
    show mMember_L36 n mh mk T i2 k (i + 1) = 0 ∨ _ ↔ _
    rw [mMember_L36_eq hn i2 k (i + 1) (by omega), or_assoc]
    refine or_congr_right ?_
    constructor
    · rintro (h | h)
      · exact fun q => h (fun c a b h1 h2 => q c a b (by omega) (by omega))
      · exact fun q => h (fun a b h1 h2 h3 h4 => q i a b (by omega) (by omega) h3 h4)
    · intro h
      refine Classical.byContradiction (fun hno => h (fun c a b h1 h2 h3 h4 => ?_))
      have n1 : ∀ c a b, i + 1 ≤ c → c < i + 1 + k → a < b → b < n → (kP mh a b c ↔ kP T a b c) := Classical.byContradiction (fun z => hno (Or.inl z))
      have n2 : ∀ a b, 0 ≤ a → a < 0 + n → a < b → b < n → (kP mh a b i ↔ kP T a b i) := Classical.byContradiction (fun z => hno (Or.inr z))
      by_cases d : c = i
      · rw [d]; exact n2 a b (by omega) (by omega) h3 h4
      · exact n1 c a b (by omega) (by omega) h3 h4
theorem mMember_L2_eq (hn : n ≤ 6) {mk T : Nat → Int32} : ∀ (k i : Nat), i + k ≤ 36 → (mMember_L2 n mh mk T k i = 0 ↔ (¬ mRing n T = 0 ∨ ¬ ∀ c a b, c < n → a < b → b < n → (kP mh a b c ↔ kP T a b c)) ∨ ¬ ∀ x, i ≤ x → x < i + k → ¬ mk x = 0 → ¬ T x = 0)
  | 0, i, _ => by
    rw [mMember_L2, mMember_L36_eq hn i n 0 (by omega)]
    constructor
    · rintro (h | h)
      · exact Or.inl (Or.inl h)
      · exact Or.inl (Or.inr (fun q => h (fun c a b _ h2 => q c a b (by omega))))
    · rintro ((h | h) | h)
      · exact Or.inl h
      · exact Or.inr (fun q => h (fun c a b h2 => q c a b (by omega) (by omega)))
      · exact absurd (fun x h1 h2 => by omega) h
  | k + 1, i, hk => by
    rw [mMember_L2, nI_clamp (by omega)]
    have ih := mMember_L2_eq hn (mk := mk) (T := T) k (i + 1) (by omega)
    by_cases c1 : mk i = 0
    · rw [if_pos c1, ih]
      refine or_congr_right (not_congr ⟨fun h x h1 h2 h3 => ?_, fun h x h1 h2 => h x (by omega) (by omega)⟩)
      by_cases d : x = i
      · rw [d] at h3; exact absurd c1 h3
      · exact h x (by omega) (by omega) h3
    · rw [if_neg c1]
      by_cases c2 : T i = 0
      · rw [if_pos c2]
        exact ⟨fun _ => Or.inr (fun h => h i (by omega) (by omega) c1 c2), fun _ => rfl⟩
      · rw [if_neg c2, ih]
        refine or_congr_right (not_congr ⟨fun h x h1 h2 h3 => ?_, fun h x h1 h2 => h x (by omega) (by omega)⟩)
        by_cases d : x = i
        · rw [d]; exact c2
        · exact h x (by omega) (by omega) h3
theorem mMember_eq (hn : n ≤ 6) {mk T : Nat → Int32} : ¬ mMember n mh mk T = 0 ↔ mRing n T = 0 ∧ (∀ c a b, c < n → a < b → b < n → (kP mh a b c ↔ kP T a b c)) ∧ ∀ x, x < 36 → ¬ mk x = 0 → ¬ T x = 0 := by
  rw [mMember, mMember_L2_eq hn 36 0 (by omega)]
  constructor
  · intro h
    refine ⟨Classical.byContradiction (fun z => h (Or.inl (Or.inl z))), Classical.byContradiction (fun z => h (Or.inl (Or.inr z))), ?_⟩
    have := Classical.byContradiction (fun z => h (Or.inr z))
    exact fun x hx => this x (by omega) (by omega)
  · rintro ⟨h1, h2, h3⟩ ((q | q) | q)
    · exact q h1
    · exact q h2
    · exact q (fun x _ hx => h3 x (by omega))
/-! the class's gLike -/
theorem gLike_L12_eq {fq fd : Nat → Int32} (c : Nat) (kk : Unit → Int32) : ∀ (k i : Nat), (gLike_L12 n fq fd fp fc c kk k i = 0 ↔ kk () = 0 ∨ ¬ ∀ a, i ≤ a → a < i + k → gStr fq fd (nI a) (nI c) = gStr fp fc (nI a) (nI c))
  | 0, i => ⟨fun h => Or.inl h, fun h => h.elim id (fun q => absurd (fun b h1 h2 => by omega) q)⟩
  | k + 1, i => by
    rw [gLike_L12]
    by_cases c1 : gStr fq fd (nI i) (nI c) = gStr fp fc (nI i) (nI c)
    · rw [if_pos c1, gLike_L12_eq c kk k (i + 1)]
      refine or_congr_right (not_congr ⟨fun h b h1 h2 => ?_, fun h b h1 h2 => h b (by omega) (by omega)⟩)
      by_cases d : b = i
      · rw [d]; exact c1
      · exact h b (by omega) (by omega)
    · rw [if_neg c1]
      exact ⟨fun _ => Or.inr (fun h => c1 (h i (by omega) (by omega))), fun _ => rfl⟩
theorem gLike_L2_eq {fq fd : Nat → Int32} : ∀ (k i : Nat), (gLike_L2 n fq fd fp fc k i = 0 ↔ ¬ ∀ c a, i ≤ c → c < i + k → a < n → gStr fq fd (nI a) (nI c) = gStr fp fc (nI a) (nI c))
  | 0, i => ⟨fun h => absurd (show (1 : Int32) = 0 from h) (by decide), fun h => absurd (fun c a h1 h2 => by omega) h⟩
  | k + 1, i => by
    rw [gLike_L2, gLike_L12_eq i _ n 0]
    show gLike_L2 n fq fd fp fc k (i + 1) = 0 ∨ _ ↔ _
    rw [gLike_L2_eq k (i + 1)]
    constructor
    · rintro (h | h)
      · exact fun q => h (fun c a h1 h2 => q c a (by omega) (by omega))
      · exact fun q => h (fun a h1 h2 => q i a (by omega) (by omega) (by omega))
    · intro h
      refine Classical.byContradiction (fun hno => h (fun c a h1 h2 h3 => ?_))
      have n1 : ∀ c a, i + 1 ≤ c → c < i + 1 + k → a < n → gStr fq fd (nI a) (nI c) = gStr fp fc (nI a) (nI c) := Classical.byContradiction (fun z => hno (Or.inl z))
      have n2 : ∀ a, 0 ≤ a → a < 0 + n → gStr fq fd (nI a) (nI i) = gStr fp fc (nI a) (nI i) := Classical.byContradiction (fun z => hno (Or.inr z))
      by_cases d : c = i
      · rw [d]; exact n2 a (by omega) (by omega)
      · exact n1 c a (by omega) (by omega) h3
theorem gLike_eq (hn : n ≤ 6) {fq fd T : Nat → Int32} (h1 : mskR n fp fc mh) (h2 : mskR n fq fd T) : ¬ gLike n fq fd fp fc = 0 ↔ ∀ c a b, c < n → a < b → b < n → (kP mh a b c ↔ kP T a b c) := by
  rw [gLike, gLike_L2_eq n 0]
  constructor
  · intro h c a b hc hab hb
    have := Classical.not_not.mp h c a (by omega) (by omega) (by omega)
    have e := b_eq.mp this b
    have q1 := gStr_bt hn h1 (show a < n by omega) hc b
    have q2 := gStr_bt hn h2 (show a < n by omega) hc b
    rw [e] at q2
    constructor
    · intro k; exact (q2.mp (q1.mpr ⟨hb, by omega, k⟩)).2.2
    · intro k; exact (q1.mp (q2.mpr ⟨hb, by omega, k⟩)).2.2
  · intro h q
    refine q (fun c a _ hc ha => b_iff (fun b => ?_))
    rw [gStr_bt hn h1 ha (by omega) b, gStr_bt hn h2 ha (by omega) b]
    refine and_congr_right (fun hb => and_congr_right (fun hba => ?_))
    rcases Nat.lt_or_ge a b with g | g
    · exact (h c a b (by omega) g hb).symm
    · exact (kP_sym.trans ((h c b a (by omega) (by omega) ha).symm)).trans kP_sym
end CD
