/-! Int32 by its bits (the first rows began as kit/laws/BITS.to-paste, family bt) -/
def bt (x : Int32) (i : Nat) : Bool := x.toBitVec.getLsbD i
theorem b_ext {x y : Int32} (h : ∀ i, i < 32 → bt x i = bt y i) : x = y := Int32.toBitVec_inj.mp (BitVec.eq_of_getLsbD_eq (fun i hi => h i hi))
theorem b_or (x y : Int32) (i : Nat) : bt (x ||| y) i = (bt x i || bt y i) := by unfold bt; rw [Int32.toBitVec_or, BitVec.getLsbD_or]
theorem b_and (x y : Int32) (i : Nat) : bt (x &&& y) i = (bt x i && bt y i) := by unfold bt; rw [Int32.toBitVec_and, BitVec.getLsbD_and]
theorem b_xor (x y : Int32) (i : Nat) : bt (x ^^^ y) i = (bt x i ^^ bt y i) := by unfold bt; rw [Int32.toBitVec_xor, BitVec.getLsbD_xor]
theorem b_big {x : Int32} {i : Nat} (h : 32 ≤ i) : bt x i = false := BitVec.getLsbD_of_ge _ _ h
theorem b_m1 : ∀ i, i < 32 → bt (-1) i = true := by decide +kernel
theorem b_0 (i : Nat) : bt 0 i = false := BitVec.getLsbD_zero
theorem s_l : ∀ n, n < 32 → ((nI n &&& 31).toBitVec.smod 32).toNat = n := by decide +kernel
theorem b_shl (n : Nat) (hn : n < 32) (x : Int32) {i : Nat} (hi : i < 32) : bt (x <<< (nI n &&& 31)) i = (decide (n ≤ i) && bt x (i - n)) := by
  unfold bt
  rw [Int32.toBitVec_shiftLeft]
  show (x.toBitVec <<< ((nI n &&& 31).toBitVec.smod 32).toNat).getLsbD i = _
  rw [s_l n hn, BitVec.getLsbD_shiftLeft]
  rcases Nat.lt_or_ge i n with h | h
  · simp [h, Nat.not_le.mpr h]
  · simp [hi, h, Nat.not_lt.mpr h]
theorem b_sshr (n : Nat) (hn : n < 32) (x : Int32) {i : Nat} (hi : i < 32) : bt (x >>> (nI n &&& 31)) i = if n + i < 32 then bt x (n + i) else bt x 31 := by
  unfold bt
  rw [Int32.toBitVec_shiftRight]
  show (x.toBitVec.sshiftRight ((nI n &&& 31).toBitVec.smod 32).toNat).getLsbD i = _
  rw [s_l n hn, BitVec.getLsbD_sshiftRight, BitVec.msb_eq_getLsbD_last]
  simp [hi]
theorem b_1 : ∀ j, j < 32 → bt 1 j = decide (j = 0) := by decide +kernel
theorem b_lt {x : Int32} {i : Nat} (h : bt x i = true) : i < 32 := by
  rcases Nat.lt_or_ge i 32 with h2 | h2
  · exact h2
  · rw [b_big h2] at h; cases h
theorem b_low (x : Int32) : x &&& 1 = if bt x 0 = true then 1 else 0 := by
  apply b_ext
  intro j hj
  rw [b_and, b_1 j hj]
  by_cases h0 : j = 0
  · subst h0
    cases bt x 0
    · rw [if_neg (by decide), b_0]; rfl
    · rw [if_pos rfl, b_1 0 (by decide)]; rfl
  · rw [decide_eq_false h0, Bool.and_false]
    cases bt x 0
    · rw [if_neg (by decide), b_0]
    · rw [if_pos rfl, b_1 j hj, decide_eq_false h0]
/-- the bit test of both sides -/
theorem b_at (x : Int32) {i : Nat} (hi : i < 32) : (x >>> (nI i &&& 31)) &&& 1 = if bt x i = true then 1 else 0 := by
  rw [b_low, b_sshr i hi x (by omega), if_pos (show i + 0 < 32 by omega), Nat.add_zero]
theorem b_at0 (x : Int32) {i : Nat} (hi : i < 32) : ((x >>> (nI i &&& 31)) &&& 1 = 0) ↔ bt x i = false := by
  rw [b_at x hi]
  cases bt x i
  · exact ⟨fun _ => rfl, fun _ => if_neg (by decide)⟩
  · rw [if_pos rfl]
    exact ⟨fun h => absurd h (by decide), fun h => by cases h⟩
theorem b_at1 (x : Int32) {i : Nat} (hi : i < 32) : ((x >>> (nI i &&& 31)) &&& 1 = 1) ↔ bt x i = true := by
  rw [b_at x hi]
  cases bt x i
  · rw [if_neg (by decide)]
    exact ⟨fun h => absurd h (by decide), fun h => by cases h⟩
  · exact ⟨fun _ => rfl, fun _ => if_pos rfl⟩
theorem b_one {n : Nat} (hn : n < 32) (i : Nat) : bt ((1 : Int32) <<< (nI n &&& 31)) i = decide (i = n) := by
  rcases Nat.lt_or_ge i 32 with hi | hi
  · rw [b_shl n hn 1 hi]
    rcases Nat.lt_or_ge i n with h | h
    · rw [decide_eq_false (by omega), decide_eq_false (by omega), Bool.false_and]
    · rw [decide_eq_true h, b_1 _ (by omega), Bool.true_and]
      exact decide_eq_decide.mpr (by omega)
  · rw [b_big hi, decide_eq_false (by omega)]
theorem b_not (x : Int32) {i : Nat} (hi : i < 32) : bt (x ^^^ (-1)) i = !bt x i := by
  rw [b_xor, b_m1 i hi, Bool.xor_true]
theorem b_eq0 {x : Int32} : x = 0 ↔ ∀ i, bt x i = false := by
  constructor
  · intro h i; rw [h]; exact b_0 i
  · intro h; exact b_ext (fun i _ => by rw [h i, b_0])
theorem b_ext' {x y : Int32} (h : ∀ i, bt x i = bt y i) : x = y := b_ext (fun i _ => h i)
theorem b_eq {x y : Int32} : x = y ↔ ∀ i, bt x i = bt y i := ⟨fun h i => by rw [h], b_ext'⟩
/-! small numbers -/
theorem vz_p64 {n : Nat} (h : n ≤ 6) : 2 ^ n ≤ 64 := by
  have : 2 ^ n ≤ 2 ^ 6 := Nat.pow_le_pow_right (by decide) h
  exact this
theorem vz_p512 {n : Nat} (h : n ≤ 9) : 2 ^ n ≤ 512 := by
  have : 2 ^ n ≤ 2 ^ 9 := Nat.pow_le_pow_right (by decide) h
  exact this
theorem vz_pow_all : ∀ n, n < 31 → (1 : Int32) <<< (nI n &&& 31) = nI (2 ^ n) := by decide +kernel
theorem vz_pow {n : Nat} (h : n ≤ 9) : (1 : Int32) <<< (nI n &&& 31) = nI (2 ^ n) := vz_pow_all n (by omega)
theorem vz_sub1 {n : Nat} (h : 1 ≤ n) : nI n - 1 = nI (n - 1) := pk_sub (b := 1) h
theorem vz_dec {n : Nat} (h : 1 ≤ n) : nI n + Int32.ofInt (-1) = nI (n - 1) := by
  obtain ⟨k, rfl⟩ : ∃ k, n = k + 1 := ⟨n - 1, by omega⟩
  exact pk_m1 k
theorem vz_in6 {n : Nat} {x : Int32} (hn : n ≤ 6) (h : vp_in x n) : vp_in x 6 := by
  rw [vp_in_iff] at h ⊢
  omega
/-- a place in a table of 6 times 6 -/
theorem vz_ixN (i j : Nat) : 6 * nI i + nI j = nI (6 * i + j) := by
  rw [show (6 : Int32) = nI 6 from rfl, pk_mul, nI_add]
theorem vz_ix {n : Nat} {x y : Int32} (hn : n ≤ 6) (hx : vp_in x n) (hy : vp_in y n) : vp_in (6 * x + y) 36 := by
  obtain ⟨i, hi, rfl⟩ := vp_in_of hx (by omega)
  obtain ⟨j, hj, rfl⟩ := vp_in_of hy (by omega)
  rw [vz_ixN]
  exact vp_in_nI (by omega) (by omega)
theorem vz_ixC {i j : Nat} (hi : i < 6) (hj : j < 6) : (6 * nI i + nI j).toNatClampNeg = 6 * i + j := by
  rw [vz_ixN, nI_clamp (by omega)]
