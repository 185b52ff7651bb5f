/-! sums; bit counts -/
def sm (f : Nat → Nat) : Nat → Nat → Nat
  | 0, _ => 0
  | k + 1, i => f i + sm f k (i + 1)
theorem sm_top (f : Nat → Nat) : ∀ k i, sm f (k + 1) i = sm f k i + f (i + k)
  | 0, i => by
    show f i + 0 = 0 + f (i + 0)
    rw [Nat.add_zero, Nat.add_zero, Nat.zero_add]
  | k + 1, i => by
    show f i + sm f (k + 1) (i + 1) = f i + sm f k (i + 1) + f (i + (k + 1))
    rw [sm_top f k (i + 1), show i + 1 + k = i + (k + 1) by omega]; omega
theorem sm_congr {f g : Nat → Nat} : ∀ k i, (∀ t, i ≤ t → t < i + k → f t = g t) → sm f k i = sm g k i
  | 0, _, _ => rfl
  | k + 1, i, h => by
    show f i + _ = g i + _
    rw [h i (by omega) (by omega), sm_congr k (i + 1) (fun t h1 h2 => h t (by omega) (by omega))]
theorem sm_add (f g : Nat → Nat) : ∀ k i, sm (fun t => f t + g t) k i = sm f k i + sm g k i
  | 0, _ => rfl
  | k + 1, i => by
    show f i + g i + _ = f i + _ + (g i + _)
    rw [sm_add f g k (i + 1)]; omega
theorem sm_0 : ∀ k i, sm (fun _ => 0) k i = 0
  | 0, _ => rfl
  | k + 1, i => by show 0 + _ = 0; rw [sm_0 k (i + 1)]
theorem sm_swap (g : Nat → Nat → Nat) (k2 i2 : Nat) : ∀ k1 i1, sm (fun a => sm (fun b => g a b) k2 i2) k1 i1 = sm (fun b => sm (fun a => g a b) k1 i1) k2 i2
  | 0, i1 => (sm_0 k2 i2).symm
  | k1 + 1, i1 => by
    show sm (fun b => g i1 b) k2 i2 + sm (fun a => sm (fun b => g a b) k2 i2) k1 (i1 + 1) = sm (fun b => g i1 b + sm (fun a => g a b) k1 (i1 + 1)) k2 i2
    rw [sm_swap g k2 i2 k1 (i1 + 1), sm_add]
theorem sm_le {f : Nat → Nat} {c : Nat} (h : ∀ t, f t ≤ c) : ∀ k i, sm f k i ≤ k * c
  | 0, _ => by show 0 ≤ _; omega
  | k + 1, i => by
    have h1 := h i
    have h2 := sm_le h k (i + 1)
    have e : (k + 1) * c = k * c + c := Nat.succ_mul k c
    show f i + sm f k (i + 1) ≤ (k + 1) * c
    omega
theorem cb_sm (f : Nat → Bool) : ∀ n, cb f n = sm (fun t => if f t = true then 1 else 0) n 0
  | 0 => rfl
  | n + 1 => by
    rw [sm_top, cb, cb_sm f n, Nat.zero_add]
/-- the sum from u + 1 on -/
theorem sm_above (f : Nat → Nat) (u : Nat) : ∀ n, u < n → sm (fun t => if u < t then f t else 0) n 0 = sm f (n - (u + 1)) (u + 1)
  | 0, h => by omega
  | n + 1, h => by
    rw [sm_top, Nat.zero_add]
    by_cases c : u < n
    · rw [sm_above f u n c, if_pos c, show n + 1 - (u + 1) = (n - (u + 1)) + 1 by omega, sm_top, show u + 1 + (n - (u + 1)) = n by omega]
    · have e : n = u := by omega
      subst e
      rw [if_neg c, Nat.sub_self]
      show _ + 0 = 0
      rw [sm_congr n 0 (fun t _ ht => if_neg (show ¬ n < t by omega)), sm_0]
/-- a sum over all pairs is twice the sum over the rising ones -/
theorem sm_sym (g : Nat → Nat → Nat) (hs : ∀ a b, g a b = g b a) (h0 : ∀ a, g a a = 0) : ∀ n, sm (fun a => sm (fun b => g a b) n 0) n 0 = 2 * sm (fun a => sm (fun b => g a b) (n - (a + 1)) (a + 1)) n 0
  | 0 => rfl
  | n + 1 => by
    have ih := sm_sym g hs h0 n
    have e1 : sm (fun a => sm (fun b => g a b) (n + 1) 0) (n + 1) 0 = sm (fun a => sm (fun b => g a b) n 0) n 0 + sm (fun a => g a n) n 0 + sm (fun b => g n b) n 0 := by
      rw [sm_top, Nat.zero_add]
      have : sm (fun a => sm (fun b => g a b) (n + 1) 0) n 0 = sm (fun a => sm (fun b => g a b) n 0) n 0 + sm (fun a => g a n) n 0 := by
        rw [← sm_add]
        exact sm_congr n 0 (fun t _ _ => by rw [sm_top, Nat.zero_add])
      rw [this, sm_top, Nat.zero_add, h0]
      omega
    have e2 : sm (fun b => g n b) n 0 = sm (fun a => g a n) n 0 := sm_congr n 0 (fun t _ _ => hs n t)
    have e3 : sm (fun a => sm (fun b => g a b) (n + 1 - (a + 1)) (a + 1)) (n + 1) 0 = sm (fun a => sm (fun b => g a b) (n - (a + 1)) (a + 1)) n 0 + sm (fun a => g a n) n 0 := by
      rw [sm_top, Nat.zero_add, Nat.sub_self]
      show sm (fun a => sm (fun b => g a b) (n + 1 - (a + 1)) (a + 1)) n 0 + 0 = _
      rw [Nat.add_zero, ← sm_add]
      refine sm_congr n 0 (fun t _ ht => ?_)
      rw [show n + 1 - (t + 1) = (n - (t + 1)) + 1 by omega, sm_top, show t + 1 + (n - (t + 1)) = n by omega]
    rw [e1, e2, e3, ih]; omega
/-- numbers below 512 by their bits -/
theorem of_bits {x : Int32} {m : Nat} (hm : m ≤ 9) (h : ∀ w, bt x w = true → w < m) : ∃ k, k < 2 ^ m ∧ x = nI k := by
  refine ⟨x.toBitVec.toNat, Nat.lt_pow_two_of_testBit _ (fun i hi => ?_), ?_⟩
  · rcases hb : x.toBitVec.toNat.testBit i with _ | _
    · rfl
    · have : bt x i = true := by
        unfold bt
        rw [BitVec.getLsbD]
        exact hb
      have := h i this; omega
  · apply Int32.toBitVec_inj.1
    show x.toBitVec = BitVec.ofNat 32 x.toBitVec.toNat
    simp
theorem bc_all : ∀ k, k < 512 → bitCount (nI k) = nI (cb (bt (nI k)) 9) := by decide +kernel
theorem ms_all : ∀ k, k < 64 → mSize (nI k) = nI (cb (bt (nI k)) 9) := by decide +kernel
theorem cb_ge (f : Nat → Bool) : ∀ (n d : Nat), (∀ i, n ≤ i → f i = false) → cb f (n + d) = cb f n
  | n, 0, _ => rfl
  | n, d + 1, h => by
    show cb f (n + d) + (if f (n + d) = true then 1 else 0) = _
    rw [cb_ge f n d h, if_neg (by rw [h (n + d) (by omega)]; decide), Nat.add_zero]
theorem bc_eq {x : Int32} {m : Nat} (hm : m ≤ 9) (h : ∀ w, bt x w = true → w < m) : bitCount x = nI (cb (bt x) m) := by
  obtain ⟨k, hk, rfl⟩ := of_bits hm h
  have h2 := vz_p512 hm
  rw [bc_all k (by omega)]
  congr 1
  rw [show 9 = m + (9 - m) by omega]
  exact cb_ge _ m (9 - m) (fun i hi => by
    rcases hb : bt (nI k) i with _ | _
    · rfl
    · have := h i hb; omega)
