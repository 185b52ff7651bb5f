/-! loose, turned, forget, first -/
theorem sm_shift (f : Nat → Nat) : ∀ k i, sm f k (i + 1) = sm (fun t => f (t + 1)) k i
  | 0, _ => rfl
  | k + 1, i => by
    show f (i + 1) + _ = f (i + 1) + _
    rw [sm_shift f k (i + 1)]
theorem sm_rev (f : Nat → Nat) : ∀ P, sm f P 0 = sm (fun j => f (P - 1 - j)) P 0
  | 0 => rfl
  | P + 1 => by
    rw [sm_top, Nat.zero_add, sm_rev f P]
    show _ = f (P + 1 - 1 - 0) + sm (fun j => f (P + 1 - 1 - j)) P 1
    rw [sm_shift, sm_congr (g := fun j => f (P + 1 - 1 - (j + 1))) (f := fun j => f (P - 1 - j)) P 0 (fun t _ ht => by
      show f (P - 1 - t) = f (P + 1 - 1 - (t + 1))
      congr 1; omega), show P + 1 - 1 - 0 = P by omega]
    omega
def lsm (s : Nat → Nat → Nat) : List (Nat × Nat) → Nat
  | [] => 0
  | q :: l => s q.1 q.2 + lsm s l
theorem lsm_app (s : Nat → Nat → Nat) (l2 : List (Nat × Nat)) : ∀ l1, lsm s (l1 ++ l2) = lsm s l1 + lsm s l2
  | [] => by show lsm s l2 = 0 + _; omega
  | q :: l1 => by
    show s q.1 q.2 + lsm s (l1 ++ l2) = s q.1 q.2 + lsm s l1 + _
    rw [lsm_app s l2 l1]; omega
theorem lsm_sm (s : Nat → Nat → Nat) : ∀ l : List (Nat × Nat), lsm s l = sm (fun j => s (l.getD j (0, 0)).1 (l.getD j (0, 0)).2) l.length 0
  | [] => rfl
  | q :: l => by
    show s q.1 q.2 + lsm s l = s q.1 q.2 + sm (fun j => s ((q :: l).getD j (0, 0)).1 ((q :: l).getD j (0, 0)).2) l.length 1
    rw [sm_shift, lsm_sm s l]
    rfl
section S2
variable {n : Nat} {fp fc mh mk : Nat → Int32}
theorem plI_lsm (s : Nat → Nat → Nat) (u : Nat) : ∀ k i, (∀ b, i ≤ b → b < i + k → mJoin mh (nI u) (nI b) = 0 → s u b = 0) → lsm s (plI mh u k i) = sm (fun b => s u b) k i
  | 0, _, _ => rfl
  | k + 1, i, h => by
    rw [plI]
    have ih := plI_lsm s u k (i + 1) (fun b h1 h2 => h b (by omega) (by omega))
    by_cases c : mJoin mh (nI u) (nI i) = 0
    · rw [if_pos c, ih]
      show _ = s u i + _
      rw [h i (by omega) (by omega) c, Nat.zero_add]
    · rw [if_neg c]
      show s u i + lsm s (plI mh u k (i + 1)) = s u i + _
      rw [ih]
theorem plO_lsm (s : Nat → Nat → Nat) : ∀ k i, i + k ≤ n → (∀ a b, a < b → b < n → mJoin mh (nI a) (nI b) = 0 → s a b = 0) → lsm s (plO mh n k i) = sm (fun a => sm (fun b => s a b) (n - (a + 1)) (a + 1)) k i
  | 0, _, _, _ => rfl
  | k + 1, i, hk, h => by
    rw [plO, lsm_app, plI_lsm s i _ _ (fun b h1 h2 hj => h i b (by omega) (by omega) hj), plO_lsm s k (i + 1) (by omega) h]
    rfl
/-- a sum over all pairs, of a thing that only joined ones have, over the list -/
theorem tab_sum (hn : n ≤ 6) (F : Nat → Nat → Nat) (h0 : ∀ a b, ¬ (a < n ∧ b < n ∧ a ≠ b ∧ ¬ mJoin mh (nI a) (nI b) = 0) → F a b = 0) : sm (fun a => sm (fun b => F a b) n 0) n 0 = sm (fun j => F ((plO mh n n 0).getD j (0, 0)).1 ((plO mh n n 0).getD j (0, 0)).2 + F ((plO mh n n 0).getD j (0, 0)).2 ((plO mh n n 0).getD j (0, 0)).1) (plO mh n n 0).length 0 := by
  have e1 := sm_sym (fun a b => F a b + F b a) (fun a b => Nat.add_comm _ _) (fun a => by rw [h0 a a (fun q => q.2.2.1 rfl)]) n
  have e2 : sm (fun a => sm (fun b => F a b + F b a) n 0) n 0 = sm (fun a => sm (fun b => F a b) n 0) n 0 + sm (fun a => sm (fun b => F a b) n 0) n 0 := by
    have : sm (fun a => sm (fun b => F a b + F b a) n 0) n 0 = sm (fun a => sm (fun b => F a b) n 0 + sm (fun b => F b a) n 0) n 0 := sm_congr n 0 (fun a _ _ => sm_add _ _ n 0)
    rw [this, sm_add, ← sm_swap (fun b a => F b a) n 0 n 0]
  have e3 := plO_lsm (n := n) (mh := mh) (fun a b => F a b + F b a) n 0 (by omega) (fun a b hab hb hj => by
    show F a b + F b a = 0
    rw [h0 a b (fun q => q.2.2.2 hj), h0 b a (fun q => q.2.2.2 ((join_sym hn (by omega) hb).mp hj))])
  rw [lsm_sm] at e3
  rw [e3]
  omega
/-- bits of a number by the pairs -/
theorem bits_sum {x : Int32} {P : Nat} (hP : P ≤ 9) (hx : ∀ w, bt x w = true → w < P) (f : Nat → Nat) (hf : ∀ j, j < P → f j = (if bt x (P - 1 - j) = true then 1 else 0)) : bitCount x = nI (sm f P 0) := by
  rw [bc_eq hP hx, cb_sm, sm_rev, sm_congr P 0 (fun j _ hj => (hf j (by omega)).symm)]
theorem mForget_L4_eq : ∀ (k i c : Nat), i + k ≤ 36 → mForget_L4 mk k i (nI c) = (nI (c + sm (iA mk) k i), mForgetAll mk)
  | 0, i, c, _ => rfl
  | k + 1, i, c, h => by
    rw [mForget_L4, nI_clamp (by omega)]
    show _ = (nI (c + (iA mk i + _)), _)
    unfold iA
    by_cases d : mk i = 0
    · rw [if_pos d, if_pos d, mForget_L4_eq k (i + 1) c (by omega), Nat.zero_add]; rfl
    · rw [if_neg d, if_neg d, nI_1, mForget_L4_eq k (i + 1) (c + 1) (by omega), Nat.add_assoc]; rfl
theorem cntK (hn : n ≤ 6) {kb kc : Int32} (hk : kRel n mh mk kb kc) : sm (iA mk) 36 0 = sm (fun a => sm (fun b => (if a < n ∧ b < n then iA mk (6 * a + b) else 0)) n 0) n 0 := by
  rw [sm_36]
  obtain ⟨d, hd⟩ : ∃ d, 6 = n + d := ⟨6 - n, by omega⟩
  have z : ∀ a b, a < 6 → b < 6 → ¬ (a < n ∧ b < n) → iA mk (6 * a + b) = 0 := fun a b ha hb hor => by
    unfold iA
    by_cases c : mk (6 * a + b) = 0
    · rw [if_pos c]
    · have := hk.2.1 a b ha hb c
      exact absurd ⟨this.1, this.2.1⟩ hor
  have e1 : sm (fun a => sm (fun b => iA mk (6 * a + b)) 6 0) 6 0 = sm (fun a => sm (fun b => (if a < n ∧ b < n then iA mk (6 * a + b) else 0)) n 0) 6 0 := by
    refine sm_congr 6 0 (fun a _ ha => ?_)
    have e2 : sm (fun b => iA mk (6 * a + b)) 6 0 = sm (fun b => (if a < n ∧ b < n then iA mk (6 * a + b) else 0)) 6 0 := by
      refine sm_congr 6 0 (fun b _ hb => ?_)
      by_cases c : a < n ∧ b < n
      · rw [if_pos c]
      · rw [if_neg c]; exact z a b (by omega) (by omega) c
    rw [e2]
    have := sm_cut (n := n) (fun b => (if a < n ∧ b < n then iA mk (6 * a + b) else 0)) d (fun t h1 h2 => if_neg (by omega))
    rw [← hd] at this; exact this
  rw [e1]
  have := sm_cut (n := n) (fun a => sm (fun b => (if a < n ∧ b < n then iA mk (6 * a + b) else 0)) n 0) d (fun t h1 h2 => by
    rw [sm_congr (g := fun _ => 0) n 0 (fun b _ hb => if_neg (by omega)), sm_0])
  rw [← hd] at this; exact this
theorem eq_forget (hn : n ≤ 6) {kb kc : Int32} (hP : (plO mh n n 0).length ≤ 9) (hk : kRel n mh mk kb kc) : kUnfix kb = (mForget mk).1 := by
  rw [mForget, ← nI_0, mForget_L4_eq 36 0 0 (by omega), Nat.zero_add, cntK hn hk]
  rw [tab_sum (mh := mh) hn (fun a b => if a < n ∧ b < n then iA mk (6 * a + b) else 0) (fun a b h => by
    show (if a < n ∧ b < n then iA mk (6 * a + b) else 0) = 0
    by_cases c : a < n ∧ b < n
    · rw [if_pos c]
      unfold iA
      by_cases d : mk (6 * a + b) = 0
      · rw [if_pos d]
      · have := hk.2.1 a b (by omega) (by omega) d
        exact absurd ⟨this.1, this.2.1, this.2.2.1, this.2.2.2.1⟩ h
    · rw [if_neg c])]
  refine bits_sum hP (fun w hw => ?_) _ (fun j hj => ?_)
  · rcases Nat.lt_or_ge w (plO mh n n 0).length with g | g
    · exact g
    · rw [(hk.2.2.2 w g).1] at hw; cases hw
  · obtain ⟨u, v, e⟩ : ∃ u v, (plO mh n n 0).getD j (0, 0) = (u, v) := ⟨_, _, rfl⟩
    have hm := pl_mem hj
    rw [e] at hm ⊢
    have hm1 : u < v := hm.1
    have hm2 : v < n := hm.2.1
    have hkj := (hk.2.2.1 j u v hj e).1
    show (if u < n ∧ v < n then iA mk (6 * u + v) else 0) + (if v < n ∧ u < n then iA mk (6 * v + u) else 0) = _
    rw [if_pos (show u < n ∧ v < n from ⟨by omega, hm2⟩), if_pos (show v < n ∧ u < n from ⟨hm2, by omega⟩)]
    unfold iA
    by_cases c1 : mk (6 * u + v) = 0
    · by_cases c2 : mk (6 * v + u) = 0
      · rw [if_pos c1, if_pos c2, if_neg (fun q => (hkj.mp q).elim (fun z => z c1) (fun z => z c2))]
      · rw [if_pos c1, if_neg c2, if_pos (hkj.mpr (Or.inr c2))]
    · rw [if_neg c1, if_pos (hk.2.1 u v (by omega) (by omega) c1).2.2.2.2, if_pos (hkj.mpr (Or.inl c1))]
/-! loose -/
theorem mLoose_L8_eq (hn : n ≤ 6) {mt mv mb ml mg : Nat → Int32} {mc : Int32} {Q : Nat} (hP : (plO mh n n 0).length ≤ 9) {l' g' v' t' b' : Nat → Int32} {a' : Int32} (E : mGo n mh mk mt mv mb ml mg mc Q = ((plO mh n n 0).length, l', g', a', v', t', b')) (hl : ∀ j, j < (plO mh n n 0).length → l' j = nI ((plO mh n n 0).getD j (0, 0)).1 ∧ g' j = nI ((plO mh n n 0).getD j (0, 0)).2) (hm : MS n mh (memB n mh mk) (2 ^ (plO mh n n 0).length) a' v' b') : ∀ (k i c : Nat), i + k = (plO mh n n 0).length →
    mLoose_L8 n mh mk mt mv mb ml mg mc Q k i (nI c) = (nI (c + sm (fun j => if ¬ hvN n mh mk (2 ^ (plO mh n n 0).length) ((plO mh n n 0).getD j (0, 0)).1 ((plO mh n n 0).getD j (0, 0)).2 = 0 ∧ hvN n mh mk (2 ^ (plO mh n n 0).length) ((plO mh n n 0).getD j (0, 0)).1 ((plO mh n n 0).getD j (0, 0)).2 < cb (memB n mh mk) (2 ^ (plO mh n n 0).length) then 1 else 0) k i), (plO mh n n 0).length, l', g', a', v', t', b')
  | 0, i, c, h => by rw [mLoose_L8, E]; rfl
  | k + 1, i, c, h => by
    have hi : i < (plO mh n n 0).length := by omega
    have hpm := pl_mem hi
    have h512 := vz_p512 hP
    have hc := cb_le (memB n mh mk) (2 ^ (plO mh n n 0).length)
    have hh : hvN n mh mk (2 ^ (plO mh n n 0).length) ((plO mh n n 0).getD i (0, 0)).1 ((plO mh n n 0).getD i (0, 0)).2 ≤ 2 ^ (plO mh n n 0).length := cb_le _ _
    have ev : v' (6 * ((plO mh n n 0).getD i (0, 0)).1 + ((plO mh n n 0).getD i (0, 0)).2) = nI (hvN n mh mk (2 ^ (plO mh n n 0).length) ((plO mh n n 0).getD i (0, 0)).1 ((plO mh n n 0).getD i (0, 0)).2) := hm.2.1 _ (by omega)
    rw [mLoose_L8, E]
    show (if v' (6 * (l' (nI i).toNatClampNeg) + g' (nI i).toNatClampNeg).toNatClampNeg ≤ 0 then _ else if a' ≤ v' (6 * (l' (nI i).toNatClampNeg) + g' (nI i).toNatClampNeg).toNatClampNeg then _ else _) = (nI (c + ((if ¬ hvN n mh mk (2 ^ (plO mh n n 0).length) ((plO mh n n 0).getD i (0, 0)).1 ((plO mh n n 0).getD i (0, 0)).2 = 0 ∧ hvN n mh mk (2 ^ (plO mh n n 0).length) ((plO mh n n 0).getD i (0, 0)).1 ((plO mh n n 0).getD i (0, 0)).2 < cb (memB n mh mk) (2 ^ (plO mh n n 0).length) then 1 else 0) + _)), _)
    rw [nI_clamp (show i < 2 ^ 31 by omega), (hl i hi).1, (hl i hi).2, vz_ixC (by omega) (by omega), ev, hm.1]
    have q1 : nI (hvN n mh mk (2 ^ (plO mh n n 0).length) ((plO mh n n 0).getD i (0, 0)).1 ((plO mh n n 0).getD i (0, 0)).2) ≤ 0 ↔ hvN n mh mk (2 ^ (plO mh n n 0).length) ((plO mh n n 0).getD i (0, 0)).1 ((plO mh n n 0).getD i (0, 0)).2 ≤ 0 := by rw [← nI_0]; exact nI_leI (by omega) (by omega)
    have q2 : nI (cb (memB n mh mk) (2 ^ (plO mh n n 0).length)) ≤ nI (hvN n mh mk (2 ^ (plO mh n n 0).length) ((plO mh n n 0).getD i (0, 0)).1 ((plO mh n n 0).getD i (0, 0)).2) ↔ cb (memB n mh mk) (2 ^ (plO mh n n 0).length) ≤ hvN n mh mk (2 ^ (plO mh n n 0).length) ((plO mh n n 0).getD i (0, 0)).1 ((plO mh n n 0).getD i (0, 0)).2 := nI_leI (by omega) (by omega)
    by_cases c1 : hvN n mh mk (2 ^ (plO mh n n 0).length) ((plO mh n n 0).getD i (0, 0)).1 ((plO mh n n 0).getD i (0, 0)).2 ≤ 0
    · rw [if_pos (q1.mpr c1), if_neg (by omega), mLoose_L8_eq hn hP E hl hm k (i + 1) c (by omega), Nat.zero_add, hm.1]
    · rw [if_neg (fun z => c1 (q1.mp z))]
      by_cases c2 : cb (memB n mh mk) (2 ^ (plO mh n n 0).length) ≤ hvN n mh mk (2 ^ (plO mh n n 0).length) ((plO mh n n 0).getD i (0, 0)).1 ((plO mh n n 0).getD i (0, 0)).2
      · rw [if_pos (q2.mpr c2), if_neg (by omega), mLoose_L8_eq hn hP E hl hm k (i + 1) c (by omega), Nat.zero_add, hm.1]
      · rw [if_neg (fun z => c2 (q2.mp z)), if_pos (by omega), nI_1, mLoose_L8_eq hn hP E hl hm k (i + 1) (c + 1) (by omega), Nat.add_assoc, hm.1]
theorem sf_lt {m : Nat} {ct fi sf af : Int32} {P : Nat} (hm : m ≤ 2 ^ P) (hg : GS (memB n mh mk) m ct fi sf af) (t : Nat) (h : bt sf t = true) : t < P := by
  obtain ⟨w, h1, _, h3⟩ := (hg.2.2.1 t).mp h
  rcases Nat.lt_or_ge t P with q | q
  · exact q
  · have : w < 2 ^ t := Nat.lt_of_lt_of_le (by omega) (Nat.pow_le_pow_right (by decide) q)
    rw [Nat.testBit_lt_two_pow this] at h3; cases h3
theorem eq_loose (hn : n ≤ 6) {ct fi sf af : Int32} (hP : (plO mh n n 0).length ≤ 9) (hg : GS (memB n mh mk) (2 ^ (plO mh n n 0).length) ct fi sf af) : bitCount (sf &&& (af ^^^ (-1))) = nI (sm (fun j => if ¬ hvN n mh mk (2 ^ (plO mh n n 0).length) ((plO mh n n 0).getD j (0, 0)).1 ((plO mh n n 0).getD j (0, 0)).2 = 0 ∧ hvN n mh mk (2 ^ (plO mh n n 0).length) ((plO mh n n 0).getD j (0, 0)).1 ((plO mh n n 0).getD j (0, 0)).2 < cb (memB n mh mk) (2 ^ (plO mh n n 0).length) then 1 else 0) (plO mh n n 0).length 0) := by
  refine bits_sum hP (fun w hw => ?_) _ (fun j hj => ?_)
  · rw [b_and, Bool.and_eq_true] at hw
    exact sf_lt (Nat.le_refl _) hg w hw.1
  · obtain ⟨u, v, e⟩ : ∃ u v, (plO mh n n 0).getD j (0, 0) = (u, v) := ⟨_, _, rfl⟩
    rw [e]
    have hs := sf_hv hn hg hP hj e
    have hsum := hv_sum (mk := mk) hn (m := 2 ^ (plO mh n n 0).length) hj e
    rw [b_and, b_not _ (by omega)]
    show (if ¬ hvN n mh mk (2 ^ (plO mh n n 0).length) u v = 0 ∧ hvN n mh mk (2 ^ (plO mh n n 0).length) u v < cb (memB n mh mk) (2 ^ (plO mh n n 0).length) then 1 else 0) = _
    by_cases c : ¬ hvN n mh mk (2 ^ (plO mh n n 0).length) u v = 0 ∧ hvN n mh mk (2 ^ (plO mh n n 0).length) u v < cb (memB n mh mk) (2 ^ (plO mh n n 0).length)
    · rw [if_pos c, if_pos]
      have h2 : bt af ((plO mh n n 0).length - 1 - j) = false := by
        rcases q : bt af ((plO mh n n 0).length - 1 - j) with _ | _
        · rfl
        · exact absurd (hs.2.mp q) c.1
      rw [hs.1.mpr (by omega), h2]; rfl
    · rw [if_neg c, if_neg]
      intro q
      rw [Bool.and_eq_true, Bool.not_eq_true'] at q
      have h1 := hs.1.mp q.1
      have h2 : ¬ hvN n mh mk (2 ^ (plO mh n n 0).length) u v = 0 := fun z => by
        rw [hs.2.mpr z] at q; exact absurd q.2 (by decide)
      exact c ⟨h2, by omega⟩
/-! turned -/
def gT (n : Nat) (mh b' : Nat → Int32) (u v : Nat) : Nat := if (u < n ∧ v < n) ∧ ¬ mh (6 * u + v) = 0 ∧ ¬ b' (6 * v + u) = 0 then 1 else 0
theorem mTurned_L18_eq (hn : n ≤ 6) {mt mv mb ml mg : Nat → Int32} {mc : Int32} {Q : Nat} {R : Nat × (Nat → Int32) × (Nat → Int32) × Int32 × (Nat → Int32) × (Nat → Int32) × (Nat → Int32)} (E : mGo n mh mk mt mv mb ml mg mc Q = R) {u : Nat} (hu : u < n) (c8 : Int32) (kk : Int32 → Int32 × Nat × (Nat → Int32) × (Nat → Int32) × Int32 × (Nat → Int32) × (Nat → Int32) × (Nat → Int32)) : ∀ (k i c : Nat), i + k ≤ n →
    mTurned_L18 n mh mk mt mv mb ml mg mc Q u c8 kk k i (nI c) = kk (nI (c + sm (fun v => gT n mh R.2.2.2.2.2.2 u v) k i))
  | 0, i, c, _ => rfl
  | k + 1, i, c, h => by
    rw [mTurned_L18, E, vz_ixC (by omega) (by omega), vz_ixC (by omega) (by omega)]
    show _ = kk (nI (c + (gT n mh R.2.2.2.2.2.2 u i + _)))
    unfold gT
    by_cases c1 : mh (6 * u + i) = 0
    · rw [if_pos c1, if_neg (fun q => q.2.1 c1), mTurned_L18_eq hn E hu c8 kk k (i + 1) c (by omega), Nat.zero_add]; rfl
    · rw [if_neg c1]
      by_cases c2 : R.2.2.2.2.2.2 (6 * i + u) = 0
      · rw [if_pos c2, if_neg (fun q => q.2.2 c2), mTurned_L18_eq hn E hu c8 kk k (i + 1) c (by omega), Nat.zero_add]; rfl
      · rw [if_neg c2, if_pos ⟨⟨hu, by omega⟩, c1, c2⟩, nI_1, mTurned_L18_eq hn E hu c8 kk k (i + 1) (c + 1) (by omega), Nat.add_assoc]; rfl
theorem mTurned_L8_eq (hn : n ≤ 6) {mt mv mb ml mg : Nat → Int32} {mc : Int32} {Q : Nat} {R : Nat × (Nat → Int32) × (Nat → Int32) × Int32 × (Nat → Int32) × (Nat → Int32) × (Nat → Int32)} (E : mGo n mh mk mt mv mb ml mg mc Q = R) : ∀ (k i c : Nat), i + k ≤ n →
    mTurned_L8 n mh mk mt mv mb ml mg mc Q k i (nI c) = (nI (c + sm (fun u => sm (fun v => gT n mh R.2.2.2.2.2.2 u v) n 0) k i), R)
  | 0, i, c, _ => by rw [mTurned_L8, E]; rfl
  | k + 1, i, c, h => by
    rw [mTurned_L8, mTurned_L18_eq hn E (by omega) (nI c) _ n 0 c (by omega), mTurned_L8_eq hn E k (i + 1) _ (by omega)]
    show _ = (nI (c + (sm (fun v => gT n mh R.2.2.2.2.2.2 i v) n 0 + _)), R)
    rw [Nat.add_assoc]
theorem eq_turned (hn : n ≤ 6) (h : gRel n fp fc mh) (hP : (plO mh n n 0).length ≤ 9) {b' : Nat → Int32} {w0 : Nat} (hw : w0 < 2 ^ (plO mh n n 0).length) (hb : ∀ x, x < 36 → b' x = tW n mh w0 x) : bitCount (nI w0 ^^^ nI (accB (fallN mh) 0 (plO mh n n 0))) = nI (sm (fun u => sm (fun v => gT n mh b' u v) n 0) n 0) := by
  have h512 := vz_p512 hP
  have hd := accB_lt (fallN mh) fallN_le (plO mh n n 0) 0 0 (by decide)
  rw [Nat.zero_add] at hd
  rw [tab_sum (mh := mh) hn (gT n mh b') (fun a b hno => by
    unfold gT
    refine if_neg (fun q => hno ?_)
    obtain ⟨h1, h2, h3, h4⟩ := h.1 a b (by omega) (by omega) q.2.1
    exact ⟨h1, h2, h3, by rw [mJoin_eq hn h1 h2]; exact fun z => z (Or.inl ⟨h1, h2, q.2.1⟩)⟩)]
  refine bits_sum hP (fun w hw2 => ?_) _ (fun j hj => ?_)
  · rw [b_xor, nI_bt (by omega), nI_bt (by omega)] at hw2
    rcases Nat.lt_or_ge w (plO mh n n 0).length with g | g
    · exact g
    · have p := Nat.pow_le_pow_right (n := 2) (by decide) g
      rw [Nat.testBit_lt_two_pow (by omega), Nat.testBit_lt_two_pow (by omega)] at hw2
      cases hw2
  · obtain ⟨u, v, e⟩ : ∃ u v, (plO mh n n 0).getD j (0, 0) = (u, v) := ⟨_, _, rfl⟩
    have hm := pl_mem hj
    rw [e] at hm ⊢
    have hm1 : u < v := hm.1
    have hm2 : v < n := hm.2.1
    have hmj := hm.2.2
    have hmj : ¬ mJoin mh (nI u) (nI v) = 0 := hmj
    rw [mJoin_eq hn (by omega) hm2] at hmj
    rw [b_xor, nI_bt (by omega), nI_bt (by omega), accB_at _ fallN_le _ 0 j hj, e]
    show gT n mh b' u v + gT n mh b' v u = _
    unfold gT fallN
    rw [hb (6 * v + u) (by omega), hb (6 * u + v) (by omega)]
    have hup := tW_up hn w0 hj e
    show _ = if (w0.testBit ((plO mh n n 0).length - 1 - j) ^^ decide ((if mh (6 * v + u) = 0 then 0 else 1) = 1)) = true then 1 else 0
    rcases q : w0.testBit ((plO mh n n 0).length - 1 - j) with _ | _
    · have t2 : tW n mh w0 (6 * v + u) = 0 := Classical.byContradiction (fun z => by rw [hup.2.mp z] at q; cases q)
      rw [if_neg (fun z => z.2.2 t2)]
      by_cases c : mh (6 * v + u) = 0
      · rw [if_neg (fun z => z.2.1 c), if_pos c]; rfl
      · rw [if_pos ⟨⟨hm2, by omega⟩, c, hup.1.mpr q⟩, if_neg c]; rfl
    · have t1 : tW n mh w0 (6 * u + v) = 0 := Classical.byContradiction (fun z => by rw [hup.1.mp z] at q; cases q)
      rw [if_neg (show ¬ ((v < n ∧ u < n) ∧ ¬ mh (6 * v + u) = 0 ∧ ¬ tW n mh w0 (6 * u + v) = 0) from fun z => z.2.2 t1)]
      by_cases c : mh (6 * v + u) = 0
      · have c1 : ¬ mh (6 * u + v) = 0 := fun z => hmj (fun y => y.elim (fun y => y.2.2 z) (fun y => y.2.2 c))
        rw [if_pos ⟨⟨by omega, hm2⟩, c1, hup.2.mpr q⟩, if_pos c]; rfl
      · have c1 : mh (6 * u + v) = 0 := (h.1 v u (by omega) (by omega) c).2.2.2
        rw [if_neg (fun z => z.2.1 c1), if_neg c]; rfl
end S2
