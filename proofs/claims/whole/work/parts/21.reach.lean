/-! what a node reaches: class and reference -/
theorem hH0 (s : Int32) {i : Nat} (hi : i < 32) : hHolds s (nI i) = 0 ↔ bt s i = false := by
  unfold hHolds
  rw [← b_at0 s hi]
  by_cases h : (s >>> (nI i &&& 31)) &&& 1 = 0
  · rw [if_pos h]; exact ⟨fun _ => h, fun _ => rfl⟩
  · rw [if_neg h]; exact ⟨fun a => absurd a (by decide), fun a => absurd a h⟩
theorem hHt {s : Int32} {i : Nat} (hi : i < 32) (h : bt s i = true) : ¬ hHolds s (nI i) = 0 := fun a => by
  rw [(hH0 s hi).mp a] at h; cases h
theorem hHf {s : Int32} {i : Nat} (hi : i < 32) (h : ¬ bt s i = true) : hHolds s (nI i) = 0 := (hH0 s hi).mpr (by simpa using h)
theorem reach_of_sweep {T : Int32 → Int32} {G : Nat → Nat → Prop} {n u k : Nat} (hn : n ≤ 6) (hG : ∀ a b, G a b → a < n ∧ b < n) (h1 : ∀ f w, bt f w = true → bt (T f) w = true)
    (h2 : ∀ (X : Nat → Prop), (∀ a b, X a → G a b → X b) → ∀ f, (∀ w, bt f w = true → X w) → ∀ w, bt (T f) w = true → X w) (h3 : ∀ f, T f = f → ∀ a b, bt f a = true → G a b → bt f b = true) (hk : n ≤ k + 1) (hu : u < n) (w : Nat) :
    bt (itN T k ((1 : Int32) <<< (nI u &&& 31))) w = true ↔ dp_Reach G u w := by
  have h0 : ∀ w, bt ((1 : Int32) <<< (nI u &&& 31)) w = true ↔ w = u := fun w => by rw [b_one (by omega)]; exact decide_eq_true_iff
  have hI : ∀ f, (∀ w, bt f w = true → w < n) → ∀ w, bt (T f) w = true → w < n := fun f hf => h2 (fun w => w < n) (fun a b _ h => (hG a b h).2) f hf
  have hst : T (itN T k ((1 : Int32) <<< (nI u &&& 31))) = itN T k ((1 : Int32) <<< (nI u &&& 31)) := by
    refine itN_stays (I := fun f => ∀ w, bt f w = true → w < n) (μ := fun f => cb (bt f) n) (N := n) hI (fun f _ => cb_le _ _) (fun f hf hne => ?_) k _ (fun w h => by rw [(h0 w).mp h]; exact hu) ?_
    · refine cb_lt n (fun i _ h => h1 f i h) ?_
      refine Classical.byContradiction (fun hno => hne (b_ext' (fun i => ?_)))
      rcases hb : bt f i with _ | _
      · rcases hc : bt (T f) i with _ | _
        · rfl
        · exact absurd ⟨i, hI f hf i hc, hb, hc⟩ hno
      · exact h1 f i hb
    · have := cb_pos (f := bt ((1 : Int32) <<< (nI u &&& 31))) n u hu ((h0 u).mpr rfl)
      show n ≤ cb (bt ((1 : Int32) <<< (nI u &&& 31))) n + k
      omega
  constructor
  · intro h
    exact itN_inv (I := fun f => ∀ w, bt f w = true → dp_Reach G u w) (fun f hf => h2 (dp_Reach G u) (fun a b ha hb => dp_Reach_snoc ha hb) f hf) k _ (fun w h => by rw [(h0 w).mp h]; exact dp_Reach_refl G u) w h
  · intro ⟨d, hd⟩
    have hu' : bt (itN T k ((1 : Int32) <<< (nI u &&& 31))) u = true := itN_inv (I := fun f => bt f u = true) (fun f hf => h1 f u hf) k _ ((h0 u).mpr rfl)
    generalize itN T k ((1 : Int32) <<< (nI u &&& 31)) = f at hst hu' ⊢
    clear h0 hu
    induction d generalizing u with
    | zero => have hd : u = w := hd; rw [← hd]; exact hu'
    | succ d ih =>
      obtain ⟨z, hz, hd⟩ := hd
      exact ih hd (h3 f hst u z hu' hz)
/-! the class -/
def swC (fc : Nat → Int32) : Nat → Nat → Int32 → Int32
  | 0, _, f => f
  | k + 1, i, f => swC fc k (i + 1) (if bt f i = true then f ||| fc i else f)
theorem gReach_L17_eq (n : Nat) (fc : Nat → Int32) (u : Int32) (a : Nat) (b : Int32) (kk : Int32 → Int32) : ∀ (k i : Nat) (f : Int32), i + k ≤ 32 → gReach_L17 n fc u a b kk k i f = kk (swC fc k i f)
  | 0, _, _, _ => rfl
  | k + 1, i, f, h => by
    rw [gReach_L17, swC]
    by_cases c : bt f i = true
    · rw [if_neg (hHt (by omega) c), if_pos c, nI_clamp (by omega)]
      exact gReach_L17_eq n fc u a b kk k (i + 1) _ (by omega)
    · rw [if_pos (hHf (by omega) c), if_neg c]
      exact gReach_L17_eq n fc u a b kk k (i + 1) _ (by omega)
theorem gReach_L6_eq {n : Nat} (hn : n ≤ 6) (fc : Nat → Int32) (u : Int32) : ∀ (k i : Nat) (f : Int32), gReach_L6 n fc u k i f = itN (swC fc n 0) k f
  | 0, _, _ => rfl
  | k + 1, i, f => by
    rw [gReach_L6, gReach_L17_eq n fc u i f _ n 0 f (by omega)]
    exact gReach_L6_eq hn fc u k (i + 1) _
theorem swC_up (fc : Nat → Int32) : ∀ (k i : Nat) (f : Int32) (w : Nat), bt f w = true → bt (swC fc k i f) w = true
  | 0, _, _, _, h => h
  | k + 1, i, f, w, h => by
    rw [swC]
    refine swC_up fc k (i + 1) _ w ?_
    split
    · rw [b_or, h]; rfl
    · exact h
theorem swC_in (fc : Nat → Int32) (X : Nat → Prop) : ∀ (k i : Nat) (f : Int32), (∀ a b, i ≤ a → a < i + k → X a → bt (fc a) b = true → X b) → (∀ w, bt f w = true → X w) → ∀ w, bt (swC fc k i f) w = true → X w
  | 0, _, _, _, h => h
  | k + 1, i, f, hX, h => by
    rw [swC]
    refine swC_in fc X k (i + 1) _ (fun a b h1 h2 => hX a b (by omega) (by omega)) (fun w hw => ?_)
    by_cases c : bt f i = true
    · rw [if_pos c, b_or, Bool.or_eq_true] at hw
      rcases hw with hw | hw
      · exact h w hw
      · exact hX i w (by omega) (by omega) (h i c) hw
    · rw [if_neg c] at hw; exact h w hw
theorem swC_cl (fc : Nat → Int32) : ∀ (k i : Nat) (f : Int32), swC fc k i f = f → ∀ a b, i ≤ a → a < i + k → bt f a = true → bt (fc a) b = true → bt f b = true
  | 0, _, _, _, a, b, h1, h2 => by omega
  | k + 1, i, f, h, a, b, h1, h2 => by
    rw [swC] at h
    by_cases c : bt f i = true
    · rw [if_pos c] at h
      have e : f ||| fc i = f := b_ext' (fun j => by
        rcases hj : bt f j with _ | _
        · rcases hk : bt (f ||| fc i) j with _ | _
          · rfl
          · have := swC_up fc k (i + 1) _ j hk
            rw [h, hj] at this; exact this.symm
        · rw [b_or, hj]; rfl)
      intro ha hb
      by_cases d : a = i
      · subst d
        rw [← e, b_or, hb, Bool.or_true]
      · rw [e] at h
        exact swC_cl fc k (i + 1) f h a b (by omega) (by omega) ha hb
    · rw [if_neg c] at h
      intro ha hb
      by_cases d : a = i
      · subst d; exact absurd ha c
      · exact swC_cl fc k (i + 1) f h a b (by omega) (by omega) ha hb
theorem gReach_spec {n u : Nat} {fc : Nat → Int32} {G : Nat → Nat → Prop} (hn : n ≤ 6) (hu : u < n) (hG : ∀ a b, G a b → a < n ∧ b < n) (hc : ∀ a b, a < n → (bt (fc a) b = true ↔ G a b)) (w : Nat) : bt (gReach n fc (nI u)) w = true ↔ dp_Reach G u w := by
  rw [gReach, gReach_L6_eq hn]
  refine reach_of_sweep hn hG (fun f w h => swC_up fc n 0 f w h) (fun X hX f hf => swC_in fc X n 0 f (fun a b _ h2 ha hb => hX a b ha ((hc a b (by omega)).mp hb)) hf) (fun f hf a b ha hb => swC_cl fc n 0 f hf a b (by omega) (by have := (hG a b hb).1; omega) ha ((hc a b (hG a b hb).1).mpr hb)) (by omega) hu w
/-! the reference -/
def swB (mh : Nat → Int32) (a : Nat) : Nat → Nat → Int32 → Int32
  | 0, _, f => f
  | k + 1, j, f => swB mh a k (j + 1) (if mh (6 * a + j) = 0 then f else f ||| (1 : Int32) <<< (nI j &&& 31))
def swM (mh : Nat → Int32) (n : Nat) : Nat → Nat → Int32 → Int32
  | 0, _, f => f
  | k + 1, a, f => swM mh n k (a + 1) (if bt f a = true then swB mh a n 0 f else f)
theorem swB_bt (mh : Nat → Int32) (a : Nat) : ∀ (k j : Nat) (f : Int32) (w : Nat), j + k ≤ 32 → (bt (swB mh a k j f) w = true ↔ bt f w = true ∨ (j ≤ w ∧ w < j + k ∧ ¬ mh (6 * a + w) = 0))
  | 0, j, f, w, _ => ⟨fun h => Or.inl h, fun h => h.elim id (fun h => by omega)⟩
  | k + 1, j, f, w, h => by
    rw [swB, swB_bt mh a k (j + 1) _ w (by omega)]
    by_cases c : mh (6 * a + j) = 0
    · rw [if_pos c]
      constructor
      · rintro (h | h)
        · exact Or.inl h
        · exact Or.inr ⟨by omega, by omega, h.2.2⟩
      · rintro (h | h)
        · exact Or.inl h
        · refine Or.inr ⟨?_, by omega, h.2.2⟩
          rcases Nat.lt_or_ge j w with h2 | h2
          · exact h2
          · have : w = j := by omega
            subst this
            exact absurd c h.2.2
    · rw [if_neg c, b_or, Bool.or_eq_true, b_one (by omega), decide_eq_true_iff]
      constructor
      · rintro ((h | h) | h)
        · exact Or.inl h
        · subst h; exact Or.inr ⟨by omega, by omega, c⟩
        · exact Or.inr ⟨by omega, by omega, h.2.2⟩
      · rintro (h | h)
        · exact Or.inl (Or.inl h)
        · by_cases d : w = j
          · exact Or.inl (Or.inr d)
          · exact Or.inr ⟨by omega, by omega, h.2.2⟩
theorem mReach_L27_eq {n : Nat} (hn : n ≤ 6) (mh : Nat → Int32) (u : Int32) (i6 : Nat) (s6 : Int32) {a : Nat} (ha : a < 6) (s15 : Int32) (kk : Int32 → Int32) : ∀ (k j : Nat) (f : Int32), j + k ≤ 6 → mReach_L27 n mh u i6 s6 a s15 kk k j f = kk (if bt f a = true then swB mh a k j f else f)
  | 0, j, f, _ => by
    rw [mReach_L27, swB]
    split <;> rfl
  | k + 1, j, f, h => by
    rw [mReach_L27]
    by_cases c : bt f a = true
    · rw [if_pos ((b_at1 f (by omega)).mpr c), if_pos c, vz_ixC ha (by omega), swB]
      by_cases d : mh (6 * a + j) = 0
      · rw [if_pos d, if_pos d, mReach_L27_eq hn mh u i6 s6 ha s15 kk k (j + 1) f (by omega), if_pos c]
      · rw [if_neg d, if_neg d, mReach_L27_eq hn mh u i6 s6 ha s15 kk k (j + 1) _ (by omega), if_pos (by rw [b_or, c]; rfl)]
    · rw [if_neg (fun e => c ((b_at1 f (by omega)).mp e)), if_neg c]
theorem mReach_L15_eq {n : Nat} (hn : n ≤ 6) (mh : Nat → Int32) (u : Int32) (i6 : Nat) (s6 : Int32) (kk : Int32 → Int32) : ∀ (k a : Nat) (f : Int32), a + k ≤ 6 → mReach_L15 n mh u i6 s6 kk k a f = kk (swM mh n k a f)
  | 0, _, _, _ => rfl
  | k + 1, a, f, h => by
    rw [mReach_L15, mReach_L27_eq hn mh u i6 s6 (by omega) f _ n 0 f (by omega), swM]
    exact mReach_L15_eq hn mh u i6 s6 kk k (a + 1) _ (by omega)
theorem mReach_L6_eq {n : Nat} (hn : n ≤ 6) (mh : Nat → Int32) (u : Int32) : ∀ (k i : Nat) (f : Int32), mReach_L6 n mh u k i f = itN (swM mh n n 0) k f
  | 0, _, _ => rfl
  | k + 1, i, f => by
    rw [mReach_L6, mReach_L15_eq hn mh u i f _ n 0 f (by omega)]
    exact mReach_L6_eq hn mh u k (i + 1) _
theorem swM_up {n : Nat} (hn : n ≤ 6) (mh : Nat → Int32) : ∀ (k a : Nat) (f : Int32) (w : Nat), bt f w = true → bt (swM mh n k a f) w = true
  | 0, _, _, _, h => h
  | k + 1, a, f, w, h => by
    rw [swM]
    refine swM_up hn mh k (a + 1) _ w ?_
    split
    · exact (swB_bt mh a n 0 f w (by omega)).mpr (Or.inl h)
    · exact h
theorem swM_in {n : Nat} (hn : n ≤ 6) (mh : Nat → Int32) (X : Nat → Prop) : ∀ (k a : Nat) (f : Int32), (∀ x b, a ≤ x → x < a + k → b < n → X x → ¬ mh (6 * x + b) = 0 → X b) → (∀ w, bt f w = true → X w) → ∀ w, bt (swM mh n k a f) w = true → X w
  | 0, _, _, _, h => h
  | k + 1, a, f, hX, h => by
    rw [swM]
    refine swM_in hn mh X k (a + 1) _ (fun x b h1 h2 => hX x b (by omega) (by omega)) (fun w hw => ?_)
    by_cases c : bt f a = true
    · rw [if_pos c, swB_bt mh a n 0 f w (by omega)] at hw
      rcases hw with hw | hw
      · exact h w hw
      · exact hX a w (by omega) (by omega) (by omega) (h a c) hw.2.2
    · rw [if_neg c] at hw; exact h w hw
theorem swM_cl {n : Nat} (hn : n ≤ 6) (mh : Nat → Int32) : ∀ (k a : Nat) (f : Int32), swM mh n k a f = f → ∀ x b, a ≤ x → x < a + k → b < n → bt f x = true → ¬ mh (6 * x + b) = 0 → bt f b = true
  | 0, _, _, _, x, b, h1, h2 => by omega
  | k + 1, a, f, h, x, b, h1, h2 => by
    rw [swM] at h
    intro hbn hx hb
    by_cases c : bt f a = true
    · rw [if_pos c] at h
      have e : swB mh a n 0 f = f := b_ext' (fun j => by
        rcases hj : bt f j with _ | _
        · rcases hk : bt (swB mh a n 0 f) j with _ | _
          · rfl
          · have := swM_up hn mh k (a + 1) _ j hk
            rw [h, hj] at this; exact this.symm
        · exact (swB_bt mh a n 0 f j (by omega)).mpr (Or.inl hj))
      by_cases d : x = a
      · subst d
        rw [← e]
        exact (swB_bt mh x n 0 f b (by omega)).mpr (Or.inr ⟨by omega, by omega, hb⟩)
      · rw [e] at h
        exact swM_cl hn mh k (a + 1) f h x b (by omega) (by omega) hbn hx hb
    · rw [if_neg c] at h
      by_cases d : x = a
      · subst d; exact absurd hx c
      · exact swM_cl hn mh k (a + 1) f h x b (by omega) (by omega) hbn hx hb
theorem mReach_spec {n u : Nat} {mh : Nat → Int32} {G : Nat → Nat → Prop} (hn : n ≤ 6) (hu : u < n) (hG : ∀ a b, G a b → a < n ∧ b < n) (hc : ∀ a b, a < n → b < n → (¬ mh (6 * a + b) = 0 ↔ G a b)) (w : Nat) : bt (mReach n mh (nI u)) w = true ↔ dp_Reach G u w := by
  rw [mReach, mReach_L6_eq hn]
  refine reach_of_sweep hn hG (fun f w h => swM_up hn mh n 0 f w h) (fun X hX f hf => swM_in hn mh X n 0 f (fun a b _ h2 hb ha hg => hX a b ha ((hc a b (by omega) hb).mp hg)) hf) (fun f hf a b ha hb => swM_cl hn mh n 0 f hf a b (by omega) (by have := (hG a b hb).1; omega) (hG a b hb).2 ha ((hc a b (hG a b hb).1 (hG a b hb).2).mpr hb)) (by omega) hu w
