/-! rings: class and reference do the same sweep, n times or six times; and where there is an order there is none -/
def swR (fp : Nat → Int32) : Nat → Nat → Int32 → Int32
  | 0, _, l => l
  | k + 1, i, l => swR fp k (i + 1) (if fp i &&& l = 0 then l &&& ((1 : Int32) <<< (nI i &&& 31) ^^^ (-1)) else l)
theorem b_clr (l : Int32) {i : Nat} (hi : i < 32) (w : Nat) : bt (l &&& ((1 : Int32) <<< (nI i &&& 31) ^^^ (-1))) w = true ↔ bt l w = true ∧ w ≠ i := by
  rcases Nat.lt_or_ge w 32 with hw | hw
  · rw [b_and, b_not _ hw, b_one hi]
    by_cases h : w = i
    · rw [decide_eq_true h]; simp [h]
    · rw [decide_eq_false h]; simp [h]
  · rw [b_big hw, b_big hw]; simp
theorem swR_dn (fp : Nat → Int32) : ∀ (k i : Nat) (l : Int32) (w : Nat), i + k ≤ 32 → bt (swR fp k i l) w = true → bt l w = true
  | 0, _, _, _, _, h => h
  | k + 1, i, l, w, hk, h => by
    rw [swR] at h
    have := swR_dn fp k (i + 1) _ w (by omega) h
    by_cases c : fp i &&& l = 0
    · rw [if_pos c, b_clr l (by omega)] at this; exact this.1
    · rw [if_neg c] at this; exact this
theorem swR_cl (fp : Nat → Int32) : ∀ (k i : Nat) (l : Int32), i + k ≤ 32 → swR fp k i l = l → ∀ v, i ≤ v → v < i + k → bt l v = true → ¬ fp v &&& l = 0
  | 0, _, _, _, _, v, h1, h2 => by omega
  | k + 1, i, l, hk, h, v, h1, h2 => by
    rw [swR] at h
    intro hv
    by_cases c : fp i &&& l = 0
    · rw [if_pos c] at h
      have e : l &&& ((1 : Int32) <<< (nI i &&& 31) ^^^ (-1)) = l := b_ext' (fun j => by
        rcases hj : bt l j with _ | _
        · rw [b_and, hj, Bool.false_and]
        · have hb : bt (swR fp k (i + 1) (l &&& ((1 : Int32) <<< (nI i &&& 31) ^^^ (-1)))) j = true := by rw [h]; exact hj
          exact swR_dn fp k (i + 1) _ j (by omega) hb)
      by_cases d : v = i
      · subst d
        rw [← e] at hv
        exact absurd rfl ((b_clr l (by omega) v).mp hv).2
      · rw [e] at h
        exact swR_cl fp k (i + 1) l (by omega) h v (by omega) (by omega) hv
    · rw [if_neg c] at h
      by_cases d : v = i
      · subst d; exact c
      · exact swR_cl fp k (i + 1) l (by omega) h v (by omega) (by omega) hv
theorem swR_stays {n : Nat} (hn : n ≤ 6) (fp : Nat → Int32) (l : Int32) (hl : ∀ w, bt l w = true → w < n) : swR fp n 0 (itN (swR fp n 0) n l) = itN (swR fp n 0) n l := by
  refine itN_stays (I := fun f => ∀ w, bt f w = true → w < n) (μ := fun f => n - cb (bt f) n) (N := n) (fun f hf w h => hf w (swR_dn fp n 0 f w (by omega) h)) (fun f _ => by omega) (fun f hf hne => ?_) n l hl (by omega)
  have h1 : cb (bt (swR fp n 0 f)) n < cb (bt f) n := by
    refine cb_lt n (fun i _ h => swR_dn fp n 0 f i (by omega) h) ?_
    refine Classical.byContradiction (fun hno => hne (b_ext' (fun i => ?_)))
    rcases hb : bt (swR fp n 0 f) i with _ | _
    · rcases hc : bt f i with _ | _
      · rfl
      · exact absurd ⟨i, hf i hc, hb, hc⟩ hno
    · exact (swR_dn fp n 0 f i (by omega) hb).symm
  have h2 := cb_le (bt f) n
  show n - cb (bt f) n < n - cb (bt (swR fp n 0 f)) n
  omega
/-- all nodes -/
theorem full_bt {n : Nat} (hn : n ≤ 6) : ∀ w, bt ((1 : Int32) <<< (nI n &&& 31) - 1) w = true ↔ w < n := by
  intro w
  rcases Nat.lt_or_ge w 32 with hw | hw
  · have : ∀ m, m ≤ 6 → ∀ j, j < 32 → (bt ((1 : Int32) <<< (nI m &&& 31) - 1) j = true ↔ j < m) := by decide +kernel
    exact this n hn w hw
  · rw [b_big hw]; constructor
    · intro h; cases h
    · intro h; omega
theorem gRing_L25_eq (n : Nat) (fp : Nat → Int32) (a : Nat) (b : Int32) (kk : Int32 → Int32) : ∀ (k i : Nat) (l : Int32), i + k ≤ 32 → gRing_L25 n fp a b kk k i l = kk (swR fp k i l)
  | 0, _, _, _ => rfl
  | k + 1, i, l, h => by
    rw [gRing_L25, swR, nI_clamp (by omega)]
    by_cases c : fp i &&& l = 0
    · rw [if_pos c, if_pos c]
      exact gRing_L25_eq n fp a b kk k (i + 1) _ (by omega)
    · rw [if_neg c, if_neg c]
      exact gRing_L25_eq n fp a b kk k (i + 1) _ (by omega)
theorem swR_0 (fp : Nat → Int32) : ∀ (k i : Nat), i + k ≤ 32 → swR fp k i 0 = 0 := fun k i h => b_eq0.mpr (fun w => by
  rcases hb : bt (swR fp k i 0) w with _ | _
  · rfl
  · have := swR_dn fp k i 0 w h hb
    rw [b_0] at this; cases this)
theorem gRing_L11_eq {n : Nat} (hn : n ≤ 6) (fp : Nat → Int32) : ∀ (k i : Nat) (l : Int32), gRing_L11 n fp k i l = if itN (swR fp n 0) k l = 0 then 0 else 1
  | 0, _, _ => rfl
  | k + 1, i, l => by
    rw [gRing_L11]
    by_cases c : l = 0
    · rw [if_pos c, c, itN_fixed (swR_0 fp n 0 (by omega)), if_pos rfl]
    · rw [if_neg c, gRing_L25_eq n fp i l _ n 0 l (by omega)]
      exact gRing_L11_eq hn fp k (i + 1) _
/-- the reference's inner loop: is v bare? -/
def brv (mt : Nat → Int32) (v : Nat) (l : Int32) : Nat → Nat → Bool
  | 0, _ => false
  | k + 1, i => (decide (¬ mt (6 * i + v) = 0) && bt l i) || brv mt v l k (i + 1)
theorem brv_iff (mt : Nat → Int32) (v : Nat) (l : Int32) : ∀ k i, brv mt v l k i = true ↔ ∃ u, i ≤ u ∧ u < i + k ∧ ¬ mt (6 * u + v) = 0 ∧ bt l u = true
  | 0, i => ⟨fun h => (by cases h), fun ⟨u, h1, h2, _⟩ => (by omega)⟩
  | k + 1, i => by
    rw [brv, Bool.or_eq_true, Bool.and_eq_true, decide_eq_true_iff, brv_iff mt v l k (i + 1)]
    constructor
    · rintro (h | ⟨u, h1, h2, h3⟩)
      · exact ⟨i, by omega, by omega, h⟩
      · exact ⟨u, by omega, by omega, h3⟩
    · rintro ⟨u, h1, h2, h3⟩
      by_cases c : u = i
      · subst c; exact Or.inl h3
      · exact Or.inr ⟨u, by omega, by omega, h3⟩
theorem mRing_L33_eq {n : Nat} (hn : n ≤ 6) (mt : Nat → Int32) (a : Nat) (b : Int32) {v : Nat} (hv : v < 6) (l : Int32) (kk : Int32 → Int32) : ∀ (k i : Nat) (ba : Int32), i + k ≤ 6 →
    mRing_L33 n mt a b v l kk k i ba = kk (if ba = 0 ∨ brv mt v l k i = true then l else l &&& ((1 : Int32) <<< (nI v &&& 31) ^^^ (-1)))
  | 0, i, ba, _ => by
    rw [mRing_L33]
    by_cases c : ba = 0
    · rw [if_pos c, if_pos (Or.inl c)]
    · rw [if_neg c, if_neg]
      rintro (h | h)
      · exact c h
      · cases h
  | k + 1, i, ba, h => by
    rw [mRing_L33, brv]
    by_cases c : ba = 0
    · rw [if_pos c, mRing_L33_eq hn mt a b hv l kk k (i + 1) 0 (by omega), if_pos (Or.inl rfl), if_pos (Or.inl c)]
    · rw [if_neg c, vz_ixC (by omega) hv]
      by_cases d : mt (6 * i + v) = 0
      · rw [if_pos d, mRing_L33_eq hn mt a b hv l kk k (i + 1) 1 (by omega), decide_eq_false (fun z => z d), Bool.false_and, Bool.false_or]
        by_cases f : brv mt v l k (i + 1) = true
        · rw [if_pos (Or.inr f), if_pos (Or.inr f)]
        · rw [if_neg (fun z => z.elim (by decide) f), if_neg (fun z => z.elim c f)]
      · rw [if_neg d, decide_eq_true d, Bool.true_and]
        by_cases f : bt l i = true
        · rw [if_pos ((b_at1 l (by omega)).mpr f), mRing_L33_eq hn mt a b hv l kk k (i + 1) 0 (by omega), if_pos (Or.inl rfl), f, Bool.true_or, if_pos (Or.inr rfl)]
        · rw [if_neg (fun e => f ((b_at1 l (by omega)).mp e)), mRing_L33_eq hn mt a b hv l kk k (i + 1) 1 (by omega)]
          have f2 : bt l i = false := by simpa using f
          rw [f2, Bool.false_or]
          by_cases g : brv mt v l k (i + 1) = true
          · rw [if_pos (Or.inr g), if_pos (Or.inr g)]
          · rw [if_neg (fun z => z.elim (by decide) g), if_neg (fun z => z.elim c g)]
/-- masks of parents that say what the table says -/
def maskOf (n : Nat) (fp mt : Nat → Int32) : Prop := ∀ v, v < n → ∀ u, bt (fp v) u = true ↔ u < n ∧ ¬ mt (6 * u + v) = 0
theorem mRing_L19_eq {n : Nat} (hn : n ≤ 6) {fp mt : Nat → Int32} (hm : maskOf n fp mt) (a : Nat) (b : Int32) (kk : Int32 → Int32) : ∀ (k v : Nat) (l : Int32), v + k ≤ n → mRing_L19 n mt a b kk k v l = kk (swR fp k v l)
  | 0, _, _, _ => rfl
  | k + 1, v, l, h => by
    rw [mRing_L19, mRing_L33_eq hn mt a b (by omega) l _ n 0 1 (by omega), swR]
    have e : (if (1 : Int32) = 0 ∨ brv mt v l n 0 = true then l else l &&& ((1 : Int32) <<< (nI v &&& 31) ^^^ (-1))) = if fp v &&& l = 0 then l &&& ((1 : Int32) <<< (nI v &&& 31) ^^^ (-1)) else l := by
      by_cases c : fp v &&& l = 0
      · rw [if_pos c, if_neg]
        rintro (e | e)
        · exact absurd e (by decide)
        · obtain ⟨u, _, h2, h3, h4⟩ := (brv_iff mt v l n 0).mp e
          have := b_eq0.mp c u
          rw [b_and, (hm v (by omega) u).mpr ⟨by omega, h3⟩, h4] at this
          cases this
      · rw [if_neg c, if_pos]
        refine Or.inr ((brv_iff mt v l n 0).mpr (Classical.byContradiction (fun hno => c (b_eq0.mpr (fun u => ?_)))))
        rw [b_and]
        rcases h1 : bt (fp v) u with _ | _
        · rfl
        · rcases h2 : bt l u with _ | _
          · rfl
          · have := (hm v (by omega) u).mp h1
            exact absurd ⟨u, by omega, by omega, this.2, h2⟩ hno
    rw [e]
    exact mRing_L19_eq hn hm a b kk k (v + 1) _ (by omega)
theorem mRing_L11_eq {n : Nat} (hn : n ≤ 6) {fp mt : Nat → Int32} (hm : maskOf n fp mt) : ∀ (k i : Nat) (l : Int32), mRing_L11 n mt k i l = if itN (swR fp n 0) k l = 0 then 0 else 1
  | 0, _, _ => rfl
  | k + 1, i, l => by
    rw [mRing_L11, mRing_L19_eq hn hm i l _ n 0 l (by omega)]
    exact mRing_L11_eq hn hm k (i + 1) _
theorem ring_same {n : Nat} (hn : n ≤ 6) {fp mt : Nat → Int32} (hm : maskOf n fp mt) : gRing n fp = mRing n mt := by
  rw [gRing, mRing, gRing_L11_eq hn, mRing_L11_eq hn hm]
  have hs := swR_stays hn fp ((1 : Int32) <<< (nI n &&& 31) - 1) (fun w h => (full_bt hn w).mp h)
  rw [show (6 : Nat) = n + (6 - n) by omega, itN_add, itN_fixed hs]
/-- where an order goes through all arrows there is no ring -/
theorem ring_none {n : Nat} (hn : n ≤ 6) {fp : Nat → Int32} (rk : Nat → Nat) (hr : ∀ v u, v < n → bt (fp v) u = true → rk u < rk v) : gRing n fp = 0 := by
  rw [gRing, gRing_L11_eq hn]
  have hs := swR_stays hn fp ((1 : Int32) <<< (nI n &&& 31) - 1) (fun w h => (full_bt hn w).mp h)
  have hb : ∀ w, bt (itN (swR fp n 0) n ((1 : Int32) <<< (nI n &&& 31) - 1)) w = true → w < n :=
    itN_inv (I := fun f => ∀ w, bt f w = true → w < n) (fun f hf w h => hf w (swR_dn fp n 0 f w (by omega) h)) n _ (fun w h => (full_bt hn w).mp h)
  generalize itN (swR fp n 0) n ((1 : Int32) <<< (nI n &&& 31) - 1) = f at hs hb ⊢
  refine if_pos (Classical.byContradiction (fun hne => ?_))
  have hex : ∃ k, ∃ v, bt f v = true ∧ rk v = k := by
    refine Classical.byContradiction (fun hno => hne (b_eq0.mpr (fun w => ?_)))
    rcases hw : bt f w with _ | _
    · rfl
    · exact absurd ⟨rk w, w, hw, rfl⟩ hno
  obtain ⟨k, ⟨v, hv, hk⟩, hl⟩ := pk_least _ hex
  refine swR_cl fp n 0 f (by omega) hs v (by omega) (by have := hb v hv; omega) hv (b_eq0.mpr (fun u => ?_))
  rw [b_and]
  rcases h1 : bt (fp v) u with _ | _
  · rfl
  · rcases h2 : bt f u with _ | _
    · rfl
    · exact absurd ⟨u, h2, rfl⟩ (hl (rk u) (by have := hr v u (hb v hv) h1; omega))
