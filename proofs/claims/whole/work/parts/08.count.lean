/-! counting below n; doing a thing again until it stays -/
def cb (f : Nat → Bool) : Nat → Nat
  | 0 => 0
  | n + 1 => cb f n + (if f n = true then 1 else 0)
theorem cb_le (f : Nat → Bool) : ∀ n, cb f n ≤ n
  | 0 => Nat.le_refl 0
  | n + 1 => by
    have := cb_le f n
    unfold cb
    split <;> omega
theorem cb_mono {f g : Nat → Bool} : ∀ n, (∀ i, i < n → f i = true → g i = true) → cb f n ≤ cb g n
  | 0, _ => Nat.le_refl 0
  | n + 1, h => by
    have ih := cb_mono n (fun i hi => h i (by omega))
    unfold cb
    by_cases a : f n = true
    · rw [if_pos a, if_pos (h n (by omega) a)]; omega
    · rw [if_neg a]; omega
theorem cb_lt {f g : Nat → Bool} : ∀ n, (∀ i, i < n → f i = true → g i = true) → (∃ i, i < n ∧ f i = false ∧ g i = true) → cb f n < cb g n
  | 0, _, h => by obtain ⟨i, hi, _⟩ := h; omega
  | n + 1, h, hx => by
    have hm := cb_mono n (fun i hi => h i (by omega))
    obtain ⟨i, hi, h1, h2⟩ := hx
    unfold cb
    by_cases a : i = n
    · subst a
      rw [if_pos h2, if_neg (by rw [h1]; decide)]; omega
    · have ih := cb_lt n (fun i hi => h i (by omega)) ⟨i, by omega, h1, h2⟩
      by_cases b : f n = true
      · rw [if_pos b, if_pos (h n (by omega) b)]; omega
      · rw [if_neg b]; omega
theorem cb_pos {f : Nat → Bool} : ∀ n i, i < n → f i = true → 1 ≤ cb f n
  | 0, i, hi, _ => by omega
  | n + 1, i, hi, h => by
    unfold cb
    by_cases a : i = n
    · subst a; rw [if_pos h]; omega
    · have := cb_pos n i (by omega) h; omega
theorem cb_full {f : Nat → Bool} : ∀ n, n ≤ cb f n → ∀ i, i < n → f i = true
  | 0, _, i, hi => by omega
  | n + 1, h, i, hi => by
    unfold cb at h
    have hl := cb_le f n
    by_cases a : f n = true
    · rw [if_pos a] at h
      by_cases b : i = n
      · subst b; exact a
      · exact cb_full n (by omega) i (by omega)
    · rw [if_neg a] at h; omega
theorem cb_congr {f g : Nat → Bool} : ∀ n, (∀ i, i < n → f i = g i) → cb f n = cb g n
  | 0, _ => rfl
  | n + 1, h => by
    unfold cb
    rw [cb_congr n (fun i hi => h i (by omega)), h n (by omega)]
def itN {α : Type} (T : α → α) : Nat → α → α
  | 0, f => f
  | k + 1, f => itN T k (T f)
theorem itN_fixed {α : Type} {T : α → α} {f : α} (h : T f = f) : ∀ k, itN T k f = f
  | 0 => rfl
  | k + 1 => by
    show itN T k (T f) = f
    rw [h]; exact itN_fixed h k
theorem itN_add {α : Type} (T : α → α) : ∀ (a b : Nat) (f : α), itN T (a + b) f = itN T b (itN T a f)
  | 0, b, f => by rw [Nat.zero_add]; rfl
  | a + 1, b, f => by
    rw [Nat.add_right_comm]
    show itN T (a + b) (T f) = _
    rw [itN_add T a b]; rfl
theorem itN_inv {α : Type} {T : α → α} {I : α → Prop} (hI : ∀ f, I f → I (T f)) : ∀ (k : Nat) (f : α), I f → I (itN T k f)
  | 0, _, h => h
  | k + 1, f, h => itN_inv hI k (T f) (hI f h)
/-- what grows while it moves, and can't grow above N, stays in the end -/
theorem itN_stays {α : Type} {T : α → α} {I : α → Prop} {μ : α → Nat} {N : Nat} (hI : ∀ f, I f → I (T f)) (hN : ∀ f, I f → μ f ≤ N) (hT : ∀ f, I f → T f ≠ f → μ f < μ (T f)) :
    ∀ (k : Nat) (f : α), I f → N ≤ μ f + k → T (itN T k f) = itN T k f
  | 0, f, h, hk => by
    show T f = f
    refine Classical.byContradiction (fun a => ?_)
    have h1 := hT f h a
    have h2 := hN _ (hI f h)
    omega
  | k + 1, f, h, hk => by
    show T (itN T k (T f)) = itN T k (T f)
    by_cases a : T f = f
    · rw [a, itN_fixed a, a]
    · exact itN_stays hI hN hT k (T f) (hI f h) (by have := hT f h a; omega)
