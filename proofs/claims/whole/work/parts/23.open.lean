/-! the class's openFrom: the ends of open ways -/
def stO (fp fc : Nat → Int32) (set : Int32) (v : Nat) (q : Int32 × Int32) : Int32 × Int32 :=
  if bt set v = true then (if bt q.2 v = true then (q.1 ||| fp v, q.2) else q)
  else ((if bt q.1 v = true then q.1 ||| fp v else q.1), (if bt q.1 v = true ∨ bt q.2 v = true then q.2 ||| fc v else q.2))
def swO (fp fc : Nat → Int32) (set : Int32) : Nat → Nat → Int32 × Int32 → Int32 × Int32
  | 0, _, q => q
  | k + 1, i, q => swO fp fc set k (i + 1) (stO fp fc set i q)
theorem stO_up (fp fc : Nat → Int32) (set : Int32) (v : Nat) (q : Int32 × Int32) (w : Nat) : (bt q.1 w = true → bt (stO fp fc set v q).1 w = true) ∧ (bt q.2 w = true → bt (stO fp fc set v q).2 w = true) := by
  unfold stO
  by_cases a : bt set v = true
  · rw [if_pos a]
    by_cases b : bt q.2 v = true
    · rw [if_pos b]; exact ⟨fun h => by show bt (q.1 ||| fp v) w = true; rw [b_or, h]; rfl, fun h => h⟩
    · rw [if_neg b]; exact ⟨fun h => h, fun h => h⟩
  · rw [if_neg a]
    refine ⟨fun h => ?_, fun h => ?_⟩
    · show bt (if bt q.1 v = true then q.1 ||| fp v else q.1) w = true
      split
      · rw [b_or, h]; rfl
      · exact h
    · show bt (if bt q.1 v = true ∨ bt q.2 v = true then q.2 ||| fc v else q.2) w = true
      split
      · rw [b_or, h]; rfl
      · exact h
theorem swO_up (fp fc : Nat → Int32) (set : Int32) : ∀ (k i : Nat) (q : Int32 × Int32) (w : Nat), (bt q.1 w = true → bt (swO fp fc set k i q).1 w = true) ∧ (bt q.2 w = true → bt (swO fp fc set k i q).2 w = true)
  | 0, _, _, _ => ⟨fun h => h, fun h => h⟩
  | k + 1, i, q, w => by
    have h1 := stO_up fp fc set i q w
    have h2 := swO_up fp fc set k (i + 1) (stO fp fc set i q) w
    exact ⟨fun h => h2.1 (h1.1 h), fun h => h2.2 (h1.2 h)⟩
theorem swO_in {fp fc : Nat → Int32} {set : Int32} {n : Nat} {G : Nat → Nat → Prop} {X Y : Nat → Prop} (hp : ∀ v u, v < n → bt (fp v) u = true → G u v) (hc : ∀ u v, u < n → bt (fc u) v = true → G u v)
    (hcl : dp_closed G (fun v => bt set v = true) X Y) : ∀ (k i : Nat) (q : Int32 × Int32), i + k ≤ n → (∀ w, bt q.1 w = true → X w) → (∀ w, bt q.2 w = true → Y w) → (∀ w, bt (swO fp fc set k i q).1 w = true → X w) ∧ (∀ w, bt (swO fp fc set k i q).2 w = true → Y w)
  | 0, _, _, _, h1, h2 => ⟨h1, h2⟩
  | k + 1, i, q, hk, h1, h2 => by
    refine swO_in hp hc hcl k (i + 1) (stO fp fc set i q) (by omega) (fun w h => ?_) (fun w h => ?_)
    · unfold stO at h
      by_cases a : bt set i = true
      · rw [if_pos a] at h
        by_cases b : bt q.2 i = true
        · rw [if_pos b] at h
          have h : bt (q.1 ||| fp i) w = true := h
          rw [b_or, Bool.or_eq_true] at h
          rcases h with h | h
          · exact h1 w h
          · exact hcl.2.2 i w a (h2 i b) (hp i w (by omega) h)
        · rw [if_neg b] at h; exact h1 w h
      · rw [if_neg a] at h
        have h : bt (if bt q.1 i = true then q.1 ||| fp i else q.1) w = true := h
        by_cases b : bt q.1 i = true
        · rw [if_pos b, b_or, Bool.or_eq_true] at h
          rcases h with h | h
          · exact h1 w h
          · exact hcl.2.1 i w a (h1 i b) (hp i w (by omega) h)
        · rw [if_neg b] at h; exact h1 w h
    · unfold stO at h
      by_cases a : bt set i = true
      · rw [if_pos a] at h
        by_cases b : bt q.2 i = true
        · rw [if_pos b] at h; exact h2 w h
        · rw [if_neg b] at h; exact h2 w h
      · rw [if_neg a] at h
        have h : bt (if bt q.1 i = true ∨ bt q.2 i = true then q.2 ||| fc i else q.2) w = true := h
        by_cases b : bt q.1 i = true ∨ bt q.2 i = true
        · rw [if_pos b, b_or, Bool.or_eq_true] at h
          rcases h with h | h
          · exact h2 w h
          · exact hcl.1 i w a (b.imp (h1 i) (h2 i)) (hc i w (by omega) h)
        · rw [if_neg b] at h; exact h2 w h
theorem b_le_ext {x y : Int32} (h1 : ∀ w, bt x w = true → bt y w = true) (h2 : ∀ w, bt y w = true → bt x w = true) : x = y := b_ext' (fun i => by
  rcases a : bt x i with _ | _
  · rcases b : bt y i with _ | _
    · rfl
    · rw [h2 i b] at a; cases a
  · exact (h1 i a).symm)
theorem swO_cl (fp fc : Nat → Int32) (set : Int32) : ∀ (k i : Nat) (q : Int32 × Int32), swO fp fc set k i q = q → ∀ v, i ≤ v → v < i + k → stO fp fc set v q = q
  | 0, _, _, _, v, h1, h2 => by omega
  | k + 1, i, q, h, v, h1, h2 => by
    have h : swO fp fc set k (i + 1) (stO fp fc set i q) = q := h
    have e : stO fp fc set i q = q := by
      apply Prod.ext
      · refine b_le_ext (fun w hw => ?_) (fun w hw => (stO_up fp fc set i q w).1 hw)
        have := (swO_up fp fc set k (i + 1) (stO fp fc set i q) w).1 hw
        rw [h] at this; exact this
      · refine b_le_ext (fun w hw => ?_) (fun w hw => (stO_up fp fc set i q w).2 hw)
        have := (swO_up fp fc set k (i + 1) (stO fp fc set i q) w).2 hw
        rw [h] at this; exact this
    by_cases d : v = i
    · subst d; exact e
    · rw [e] at h
      exact swO_cl fp fc set k (i + 1) q h v (by omega) (by omega)
theorem stO_rules {fp fc : Nat → Int32} {set : Int32} {v : Nat} {q : Int32 × Int32} (h : stO fp fc set v q = q) :
    (¬ bt set v = true → (bt q.1 v = true ∨ bt q.2 v = true) → ∀ c, bt (fc v) c = true → bt q.2 c = true) ∧ (¬ bt set v = true → bt q.1 v = true → ∀ p, bt (fp v) p = true → bt q.1 p = true) ∧ (bt set v = true → bt q.2 v = true → ∀ p, bt (fp v) p = true → bt q.1 p = true) := by
  unfold stO at h
  refine ⟨fun a b c hc => ?_, fun a b p hp => ?_, fun a b p hp => ?_⟩
  · rw [if_neg a] at h
    have h2 := congrArg Prod.snd h
    have h2 : (if bt q.1 v = true ∨ bt q.2 v = true then q.2 ||| fc v else q.2) = q.2 := h2
    rw [if_pos b] at h2
    rw [← h2, b_or, hc, Bool.or_true]
  · rw [if_neg a] at h
    have h2 := congrArg Prod.fst h
    have h2 : (if bt q.1 v = true then q.1 ||| fp v else q.1) = q.1 := h2
    rw [if_pos b] at h2
    rw [← h2, b_or, hp, Bool.or_true]
  · rw [if_pos a, if_pos b] at h
    have h2 : q.1 ||| fp v = q.1 := congrArg Prod.fst h
    rw [← h2, b_or, hp, Bool.or_true]
theorem gOpen_L47_eq (n : Nat) (fp fc : Nat → Int32) (x set : Int32) (i1 : Nat) (ag0 al0 gr0 : Int32) (kk : Int32 → Int32 → Int32 → Int32) : ∀ (k i : Nat) (q : Int32 × Int32), i + k ≤ 32 →
    gOpen_L47 n fp fc x set i1 ag0 al0 gr0 kk k i q.1 q.2 = kk (swO fp fc set k i q).1 (swO fp fc set k i q).2 (if swO fp fc set k i q = (ag0, al0) then 0 else 1)
  | 0, i, q, _ => by
    rw [gOpen_L47, swO]
    by_cases a : q.1 = ag0
    · rw [if_pos a]
      by_cases b : q.2 = al0
      · rw [if_pos b, if_pos (Prod.ext a b)]
      · rw [if_neg b, if_neg (fun h => b (by rw [h]))]
    · rw [if_neg a, if_neg (fun h => a (by rw [h]))]
  | k + 1, i, q, h => by
    have ih := gOpen_L47_eq n fp fc x set i1 ag0 al0 gr0 kk k (i + 1) (stO fp fc set i q) (by omega)
    rw [swO, ← ih, gOpen_L47, nI_clamp (by omega)]
    unfold stO
    by_cases a : bt set i = true
    · rw [if_neg (hHt (by omega) a), if_pos a]
      by_cases b : bt q.2 i = true
      · rw [if_neg (hHt (by omega) b), if_pos b]
      · rw [if_pos (hHf (by omega) b), if_neg b]
    · rw [if_pos (hHf (by omega) a), if_neg a]
      by_cases b : bt q.1 i = true
      · have hor : bt (q.1 ||| q.2) i = true := by rw [b_or, b]; rfl
        rw [if_neg (hHt (by omega) hor), if_neg (hHt (by omega) b), if_pos b, if_pos (Or.inl b)]
      · by_cases c : bt q.2 i = true
        · have hor : bt (q.1 ||| q.2) i = true := by rw [b_or, c, Bool.or_true]
          rw [if_neg (hHt (by omega) hor), if_pos (hHf (by omega) b), if_neg b, if_pos (Or.inr c)]
        · have hor : ¬ bt (q.1 ||| q.2) i = true := by
            rw [b_or, Bool.or_eq_true]
            exact fun h => h.elim b c
          rw [if_pos (hHf (by omega) hor), if_pos (hHf (by omega) b), if_neg b, if_neg (fun h => h.elim b c)]
theorem gOpen_L21_0 (n : Nat) (fp fc : Nat → Int32) (x set : Int32) : ∀ (k i : Nat) (q : Int32 × Int32), gOpen_L21 n fp fc x set k i q.1 q.2 0 = q.1 ||| q.2
  | 0, _, _ => rfl
  | k + 1, i, q => by rw [gOpen_L21, if_pos rfl]
theorem gOpen_L21_eq {n : Nat} (hn : n ≤ 6) (fp fc : Nat → Int32) (x set : Int32) : ∀ (k i : Nat) (q : Int32 × Int32), gOpen_L21 n fp fc x set k i q.1 q.2 1 = (itN (swO fp fc set n 0) k q).1 ||| (itN (swO fp fc set n 0) k q).2
  | 0, _, _ => rfl
  | k + 1, i, q => by
    rw [gOpen_L21, if_neg (by decide), gOpen_L47_eq n fp fc x set i q.1 q.2 1 _ n 0 q (by omega)]
    by_cases a : swO fp fc set n 0 q = (q.1, q.2)
    · rw [if_pos a]
      have a2 : swO fp fc set n 0 q = q := a
      rw [itN_fixed a2]
      show gOpen_L21 n fp fc x set k (i + 1) (swO fp fc set n 0 q).1 (swO fp fc set n 0 q).2 0 = _
      rw [gOpen_L21_0, a2]
    · rw [if_neg a]
      exact gOpen_L21_eq hn fp fc x set k (i + 1) (swO fp fc set n 0 q)
theorem gOpen_spec {n x y : Nat} {fp fc : Nat → Int32} {set : Int32} {G : Nat → Nat → Prop} (hn : n ≤ 6) (hx : x < n) (hxy : x ≠ y) (hG : ∀ a b, G a b → a < n ∧ b < n) (hA : ∀ a b, G a b → ¬ G b a)
    (hp : ∀ v u, v < n → (bt (fp v) u = true ↔ G u v)) (hc : ∀ u v, u < n → (bt (fc u) v = true ↔ G u v)) :
    bt (gOpen n fp fc (nI x) set) y = true ↔ ∃ (v : Nat → Nat) (k : Nat), dp_way G (fun v => bt set v = true) v k ∧ v 0 = x ∧ v k = y ∧ ∀ i j, i < j → j ≤ k → v i ≠ v j := by
  have e : gOpen n fp fc (nI x) set = (itN (swO fp fc set n 0) (2 * n + 1) (fp x, fc x)).1 ||| (itN (swO fp fc set n 0) (2 * n + 1) (fp x, fc x)).2 := by
    rw [gOpen, nI_clamp (by omega)]
    exact gOpen_L21_eq hn fp fc (nI x) set (2 * n + 1) 0 (fp x, fc x)
  have hcN : dp_closed G (fun v => bt set v = true) (fun w => w < n) (fun w => w < n) := ⟨fun v c _ _ h => (hG v c h).2, fun v q _ _ h => (hG q v h).1, fun v q _ _ h => (hG q v h).1⟩
  have hT : ∀ q : Int32 × Int32, ((∀ w, bt q.1 w = true → w < n) ∧ ∀ w, bt q.2 w = true → w < n) → (∀ w, bt (swO fp fc set n 0 q).1 w = true → w < n) ∧ ∀ w, bt (swO fp fc set n 0 q).2 w = true → w < n :=
    fun q hq => swO_in (fun v u h h2 => (hp v u h).mp h2) (fun u v h h2 => (hc u v h).mp h2) hcN n 0 q (by omega) hq.1 hq.2
  have h0 : (∀ w, bt (fp x) w = true → w < n) ∧ ∀ w, bt (fc x) w = true → w < n := ⟨fun w h => (hG w x ((hp x w hx).mp h)).1, fun w h => (hG x w ((hc x w hx).mp h)).2⟩
  have hst : swO fp fc set n 0 (itN (swO fp fc set n 0) (2 * n + 1) (fp x, fc x)) = itN (swO fp fc set n 0) (2 * n + 1) (fp x, fc x) := by
    refine itN_stays (I := fun q : Int32 × Int32 => (∀ w, bt q.1 w = true → w < n) ∧ ∀ w, bt q.2 w = true → w < n) (μ := fun q => cb (bt q.1) n + cb (bt q.2) n) (N := 2 * n) hT (fun q _ => ?_) (fun q hq hne => ?_) (2 * n + 1) (fp x, fc x) h0 (by omega)
    · have h1 := cb_le (bt q.1) n
      have h2 := cb_le (bt q.2) n
      show cb (bt q.1) n + cb (bt q.2) n ≤ 2 * n
      omega
    · have m1 := cb_mono (f := bt q.1) (g := bt (swO fp fc set n 0 q).1) n (fun i _ h => (swO_up fp fc set n 0 q i).1 h)
      have m2 := cb_mono (f := bt q.2) (g := bt (swO fp fc set n 0 q).2) n (fun i _ h => (swO_up fp fc set n 0 q i).2 h)
      show cb (bt q.1) n + cb (bt q.2) n < cb (bt (swO fp fc set n 0 q).1) n + cb (bt (swO fp fc set n 0 q).2) n
      by_cases d1 : (swO fp fc set n 0 q).1 = q.1
      · have d2 : ¬ (swO fp fc set n 0 q).2 = q.2 := fun d2 => hne (Prod.ext d1 d2)
        have := cb_lt (f := bt q.2) (g := bt (swO fp fc set n 0 q).2) n (fun i _ h => (swO_up fp fc set n 0 q i).2 h) (Classical.byContradiction (fun hno => d2 (b_le_ext (fun w hw => by
          rcases hb : bt q.2 w with _ | _
          · exact absurd ⟨w, (hT q hq).2 w hw, hb, hw⟩ hno
          · rfl) (fun w hw => (swO_up fp fc set n 0 q w).2 hw))))
        omega
      · have := cb_lt (f := bt q.1) (g := bt (swO fp fc set n 0 q).1) n (fun i _ h => (swO_up fp fc set n 0 q i).1 h) (Classical.byContradiction (fun hno => d1 (b_le_ext (fun w hw => by
          rcases hb : bt q.1 w with _ | _
          · exact absurd ⟨w, (hT q hq).1 w hw, hb, hw⟩ hno
          · rfl) (fun w hw => (swO_up fp fc set n 0 q w).1 hw))))
        omega
  have hbnd := itN_inv (I := fun q : Int32 × Int32 => (∀ w, bt q.1 w = true → w < n) ∧ ∀ w, bt q.2 w = true → w < n) hT (2 * n + 1) (fp x, fc x) h0
  have hsnd := itN_inv (I := fun q : Int32 × Int32 => (∀ w, bt q.1 w = true → dp_A G (fun v => bt set v = true) x w) ∧ ∀ w, bt q.2 w = true → dp_B G (fun v => bt set v = true) x w)
    (fun q hq => swO_in (fun v u h h2 => (hp v u h).mp h2) (fun u v h h2 => (hc u v h).mp h2) (dp_AB_closed hA x) n 0 q (by omega) hq.1 hq.2) (2 * n + 1) (fp x, fc x) ⟨fun w h => dp_A0 ((hp x w hx).mp h), fun w h => dp_B0 ((hc x w hx).mp h)⟩
  have hup := itN_inv (I := fun q : Int32 × Int32 => (∀ w, bt (fp x) w = true → bt q.1 w = true) ∧ ∀ w, bt (fc x) w = true → bt q.2 w = true)
    (fun q hq => ⟨fun w h => (swO_up fp fc set n 0 q w).1 (hq.1 w h), fun w h => (swO_up fp fc set n 0 q w).2 (hq.2 w h)⟩) (2 * n + 1) (fp x, fc x) ⟨fun _ h => h, fun _ h => h⟩
  rw [e]
  generalize itN (swO fp fc set n 0) (2 * n + 1) (fp x, fc x) = q at hst hbnd hsnd hup ⊢
  rw [b_or, Bool.or_eq_true]
  have hcl : dp_closed G (fun v => bt set v = true) (fun w => bt q.1 w = true) (fun w => bt q.2 w = true) := by
    have hr : ∀ v, v < n → stO fp fc set v q = q := fun v hv => swO_cl fp fc set n 0 q hst v (by omega) (by omega)
    refine ⟨fun v c a b g => ?_, fun v p a b g => ?_, fun v p a b g => ?_⟩
    · exact (stO_rules (hr v (hG v c g).1)).1 a b c ((hc v c (hG v c g).1).mpr g)
    · exact (stO_rules (hr v (hG p v g).2)).2.1 a b p ((hp v p (hG p v g).2).mpr g)
    · exact (stO_rules (hr v (hG p v g).2)).2.2 a b p ((hp v p (hG p v g).2).mpr g)
  exact dp_main hA hxy hcl (fun p g => hup.1 p ((hp x p hx).mpr g)) (fun c g => hup.2 c ((hc x c hx).mpr g)) hsnd.1 hsnd.2
