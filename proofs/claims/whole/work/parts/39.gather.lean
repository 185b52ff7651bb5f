/-! gather and goThrough -/
section GA
variable {n : Nat} {fp fc mh mk : Nat → Int32}
def memB (n : Nat) (mh mk : Nat → Int32) (w : Nat) : Bool := decide (¬ mMember n mh mk (tW n mh w) = 0)
def GS (M : Nat → Bool) (m : Nat) (ct fi sf af : Int32) : Prop :=
  ct = nI (cb M m) ∧ (∀ w0, w0 < m → M w0 = true → (∀ w, w < w0 → M w = false) → fi = nI w0) ∧ (∀ t, bt sf t = true ↔ ∃ w, w < m ∧ M w = true ∧ w.testBit t = true) ∧ ∀ t, t < 32 → (bt af t = true ↔ ∀ w, w < m → M w = true → w.testBit t = true)
theorem cb_none {M : Nat → Bool} : ∀ m, cb M m = 0 ↔ ∀ w, w < m → M w = false := fun m => by
  constructor
  · intro h w hw
    rcases q : M w with _ | _
    · rfl
    · have := cb_pos m w hw q; omega
  · intro h
    rw [cb_congr (g := fun _ => false) m (fun i hi => h i hi)]
    have : ∀ m, cb (fun _ => false) m = 0 := fun m => by
      induction m with
      | zero => rfl
      | succ m ih => show cb (fun _ => false) m + _ = 0; rw [ih]; rfl
    exact this m
theorem GS_skip {M : Nat → Bool} {i : Nat} {ct fi sf af : Int32} (h : GS M i ct fi sf af) (hm : M i = false) : GS M (i + 1) ct fi sf af := by
  obtain ⟨h1, h2, h3, h4⟩ := h
  refine ⟨?_, fun w0 hw hM hf => ?_, fun t => ?_, fun t ht => ?_⟩
  · rw [h1]
    show _ = nI (cb M i + (if M i = true then 1 else 0))
    rw [if_neg (by rw [hm]; decide), Nat.add_zero]
  · by_cases c : w0 = i
    · rw [c, hm] at hM; cases hM
    · exact h2 w0 (by omega) hM hf
  · rw [h3 t]
    constructor
    · rintro ⟨w, a, b, c⟩; exact ⟨w, by omega, b, c⟩
    · rintro ⟨w, a, b, c⟩
      by_cases d : w = i
      · rw [d, hm] at b; cases b
      · exact ⟨w, by omega, b, c⟩
  · rw [h4 t ht]
    constructor
    · intro q w hw hM
      by_cases d : w = i
      · rw [d, hm] at hM; cases hM
      · exact q w (by omega) hM
    · intro q w hw hM; exact q w (by omega) hM
theorem GS_take {M : Nat → Bool} {i : Nat} {ct fi sf af fi2 : Int32} (hi : i < 512) (h : GS M i ct fi sf af) (hm : M i = true) (hf : (ct = 0 → fi2 = nI i) ∧ (¬ ct = 0 → fi2 = fi)) : GS M (i + 1) (ct + 1) fi2 (sf ||| nI i) (af &&& nI i) := by
  obtain ⟨h1, h2, h3, h4⟩ := h
  have hle := cb_le M i
  refine ⟨?_, fun w0 hw hM hfst => ?_, fun t => ?_, fun t ht => ?_⟩
  · rw [h1, nI_1]
    show _ = nI (cb M i + (if M i = true then 1 else 0))
    rw [if_pos hm]
  · by_cases c : ct = 0
    · rw [h1, ← nI_0, nI_eq (by omega) (by omega), cb_none] at c
      have : w0 = i := by
        rcases Nat.lt_or_ge w0 i with g | g
        · rw [c w0 g] at hM; cases hM
        · omega
      rw [this]
      refine hf.1 ?_
      rw [h1, (cb_none i).mpr c]; rfl
    · rw [hf.2 c]
      rw [h1, ← nI_0, nI_eq (by omega) (by omega), cb_none] at c
      have : w0 ≠ i := fun e => c (fun w hw => hfst w (by omega))
      exact h2 w0 (by omega) hM hfst
  · rw [b_or, Bool.or_eq_true, h3 t, nI_bt (by omega)]
    constructor
    · rintro (⟨w, a, b, c⟩ | c)
      · exact ⟨w, by omega, b, c⟩
      · exact ⟨i, by omega, hm, c⟩
    · rintro ⟨w, a, b, c⟩
      by_cases d : w = i
      · rw [d] at c; exact Or.inr c
      · exact Or.inl ⟨w, by omega, b, c⟩
  · rw [b_and, Bool.and_eq_true, h4 t ht, nI_bt (by omega)]
    constructor
    · rintro ⟨a, b⟩ w hw hM
      by_cases d : w = i
      · rw [d]; exact b
      · exact a w (by omega) hM
    · intro q
      exact ⟨fun w hw hM => q w (by omega) hM, q i (by omega) hm⟩
theorem gather_L25 (hn : n ≤ 6) (h : gRel n fp fc mh) {fq0 fd0 fl fh : Nat → Int32} {P : Nat} {dc cbb kb kc ga0 ct0 fi0 sf0 af0 : Int32} (hp : pRel n fp fc mh P dc cbb fl fh) (hk : kRel n mh mk kb kc) : ∀ (k i : Nat) (ct fi sf af : Int32) (fq fd : Nat → Int32), i + k = 2 ^ P → GS (memB n mh mk) i ct fi sf af →
    ∃ ct' fi' sf' af' fq' fd', kGather_L25 n fp fc fq0 fd0 fl fh P dc cbb kb kc ga0 ct0 fi0 sf0 af0 k i ct fi sf af fq fd = (1, ct', fi', sf', af', fq', fd') ∧ GS (memB n mh mk) (2 ^ P) ct' fi' sf' af'
  | 0, i, ct, fi, sf, af, fq, fd, hi, hg => ⟨ct, fi, sf, af, fq, fd, rfl, by rw [← hi]; exact hg⟩
  | k + 1, i, ct, fi, sf, af, fq, fd, hi, hg => by
    have h512 := vz_p512 hp.2.1
    have hms := member_same (fq := fq) (fd := fd) hn h hp hk (show i < 2 ^ 31 by omega)
    rw [kGather_L25]
    by_cases c : (kMember n fp fc fq fd fl fh P dc cbb kb kc (nI i)).1 = 0
    · rw [if_pos c]
      exact gather_L25 hn h hp hk k (i + 1) _ _ _ _ _ _ (by omega) (GS_skip hg (decide_eq_false (fun q => q (hms.mp c))))
    · rw [if_neg c]
      have hm : memB n mh mk i = true := decide_eq_true (fun q => c (hms.mpr q))
      by_cases d : ct = 0
      · rw [if_pos d]
        exact gather_L25 hn h hp hk k (i + 1) _ _ _ _ _ _ (by omega) (GS_take (by omega) hg hm ⟨fun _ => rfl, fun q => absurd d q⟩)
      · rw [if_neg d]
        exact gather_L25 hn h hp hk k (i + 1) _ _ _ _ _ _ (by omega) (GS_take (by omega) hg hm ⟨fun q => absurd q d, fun _ => rfl⟩)
/-- what gather leaves -/
theorem gather_eq (hn : n ≤ 6) (h : gRel n fp fc mh) {fq fd fl fh : Nat → Int32} {P : Nat} {dc cbb kb kc ga ct fi sf af : Int32} (hp : pRel n fp fc mh P dc cbb fl fh) (hk : kRel n mh mk kb kc) (hga : ga = 0 ∨ (ga = 1 ∧ GS (memB n mh mk) (2 ^ P) ct fi sf af)) :
    ∃ ct' fi' sf' af' fq' fd', kGather n fp fc fq fd fl fh P dc cbb kb kc ga ct fi sf af = (1, ct', fi', sf', af', fq', fd') ∧ GS (memB n mh mk) (2 ^ P) ct' fi' sf' af' := by
  unfold kGather
  by_cases c : ga = 0
  · rw [if_pos c]
    refine gather_L25 hn h hp hk (2 ^ P) 0 0 fi 0 (-1) fq fd (by omega) ⟨rfl, fun w0 hw => by omega, fun t => ?_, fun t ht => ?_⟩
    · rw [b_0]
      exact ⟨fun q => (by cases q), fun ⟨w, hw, _⟩ => (by omega)⟩
    · exact ⟨fun _ w hw => by omega, fun _ => b_m1 t ht⟩
  · rw [if_neg c]
    obtain ⟨e, hg⟩ := hga.resolve_left c
    exact ⟨ct, fi, sf, af, fq, fd, by rw [e], hg⟩
/-! the reference -/
theorem tW_36 (hn : n ≤ 6) (w : Nat) {x : Nat} (hx : 36 ≤ x) : tW n mh w x = 0 := Classical.byContradiction (fun q => by
  obtain ⟨i, hi, e⟩ := (tW_ne w x).mp q
  have := pl_mem hi
  unfold ixq at e
  split at e <;> omega)
theorem nar_id {x : Int32} (h : x = 0 ∨ x = 1) : vp_nar .boolean x = x := by
  rcases h with rfl | rfl
  · exact nar0
  · exact nar1
def MS (n : Nat) (mh : Nat → Int32) (M : Nat → Bool) (m : Nat) (mc : Int32) (mv mb : Nat → Int32) : Prop :=
  mc = nI (cb M m) ∧ (∀ x, x < 36 → mv x = nI (cb (fun w => M w && decide (¬ tW n mh w x = 0)) m)) ∧ ∀ w0, w0 < m → M w0 = true → (∀ w, w < w0 → M w = false) → ∀ x, x < 36 → mb x = tW n mh w0 x
theorem MS_skip {M : Nat → Bool} {i : Nat} {mc : Int32} {mv mb : Nat → Int32} (h : MS n mh M i mc mv mb) (hm : M i = false) : MS n mh M (i + 1) mc mv mb := by
  obtain ⟨h1, h2, h3⟩ := h
  refine ⟨?_, fun x hx => ?_, fun w0 hw hM hf => ?_⟩
  · rw [h1]
    show _ = nI (cb M i + (if M i = true then 1 else 0))
    rw [if_neg (by rw [hm]; decide), Nat.add_zero]
  · rw [h2 x hx]
    show _ = nI (cb _ i + (if (M i && decide (¬ tW n mh i x = 0)) = true then 1 else 0))
    rw [hm, Bool.false_and, if_neg (by decide), Nat.add_zero]
  · by_cases c : w0 = i
    · rw [c, hm] at hM; cases hM
    · exact h3 w0 (by omega) hM hf
theorem MS_take {M : Nat → Bool} {i : Nat} {mc : Int32} {mv mb mv2 mb2 : Nat → Int32} (hi : i < 512) (h : MS n mh M i mc mv mb) (hm : M i = true) (hv : ∀ x, x < 36 → mv2 x = (if tW n mh i x = 0 then mv x else mv x + 1) ∧ mb2 x = (if mc = 0 then tW n mh i x else mb x)) : MS n mh M (i + 1) (mc + 1) mv2 mb2 := by
  obtain ⟨h1, h2, h3⟩ := h
  have hle := cb_le M i
  refine ⟨?_, fun x hx => ?_, fun w0 hw hM hf x hx => ?_⟩
  · rw [h1, nI_1]
    show _ = nI (cb M i + (if M i = true then 1 else 0))
    rw [if_pos hm]
  · rw [(hv x hx).1, h2 x hx]
    show _ = nI (cb _ i + (if (M i && decide (¬ tW n mh i x = 0)) = true then 1 else 0))
    rw [hm, Bool.true_and]
    by_cases c : tW n mh i x = 0
    · rw [if_pos c, if_neg (by rw [decide_eq_true_iff]; exact fun q => q c), Nat.add_zero]
    · rw [if_neg c, if_pos (decide_eq_true c), nI_1]
  · rw [(hv x hx).2]
    by_cases c : mc = 0
    · rw [if_pos c]
      rw [h1, ← nI_0, nI_eq (by omega) (by omega), cb_none] at c
      have : w0 = i := by
        rcases Nat.lt_or_ge w0 i with g | g
        · rw [c w0 g] at hM; cases hM
        · omega
      rw [this]
    · rw [if_neg c]
      rw [h1, ← nI_0, nI_eq (by omega) (by omega), cb_none] at c
      have : w0 ≠ i := fun e => c (fun w hw => hf w (by omega))
      exact h3 w0 (by omega) hM hf x hx
theorem go_L56 {mt mv mb ml mg : Nat → Int32} {mc : Int32} {Q j11 : Nat} {v11 : Nat → Int32} {w : Nat} {mc32 : Int32} {mv32 mb32 mt32 T : Nat → Int32} (hT : mDirect mt32 (mFind n mh ml mg).2.1 (mFind n mh ml mg).2.2 (mFind n mh ml mg).1 (nI w) = T) (hT1 : is01 T) (kk : Int32 → (Nat → Int32) → (Nat → Int32) → (Nat → Int32) → Nat × (Nat → Int32) × (Nat → Int32) × Int32 × (Nat → Int32) × (Nat → Int32) × (Nat → Int32)) : ∀ (k i : Nat) (v b : Nat → Int32), i + k = 36 → is01 b →
    ∃ v' b', mGo_L56 n mh mk mt mv mb ml mg mc Q j11 v11 w mc32 mv32 mb32 mt32 kk k i v b = kk (mc32 + 1) v' b' T ∧ is01 b' ∧ (∀ x, x < i → v' x = v x ∧ b' x = b x) ∧ ∀ x, i ≤ x → x < 36 → v' x = (if T x = 0 then v x else v x + 1) ∧ b' x = (if mc32 = 0 then T x else b x)
  | 0, i, v, b, h, hb => ⟨v, b, by rw [mGo_L56, hT], hb, fun _ _ => ⟨rfl, rfl⟩, fun x h1 h2 => by omega⟩
  | k + 1, i, v, b, h, hb => by
    rw [mGo_L56, hT, nI_clamp (by omega), nar_id (hT1 i), nar_id (hb i)]
    have step : ∀ (vi bi : Int32), (bi = 0 ∨ bi = 1) → vi = (if T i = 0 then v i else v i + 1) → bi = (if mc32 = 0 then T i else b i) → ∃ v' b', mGo_L56 n mh mk mt mv mb ml mg mc Q j11 v11 w mc32 mv32 mb32 mt32 kk k (i + 1) (upd v i vi) (upd b i bi) = kk (mc32 + 1) v' b' T ∧ is01 b' ∧ (∀ x, x < i → v' x = v x ∧ b' x = b x) ∧ ∀ x, i ≤ x → x < 36 → v' x = (if T x = 0 then v x else v x + 1) ∧ b' x = (if mc32 = 0 then T x else b x) := by
      intro vi bi hbi e1 e2
      obtain ⟨v', b', q1, q2, q3, q4⟩ := go_L56 (mt := mt) (mv := mv) (mb := mb) (mc := mc) (Q := Q) (j11 := j11) (v11 := v11) (mc32 := mc32) (mv32 := mv32) (mb32 := mb32) hT hT1 kk k (i + 1) (upd v i vi) (upd b i bi) (by omega) (is01_upd hb hbi)
      refine ⟨v', b', q1, q2, fun x hx => ?_, fun x h1 h2 => ?_⟩
      · have := q3 x (by omega)
        rw [pk_un (by omega), pk_un (by omega)] at this
        exact this
      · by_cases c : x = i
        · have := q3 x (by omega)
          rw [c] at this ⊢
          rw [pk_us, pk_us] at this
          rw [this.1, this.2]
          exact ⟨e1, e2⟩
        · have := q4 x (by omega) h2
          rw [pk_un c, pk_un c] at this
          exact this
    by_cases c1 : mc32 = 0
    · rw [if_pos c1]
      by_cases c2 : T i = 0
      · rw [if_pos c2]
        exact step _ _ (hT1 i) (if_pos c2).symm (if_pos c1).symm
      · rw [if_neg c2]
        exact step _ _ (hT1 i) (if_neg c2).symm (if_pos c1).symm
    · rw [if_neg c1]
      by_cases c2 : T i = 0
      · rw [if_pos c2]
        exact step _ _ (hb i) (if_pos c2).symm (if_neg c1).symm
      · rw [if_neg c2]
        exact step _ _ (hb i) (if_neg c2).symm (if_neg c1).symm
theorem go_L32 (hn : n ≤ 6) (hJ : jcO mh n n 0 ≤ 9) {mt mv mb ml mg : Nat → Int32} {mc : Int32} {Q j11 : Nat} {v11 : Nat → Int32} : ∀ (k i : Nat) (a : Int32) (v b t : Nat → Int32), i + k = 2 ^ (plO mh n n 0).length → MS n mh (memB n mh mk) i a v b → is01 b → (∀ j, 36 ≤ j → t j = 0) →
    ∃ a' v' b' t', mGo_L32 n mh mk mt mv mb ml mg mc Q j11 v11 k i a v b t = ((mFind n mh ml mg).1, (mFind n mh ml mg).2.1, (mFind n mh ml mg).2.2, a', v', t', b') ∧ MS n mh (memB n mh mk) (2 ^ (plO mh n n 0).length) a' v' b' ∧ is01 b' ∧ ∀ j, 36 ≤ j → t' j = 0
  | 0, i, a, v, b, t, hi, hm, hb, ht => ⟨a, v, b, t, rfl, by rw [← hi]; exact hm, hb, ht⟩
  | k + 1, i, a, v, b, t, hi, hm, hb, ht => by
    have h9 : (plO mh n n 0).length ≤ 9 := by rw [plO_len]; exact hJ
    have h512 := vz_p512 h9
    have hT : mDirect t (mFind n mh ml mg).2.1 (mFind n mh ml mg).2.2 (mFind n mh ml mg).1 (nI i) = tW n mh i := by
      rw [mFind_eq hJ]
      exact mDirect_eq hn h9 (fun j hj => ⟨lay_get _ ml hj, lay_get2 _ mg hj⟩) ht (by omega)
    rw [mGo_L32, hT]
    by_cases c : mMember n mh mk (tW n mh i) = 0
    · rw [if_pos c]
      exact go_L32 hn hJ k (i + 1) _ _ _ _ (by omega) (MS_skip hm (decide_eq_false (fun q => q c))) hb (fun j hj => tW_36 hn i hj)
    · rw [if_neg c]
      obtain ⟨v', b', e, h1, h2, h3⟩ := go_L56 (mk := mk) (mt := mt) (mv := mv) (mb := mb) (mc := mc) (Q := Q) (j11 := j11) (v11 := v11) (mc32 := a) (mv32 := v) (mb32 := b) hT (tW_01 i) (fun w0 w1 w2 w3 => mGo_L32 n mh mk mt mv mb ml mg mc Q j11 v11 k (i + 1) w0 w1 w2 w3) 36 0 v b (by omega) hb
      rw [e]
      exact go_L32 hn hJ k (i + 1) _ _ _ _ (by omega) (MS_take (by omega) hm (decide_eq_true c) (fun x hx => h3 x (by omega) hx)) h1 (fun j hj => tW_36 hn i hj)
theorem go_L11 (hn : n ≤ 6) (hJ : jcO mh n n 0 ≤ 9) {mt mv mb ml mg : Nat → Int32} {mc : Int32} {Q : Nat} (hb : is01 mb) (ht : ∀ j, 36 ≤ j → mt j = 0) : ∀ (k i : Nat) (v : Nat → Int32), i + k = 36 → (∀ x, x < i → v x = 0) →
    ∃ a' v' b' t', mGo_L11 n mh mk mt mv mb ml mg mc Q k i v = ((mFind n mh ml mg).1, (mFind n mh ml mg).2.1, (mFind n mh ml mg).2.2, a', v', t', b') ∧ MS n mh (memB n mh mk) (2 ^ (plO mh n n 0).length) a' v' b' ∧ is01 b' ∧ ∀ j, 36 ≤ j → t' j = 0
  | 0, i, v, h, hv => by
    rw [mGo_L11]
    have e : 2 ^ (mFind n mh ml mg).1 = 2 ^ (plO mh n n 0).length := by rw [mFind_eq hJ]
    exact go_L32 hn hJ _ 0 0 v mb mt (by rw [e]; omega) ⟨rfl, fun x hx => hv x (by omega), fun w0 hw => by omega⟩ hb ht
  | k + 1, i, v, h, hv => by
    rw [mGo_L11, nI_clamp (by omega)]
    refine go_L11 hn hJ hb ht k (i + 1) _ (by omega) (fun x hx => ?_)
    by_cases c : x = i
    · rw [c, pk_us]
    · rw [pk_un c]; exact hv x (by omega)
theorem go_eq (hn : n ≤ 6) (hJ : jcO mh n n 0 ≤ 9) {mt mv mb ml mg : Nat → Int32} {mc : Int32} {Q : Nat} (hb : is01 mb) (ht : ∀ j, 36 ≤ j → mt j = 0) :
    ∃ a' v' b' t', mGo n mh mk mt mv mb ml mg mc Q = ((plO mh n n 0).length, layA ml 0 ((plO mh n n 0).map Prod.fst), layA mg 0 ((plO mh n n 0).map Prod.snd), a', v', t', b') ∧ MS n mh (memB n mh mk) (2 ^ (plO mh n n 0).length) a' v' b' ∧ is01 b' ∧ ∀ j, 36 ≤ j → t' j = 0 := by
  obtain ⟨a', v', b', t', e, h1, h2, h3⟩ := go_L11 (mk := mk) (mv := mv) (ml := ml) (mg := mg) (mc := mc) (Q := Q) hn hJ hb ht 36 0 mv (by omega) (fun x hx => by omega)
  refine ⟨a', v', b', t', ?_, h1, h2, h3⟩
  rw [mGo, e, mFind_eq hJ]
end GA
