/-! what the reference's walks need of the pure functions -/
theorem mNode_in {n : Nat} {v : Int32} (hn : n ≤ 6) (h : ¬ mNode n v = 0) : vp_in v n := xNode_in hn h
theorem mPair_in {n : Nat} {u v : Int32} (hn : n ≤ 6) (h : ¬ mPair n u v = 0) : vp_in u n ∧ vp_in v n ∧ u ≠ v := xPair_in hn h
/-! the joined pairs, as the reference goes through them -/
def plI (mh : Nat → Int32) (u : Nat) : Nat → Nat → List (Nat × Nat)
  | 0, _ => []
  | k + 1, i => if mJoin mh (nI u) (nI i) = 0 then plI mh u k (i + 1) else (u, i) :: plI mh u k (i + 1)
def plO (mh : Nat → Int32) (n : Nat) : Nat → Nat → List (Nat × Nat)
  | 0, _ => []
  | k + 1, i => plI mh i (n - (i + 1)) (i + 1) ++ plO mh n k (i + 1)
def jcI (mh : Nat → Int32) (u : Nat) : Nat → Nat → Nat
  | 0, _ => 0
  | k + 1, i => (if mJoin mh (nI u) (nI i) = 0 then 0 else 1) + jcI mh u k (i + 1)
def jcO (mh : Nat → Int32) (n : Nat) : Nat → Nat → Nat
  | 0, _ => 0
  | k + 1, i => jcI mh i (n - (i + 1)) (i + 1) + jcO mh n k (i + 1)
theorem plI_len (mh : Nat → Int32) (u : Nat) : ∀ k i, (plI mh u k i).length = jcI mh u k i
  | 0, _ => rfl
  | k + 1, i => by
    rw [plI, jcI]
    by_cases h : mJoin mh (nI u) (nI i) = 0
    · rw [if_pos h, if_pos h, plI_len mh u k (i + 1)]; omega
    · rw [if_neg h, if_neg h, List.length_cons, plI_len mh u k (i + 1)]; omega
theorem plO_len (mh : Nat → Int32) (n : Nat) : ∀ k i, (plO mh n k i).length = jcO mh n k i
  | 0, _ => rfl
  | k + 1, i => by rw [plO, jcO, List.length_append, plI_len, plO_len mh n k (i + 1)]
/-- a table with the numbers of a list laid in from place q on -/
def layA (f : Nat → Int32) (q : Nat) : List Nat → Nat → Int32
  | [] => f
  | a :: l => layA (upd f q (nI a)) (q + 1) l
theorem layA_app (l2 : List Nat) : ∀ (l1 : List Nat) (f : Nat → Int32) (q : Nat), layA f q (l1 ++ l2) = layA (layA f q l1) (q + l1.length) l2
  | [], f, q => rfl
  | a :: l1, f, q => by
    show layA (upd f q (nI a)) (q + 1) (l1 ++ l2) = layA (layA (upd f q (nI a)) (q + 1) l1) (q + (l1.length + 1)) l2
    rw [layA_app l2 l1, Nat.add_assoc, Nat.add_comm 1]
theorem layA_lo : ∀ (l : List Nat) (f : Nat → Int32) (q j : Nat), j < q → layA f q l j = f j
  | [], _, _, _, _ => rfl
  | a :: l, f, q, j, h => by
    show layA (upd f q (nI a)) (q + 1) l j = f j
    rw [layA_lo l _ (q + 1) j (by omega), pk_un (by omega)]
theorem layA_at : ∀ (l : List Nat) (f : Nat → Int32) (q j : Nat) (h : j < l.length), layA f q l (q + j) = nI l[j]
  | [], _, _, _, h => by cases h
  | a :: l, f, q, 0, _ => by
    show layA (upd f q (nI a)) (q + 1) l q = nI a
    rw [layA_lo l _ (q + 1) q (by omega), pk_us]
  | a :: l, f, q, j + 1, h => by
    have hj : j < l.length := by rw [List.length_cons] at h; omega
    show layA (upd f q (nI a)) (q + 1) l (q + (j + 1)) = nI l[j]
    rw [show q + (j + 1) = q + 1 + j by omega]
    exact layA_at l _ (q + 1) j hj
theorem mFind_L19_eq {n : Nat} (mh ml mg : Nat → Int32) (u Q7 : Nat) (l7 g7 : Nat → Int32) (kk : Nat → (Nat → Int32) → (Nat → Int32) → Nat × (Nat → Int32) × (Nat → Int32)) : ∀ (k i Q : Nat) (l g : Nat → Int32), Q + jcI mh u k i ≤ 9 →
    mFind_L19 n mh ml mg u Q7 l7 g7 kk k i Q l g = kk (Q + (plI mh u k i).length) (layA l Q ((plI mh u k i).map Prod.fst)) (layA g Q ((plI mh u k i).map Prod.snd))
  | 0, i, Q, l, g, _ => rfl
  | k + 1, i, Q, l, g, h => by
    rw [mFind_L19, plI]
    rw [jcI] at h
    by_cases c : mJoin mh (nI u) (nI i) = 0
    · rw [if_pos c] at h
      rw [if_pos c, if_pos c]
      exact mFind_L19_eq mh ml mg u Q7 l7 g7 kk k (i + 1) Q l g (by omega)
    · rw [if_neg c] at h
      rw [if_neg c, if_neg c, nI_clamp (by omega), mFind_L19_eq mh ml mg u Q7 l7 g7 kk k (i + 1) (Q + 1) _ _ (by omega), List.length_cons, List.map_cons, List.map_cons, Nat.add_assoc, Nat.add_comm 1]
      rfl
theorem mFind_L7_eq {n : Nat} (mh ml mg : Nat → Int32) : ∀ (k i Q : Nat) (l g : Nat → Int32), Q + jcO mh n k i ≤ 9 →
    mFind_L7 n mh ml mg k i Q l g = (Q + (plO mh n k i).length, layA l Q ((plO mh n k i).map Prod.fst), layA g Q ((plO mh n k i).map Prod.snd))
  | 0, i, Q, l, g, _ => rfl
  | k + 1, i, Q, l, g, h => by
    rw [jcO] at h
    rw [mFind_L7, mFind_L19_eq mh ml mg i Q l g _ _ _ Q l g (by omega), plO]
    have hl := plI_len mh i (n - (i + 1)) (i + 1)
    rw [mFind_L7_eq mh ml mg k (i + 1) _ _ _ (by omega), List.length_append, List.map_append, List.map_append, layA_app, layA_app, List.length_map, List.length_map, Nat.add_assoc]
theorem mFind_eq {n : Nat} {mh ml mg : Nat → Int32} (hJ : jcO mh n n 0 ≤ 9) : mFind n mh ml mg = ((plO mh n n 0).length, layA ml 0 ((plO mh n n 0).map Prod.fst), layA mg 0 ((plO mh n n 0).map Prod.snd)) := by
  rw [mFind, mFind_L7_eq mh ml mg n 0 0 ml mg (by omega), Nat.zero_add]
theorem plI_mem (mh : Nat → Int32) (u : Nat) : ∀ k i (q : Nat × Nat), q ∈ plI mh u k i → q.1 = u ∧ i ≤ q.2 ∧ q.2 < i + k ∧ ¬ mJoin mh (nI q.1) (nI q.2) = 0
  | 0, _, _, h => by cases h
  | k + 1, i, q, h => by
    rw [plI] at h
    by_cases c : mJoin mh (nI u) (nI i) = 0
    · rw [if_pos c] at h
      have := plI_mem mh u k (i + 1) q h
      exact ⟨this.1, by omega, by omega, this.2.2.2⟩
    · rw [if_neg c] at h
      rcases List.mem_cons.mp h with h | h
      · subst h; exact ⟨rfl, by show i ≤ i; omega, by show i < _; omega, c⟩
      · have := plI_mem mh u k (i + 1) q h
        exact ⟨this.1, by omega, by omega, this.2.2.2⟩
theorem plO_mem (mh : Nat → Int32) (n : Nat) : ∀ k i (q : Nat × Nat), q ∈ plO mh n k i → i ≤ q.1 ∧ q.1 < i + k ∧ q.1 < q.2 ∧ q.2 < n ∧ ¬ mJoin mh (nI q.1) (nI q.2) = 0
  | 0, _, _, h => by cases h
  | k + 1, i, q, h => by
    rw [plO] at h
    rcases List.mem_append.mp h with h | h
    · have := plI_mem mh i _ _ q h
      exact ⟨by omega, by omega, by omega, by omega, this.2.2.2⟩
    · have := plO_mem mh n k (i + 1) q h
      exact ⟨by omega, by omega, by omega, by omega, this.2.2.2.2⟩
theorem mFind_le {n : Nat} {mh ml mg : Nat → Int32} (_hn : n ≤ 6) (hJ : jcO mh n n 0 ≤ 9) : (mFind n mh ml mg).1 ≤ 9 := by
  rw [mFind_eq hJ, plO_len]; exact hJ
theorem mFind_lo {n : Nat} {mh ml mg : Nat → Int32} (hn : n ≤ 6) (hJ : jcO mh n n 0 ≤ 9) : ∀ j, j < (mFind n mh ml mg).1 → vp_in ((mFind n mh ml mg).2.1 j) n := by
  rw [mFind_eq hJ]
  intro j hj
  have hj : j < (plO mh n n 0).length := hj
  show vp_in (layA ml 0 ((plO mh n n 0).map Prod.fst) j) n
  have := layA_at ((plO mh n n 0).map Prod.fst) ml 0 j (by rw [List.length_map]; exact hj)
  rw [Nat.zero_add] at this
  rw [this, List.getElem_map]
  have hm := plO_mem mh n n 0 _ (List.getElem_mem hj)
  exact vp_in_nI (by omega) (by omega)
theorem mFind_hi {n : Nat} {mh ml mg : Nat → Int32} (hn : n ≤ 6) (hJ : jcO mh n n 0 ≤ 9) : ∀ j, j < (mFind n mh ml mg).1 → vp_in ((mFind n mh ml mg).2.2 j) n := by
  rw [mFind_eq hJ]
  intro j hj
  have hj : j < (plO mh n n 0).length := hj
  show vp_in (layA mg 0 ((plO mh n n 0).map Prod.snd) j) n
  have := layA_at ((plO mh n n 0).map Prod.snd) mg 0 j (by rw [List.length_map]; exact hj)
  rw [Nat.zero_add] at this
  rw [this, List.getElem_map]
  have hm := plO_mem mh n n 0 _ (List.getElem_mem hj)
  exact vp_in_nI (by omega) (by omega)
/-! goThrough keeps what findPairs found; best holds 0 and 1 -/
def is01 (f : Nat → Int32) : Prop := ∀ j, f j = 0 ∨ f j = 1
theorem nar01 (x : Int32) : vp_nar .boolean x = 0 ∨ vp_nar .boolean x = 1 := by
  show x &&& 1 = 0 ∨ x &&& 1 = 1
  rw [b_low]
  split
  · exact Or.inr rfl
  · exact Or.inl rfl
theorem is01_upd {f : Nat → Int32} {k : Nat} {x : Int32} (h : is01 f) (hx : x = 0 ∨ x = 1) : is01 (upd f k x) := fun j => by
  unfold upd
  split
  · exact hx
  · exact h j
theorem mGo_L56_pr {n : Nat} {mh mk mt mv mb ml mg : Nat → Int32} {mc : Int32} {Q j11 : Nat} {v11 : Nat → Int32} {i32 : Nat} {mc32 : Int32} {mv32 mb32 mt32 : Nat → Int32} {kk : Int32 → (Nat → Int32) → (Nat → Int32) → (Nat → Int32) → Nat × (Nat → Int32) × (Nat → Int32) × Int32 × (Nat → Int32) × (Nat → Int32) × (Nat → Int32)}
    {Pr : Nat × (Nat → Int32) × (Nat → Int32) × Int32 × (Nat → Int32) × (Nat → Int32) × (Nat → Int32) → Prop} (hk : ∀ a v b t, is01 b → Pr (kk a v b t)) : ∀ (k i : Nat) (v b : Nat → Int32), is01 b → Pr (mGo_L56 n mh mk mt mv mb ml mg mc Q j11 v11 i32 mc32 mv32 mb32 mt32 kk k i v b)
  | 0, i, v, b, hb => hk _ _ _ _ hb
  | k + 1, i, v, b, hb => by
    rw [mGo_L56]
    split
    · split
      · exact mGo_L56_pr hk k (i + 1) _ _ (is01_upd hb (nar01 _))
      · exact mGo_L56_pr hk k (i + 1) _ _ (is01_upd hb (nar01 _))
    · split
      · exact mGo_L56_pr hk k (i + 1) _ _ (is01_upd hb (nar01 _))
      · exact mGo_L56_pr hk k (i + 1) _ _ (is01_upd hb (nar01 _))
theorem mGo_L32_pr {n : Nat} {mh mk mt mv mb ml mg : Nat → Int32} {mc : Int32} {Q j11 : Nat} {v11 : Nat → Int32} {Pr : Nat × (Nat → Int32) × (Nat → Int32) × Int32 × (Nat → Int32) × (Nat → Int32) × (Nat → Int32) → Prop}
    (hk : ∀ a v b t, is01 b → Pr ((mFind n mh ml mg).1, (mFind n mh ml mg).2.1, (mFind n mh ml mg).2.2, a, v, t, b)) : ∀ (k i : Nat) (a : Int32) (v b t : Nat → Int32), is01 b → Pr (mGo_L32 n mh mk mt mv mb ml mg mc Q j11 v11 k i a v b t)
  | 0, i, a, v, b, t, hb => hk a v b t hb
  | k + 1, i, a, v, b, t, hb => by
    rw [mGo_L32]
    split
    · exact mGo_L32_pr hk k (i + 1) _ _ _ _ hb
    · exact mGo_L56_pr (fun a v b t hb => mGo_L32_pr hk k (i + 1) a v b t hb) 36 0 _ _ hb
theorem mGo_L11_pr {n : Nat} {mh mk mt mv mb ml mg : Nat → Int32} {mc : Int32} {Q : Nat} {Pr : Nat × (Nat → Int32) × (Nat → Int32) × Int32 × (Nat → Int32) × (Nat → Int32) × (Nat → Int32) → Prop} (hb : is01 mb)
    (hk : ∀ a v b t, is01 b → Pr ((mFind n mh ml mg).1, (mFind n mh ml mg).2.1, (mFind n mh ml mg).2.2, a, v, t, b)) : ∀ (k i : Nat) (v : Nat → Int32), Pr (mGo_L11 n mh mk mt mv mb ml mg mc Q k i v)
  | 0, i, v => mGo_L32_pr hk _ 0 _ _ _ _ hb
  | k + 1, i, v => mGo_L11_pr hb hk k (i + 1) _
theorem mGo_pr {n : Nat} {mh mk mt mv mb ml mg : Nat → Int32} {mc : Int32} {Q : Nat} (hb : is01 mb) {Pr : Nat × (Nat → Int32) × (Nat → Int32) × Int32 × (Nat → Int32) × (Nat → Int32) × (Nat → Int32) → Prop}
    (hk : ∀ a v b t, is01 b → Pr ((mFind n mh ml mg).1, (mFind n mh ml mg).2.1, (mFind n mh ml mg).2.2, a, v, t, b)) : Pr (mGo n mh mk mt mv mb ml mg mc Q) := mGo_L11_pr hb hk 36 0 mv
theorem mGo_le {n : Nat} {mh mk mt mv mb ml mg : Nat → Int32} {mc : Int32} {Q : Nat} (hb : is01 mb) (hn : n ≤ 6) (hJ : jcO mh n n 0 ≤ 9) : (mGo n mh mk mt mv mb ml mg mc Q).1 ≤ 9 := mGo_pr (Pr := fun r => r.1 ≤ 9) hb (fun _ _ _ _ _ => mFind_le hn hJ)
theorem mGo_lo {n : Nat} {mh mk mt mv mb ml mg : Nat → Int32} {mc : Int32} {Q : Nat} (hb : is01 mb) (hn : n ≤ 6) (hJ : jcO mh n n 0 ≤ 9) : ∀ j, j < (mGo n mh mk mt mv mb ml mg mc Q).1 → vp_in ((mGo n mh mk mt mv mb ml mg mc Q).2.1 j) n := mGo_pr (Pr := fun r => ∀ j, j < r.1 → vp_in (r.2.1 j) n) hb (fun _ _ _ _ _ => mFind_lo hn hJ)
theorem mGo_hi {n : Nat} {mh mk mt mv mb ml mg : Nat → Int32} {mc : Int32} {Q : Nat} (hb : is01 mb) (hn : n ≤ 6) (hJ : jcO mh n n 0 ≤ 9) : ∀ j, j < (mGo n mh mk mt mv mb ml mg mc Q).1 → vp_in ((mGo n mh mk mt mv mb ml mg mc Q).2.2.1 j) n := mGo_pr (Pr := fun r => ∀ j, j < r.1 → vp_in (r.2.2.1 j) n) hb (fun _ _ _ _ _ => mFind_hi hn hJ)
theorem mGo_b {n : Nat} {mh mk mt mv mb ml mg : Nat → Int32} {mc : Int32} {Q : Nat} (hb : is01 mb) : is01 (mGo n mh mk mt mv mb ml mg mc Q).2.2.2.2.2.2 := mGo_pr (Pr := fun r => is01 r.2.2.2.2.2.2) hb (fun _ _ _ _ h => h)
/-! the stack of the reference's search for paths -/
def dInv (n : Nat) (x0 : Int32) (M : Nat) (mp mx : Nat → Int32) : Prop :=
  M ≤ n ∧ (∀ j, j < M → ∃ a, a < n ∧ mp j = nI a) ∧ (∀ i j, i < j → j < M → mp i ≠ mp j) ∧ (∀ j, j < M → ∃ b, b ≤ n ∧ mx j = nI b) ∧ (0 < M → mp 0 = x0)
theorem cl0 : (0 : Int32).toNatClampNeg = 0 := by decide
theorem dInv_0 {n : Nat} {x0 : Int32} {mp mx : Nat → Int32} (hn : n ≤ 6) (h : vp_in x0 n) : dInv n x0 1 (upd mp (0 : Int32).toNatClampNeg x0) (upd mx (0 : Int32).toNatClampNeg 0) := by
  obtain ⟨a, ha, rfl⟩ := vp_in_of h (by omega)
  rw [cl0]
  refine ⟨by omega, fun j hj => ?_, fun i j h1 h2 => by omega, fun j hj => ?_, fun _ => pk_us⟩
  · have : j = 0 := by omega
    subst this
    exact ⟨a, ha, pk_us⟩
  · have : j = 0 := by omega
    subst this
    exact ⟨0, by omega, pk_us⟩
theorem dInv_M1 {n : Nat} {x0 : Int32} {M : Nat} {mp mx : Nat → Int32} (hn : n ≤ 6) (h : dInv n x0 M mp mx) (hM : ¬ nI M ≤ 0) : 1 ≤ M := by
  rcases Nat.eq_zero_or_pos M with e | e
  · subst e; exact absurd (by decide) hM
  · exact e
theorem dInv_ix {M : Nat} (h1 : 1 ≤ M) (h6 : M ≤ 6) : (nI M - 1).toNatClampNeg = M - 1 := by rw [vz_sub1 h1, nI_clamp (by omega)]
theorem dInv_pa {n : Nat} {x0 : Int32} {M : Nat} {mp mx : Nat → Int32} (hn : n ≤ 6) (h : dInv n x0 M mp mx) : ∀ j, j < M → vp_in (mp j) n := fun j hj => by
  obtain ⟨a, ha, e⟩ := h.2.1 j hj
  rw [e]; exact vp_in_nI ha (by omega)
theorem dInv_at {n : Nat} {x0 : Int32} {M : Nat} {mp mx : Nat → Int32} (hn : n ≤ 6) (h : dInv n x0 M mp mx) (h1 : 1 ≤ M) : vp_in (mp (nI M - 1).toNatClampNeg) n := by
  rw [dInv_ix h1 (Nat.le_trans h.1 hn)]
  exact dInv_pa hn h _ (by omega)
theorem dInv_v {n : Nat} {x0 : Int32} {M : Nat} {mp mx : Nat → Int32} (hn : n ≤ 6) (h : dInv n x0 M mp mx) (h1 : 1 ≤ M) (hv : ¬ mx (nI M - 1).toNatClampNeg = nI n) : vp_in (mx (nI M - 1).toNatClampNeg) n := by
  rw [dInv_ix h1 (Nat.le_trans h.1 hn)] at hv ⊢
  obtain ⟨b, hb, e⟩ := h.2.2.2.1 (M - 1) (by omega)
  rw [e] at hv ⊢
  refine vp_in_nI ?_ (by omega)
  rcases Nat.lt_or_ge b n with h2 | h2
  · exact h2
  · exact absurd (by rw [show b = n by omega]) hv
theorem dInv_2 {n : Nat} {x0 y0 : Int32} {M : Nat} {mp mx : Nat → Int32} (hn : n ≤ 6) (h : dInv n x0 M mp mx) (h1 : 1 ≤ M) (hxy : x0 ≠ y0) (he : mp (nI M - 1).toNatClampNeg = y0) : 2 ≤ M := by
  rw [dInv_ix h1 (Nat.le_trans h.1 hn)] at he
  rcases Nat.lt_or_ge M 2 with h2 | h2
  · exfalso
    have e : M = 1 := by omega
    subst e
    exact hxy ((h.2.2.2.2 (by omega)).symm.trans he)
  · exact h2
theorem mOnPath_L5_eq (mp : Nat → Int32) (v : Int32) (M : Nat) : ∀ (k i : Nat) (f : Int32), i + k ≤ 6 → (mOnPath_L5 mp v M k i f = 0 ↔ f = 0 ∧ ∀ j, i ≤ j → j < i + k → ¬ mp j = v)
  | 0, i, f, _ => ⟨fun h => ⟨h, fun j h1 h2 => by omega⟩, fun h => h.1⟩
  | k + 1, i, f, h => by
    rw [mOnPath_L5, nI_clamp (by omega)]
    by_cases a : f = 0
    · rw [if_pos a]
      by_cases b : mp i = v
      · rw [if_pos b, mOnPath_L5_eq mp v M k (i + 1) 1 (by omega)]
        exact ⟨fun h => absurd h.1 (by decide), fun h => absurd b (h.2 i (by omega) (by omega))⟩
      · rw [if_neg b, mOnPath_L5_eq mp v M k (i + 1) 0 (by omega)]
        refine ⟨fun h => ⟨a, fun j h1 h2 => ?_⟩, fun h => ⟨rfl, fun j h1 h2 => h.2 j (by omega) (by omega)⟩⟩
        by_cases c : j = i
        · subst c; exact b
        · exact h.2 j (by omega) (by omega)
    · rw [if_neg a, mOnPath_L5_eq mp v M k (i + 1) 1 (by omega)]
      exact ⟨fun h => absurd h.1 (by decide), fun h => absurd h.1 a⟩
theorem mOnPath_eq {mp : Nat → Int32} {v : Int32} {M : Nat} (hM : M ≤ 6) : mOnPath mp v M = 0 ↔ ∀ j, j < M → ¬ mp j = v := by
  rw [mOnPath, mOnPath_L5_eq mp v M M 0 0 (by omega)]
  exact ⟨fun h j hj => h.2 j (by omega) (by omega), fun h => ⟨rfl, fun j _ hj => h j (by omega)⟩⟩
/-- different numbers below n are at most n many -/
theorem pigeon : ∀ (n M : Nat) (f : Nat → Nat), (∀ j, j < M → f j < n) → (∀ i j, i < j → j < M → f i ≠ f j) → M ≤ n
  | 0, M, f, h, _ => by
    rcases Nat.eq_zero_or_pos M with e | e
    · omega
    · have := h 0 e; omega
  | n + 1, M, f, h, hd => by
    by_cases c : ∃ t, t < M ∧ f t = n
    · obtain ⟨t, ht, e⟩ := c
      have := pigeon n (M - 1) (fun j => if j < t then f j else f (j + 1)) (fun j hj => by
        show (if j < t then f j else f (j + 1)) < n
        split
        · have h1 := h j (by omega)
          have h2 := hd j t (by omega) ht
          omega
        · have h1 := h (j + 1) (by omega)
          have h2 := hd t (j + 1) (by omega) (by omega)
          omega) (fun i j hij hj => by
        show (if i < t then f i else f (i + 1)) ≠ (if j < t then f j else f (j + 1))
        by_cases a : i < t
        · by_cases b : j < t
          · rw [if_pos a, if_pos b]; exact hd i j hij (by omega)
          · rw [if_pos a, if_neg b]; exact hd i (j + 1) (by omega) (by omega)
        · rw [if_neg a, if_neg (by omega)]; exact hd (i + 1) (j + 1) (by omega) (by omega))
      omega
    · have := pigeon n M f (fun j hj => by
        have h1 := h j hj
        rcases Nat.lt_or_ge (f j) n with h2 | h2
        · exact h2
        · exact absurd ⟨j, hj, by omega⟩ c) hd
      omega
theorem dInv_lt {n : Nat} {x0 : Int32} {M : Nat} {mp mx : Nat → Int32} {v : Int32} (hn : n ≤ 6) (h : dInv n x0 M mp mx) (hv : vp_in v n) (ho : mOnPath mp v M = 0) : M < n := by
  obtain ⟨b, hb, rfl⟩ := vp_in_of hv (by omega)
  have hM := h.1
  rw [mOnPath_eq (by omega)] at ho
  have := pigeon n (M + 1) (fun j => if j < M then (mp j).toNatClampNeg else b) (fun j hj => by
    show (if j < M then (mp j).toNatClampNeg else b) < n
    split
    · rename_i h2
      obtain ⟨a, ha, e⟩ := h.2.1 j h2
      rw [e, nI_clamp (by omega)]; exact ha
    · exact hb) (fun i j hij hj => by
    show (if i < M then (mp i).toNatClampNeg else b) ≠ (if j < M then (mp j).toNatClampNeg else b)
    obtain ⟨a, ha, e⟩ := h.2.1 i (by omega)
    rw [if_pos (by omega), e, nI_clamp (by omega)]
    by_cases c : j < M
    · obtain ⟨a2, ha2, e2⟩ := h.2.1 j c
      rw [if_pos c, e2, nI_clamp (by omega)]
      intro q
      exact h.2.2.1 i j hij c (by rw [e, e2, q])
    · rw [if_neg c]
      intro q
      exact ho i (by omega) (by rw [e, q]))
  omega
theorem dInv_pop {n : Nat} {x0 : Int32} {M : Nat} {mp mx : Nat → Int32} (h : dInv n x0 M mp mx) : dInv n x0 (M - 1) mp mx :=
  ⟨by have := h.1; omega, fun j hj => h.2.1 j (by omega), fun i j h1 h2 => h.2.2.1 i j h1 (by omega), fun j hj => h.2.2.2.1 j (by omega), fun hM => h.2.2.2.2 (by omega)⟩
theorem dInv_next {n : Nat} {x0 : Int32} {M : Nat} {mp mx : Nat → Int32} (hn : n ≤ 6) (h : dInv n x0 M mp mx) (h1 : 1 ≤ M) (hv : ¬ mx (nI M - 1).toNatClampNeg = nI n) : dInv n x0 M mp (upd mx (nI M - 1).toNatClampNeg (mx (nI M - 1).toNatClampNeg + 1)) := by
  rw [dInv_ix h1 (Nat.le_trans h.1 hn)] at hv ⊢
  refine ⟨h.1, h.2.1, h.2.2.1, fun j hj => ?_, h.2.2.2.2⟩
  by_cases c : j = M - 1
  · subst c
    obtain ⟨b, hb, e⟩ := h.2.2.2.1 (M - 1) (by omega)
    rw [pk_us, e, nI_1]
    refine ⟨b + 1, ?_, rfl⟩
    rw [e] at hv
    rcases Nat.lt_or_ge b n with h2 | h2
    · omega
    · exact absurd (by rw [show b = n by omega]) hv
  · rw [pk_un c]; exact h.2.2.2.1 j hj
theorem dInv_push {n : Nat} {x0 : Int32} {M : Nat} {mp mx : Nat → Int32} (hn : n ≤ 6) (h : dInv n x0 M mp mx) (h1 : 1 ≤ M) (hv : ¬ mx (nI M - 1).toNatClampNeg = nI n) (ho : mOnPath mp (mx (nI M - 1).toNatClampNeg) M = 0) :
    dInv n x0 (M + 1) (upd mp (nI M).toNatClampNeg (mx (nI M - 1).toNatClampNeg)) (upd (upd mx (nI M - 1).toNatClampNeg (mx (nI M - 1).toNatClampNeg + 1)) (nI M).toNatClampNeg 0) := by
  have hvn := dInv_v hn h h1 hv
  have hlt := dInv_lt hn h hvn ho
  have hx := dInv_next hn h h1 hv
  generalize upd mx (nI M - 1).toNatClampNeg (mx (nI M - 1).toNatClampNeg + 1) = mx2 at hx ⊢
  generalize mx (nI M - 1).toNatClampNeg = v at hvn ho ⊢
  have hM := h.1
  rw [nI_clamp (by omega)]
  rw [mOnPath_eq (by omega)] at ho
  obtain ⟨b, hb, rfl⟩ := vp_in_of hvn (by omega)
  refine ⟨by omega, fun j hj => ?_, fun i j hij hj => ?_, fun j hj => ?_, fun _ => ?_⟩
  · by_cases c : j = M
    · subst c; rw [pk_us]; exact ⟨b, hb, rfl⟩
    · rw [pk_un c]; exact h.2.1 j (by omega)
  · rw [pk_un (f := mp) (show i ≠ M by omega)]
    by_cases c : j = M
    · subst c; rw [pk_us]; exact ho i hij
    · rw [pk_un c]; exact h.2.2.1 i j hij (by omega)
  · by_cases c : j = M
    · subst c; rw [pk_us]; exact ⟨0, by omega, rfl⟩
    · rw [pk_un c]; exact hx.2.2.2.1 j (by omega)
  · rw [pk_un (show (0 : Nat) ≠ M by omega)]; exact h.2.2.2.2 (by omega)
