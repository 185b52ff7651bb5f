/-! the pairs: class and reference list them alike -/
def accB (f : Nat × Nat → Nat) : Nat → List (Nat × Nat) → Nat
  | D, [] => D
  | D, q :: l => accB f (2 * D + f q) l
theorem accB_app (f : Nat × Nat → Nat) (l2 : List (Nat × Nat)) : ∀ (l1 : List (Nat × Nat)) (D : Nat), accB f D (l1 ++ l2) = accB f (accB f D l1) l2
  | [], _ => rfl
  | q :: l1, D => accB_app f l2 l1 (2 * D + f q)
theorem accB_lt (f : Nat × Nat → Nat) (hf : ∀ q, f q ≤ 1) : ∀ (l : List (Nat × Nat)) (D m : Nat), D < 2 ^ m → accB f D l < 2 ^ (m + l.length)
  | [], D, m, h => h
  | q :: l, D, m, h => by
    have hq := hf q
    have := accB_lt f hf l (2 * D + f q) (m + 1) (by rw [Nat.pow_succ]; omega)
    rw [List.length_cons, show m + (l.length + 1) = m + 1 + l.length by omega]
    exact this
theorem accB_hi (f : Nat × Nat → Nat) (hf : ∀ q, f q ≤ 1) : ∀ (l : List (Nat × Nat)) (D t : Nat), (accB f D l).testBit (l.length + t) = D.testBit t
  | [], D, t => by show D.testBit (0 + t) = _; rw [Nat.zero_add]
  | q :: l, D, t => by
    have hq := hf q
    show (accB f (2 * D + f q) l).testBit (l.length + 1 + t) = _
    rw [show l.length + 1 + t = l.length + (t + 1) by omega, accB_hi f hf l (2 * D + f q) (t + 1), Nat.testBit_succ, show (2 * D + f q) / 2 = D by omega]
theorem accB_at (f : Nat × Nat → Nat) (hf : ∀ q, f q ≤ 1) : ∀ (l : List (Nat × Nat)) (D j : Nat), j < l.length → (accB f D l).testBit (l.length - 1 - j) = decide (f (l.getD j (0, 0)) = 1)
  | [], D, j, h => by cases h
  | q :: l, D, 0, _ => by
    have hq := hf q
    show (accB f (2 * D + f q) l).testBit (l.length + 1 - 1 - 0) = decide (f q = 1)
    rw [show l.length + 1 - 1 - 0 = l.length + 0 by omega, accB_hi f hf l _ 0, Nat.testBit_zero]
    have : (2 * D + f q) % 2 = f q := by omega
    rw [this]
  | q :: l, D, j + 1, h => by
    have h2 : j < l.length := by rw [List.length_cons] at h; omega
    show (accB f (2 * D + f q) l).testBit (l.length + 1 - 1 - (j + 1)) = decide (f (l.getD j (0, 0)) = 1)
    rw [show l.length + 1 - 1 - (j + 1) = l.length - 1 - j by omega]
    exact accB_at f hf l _ j h2
section PR
variable {n : Nat} {fp fc mh : Nat → Int32}
def fallN (mh : Nat → Int32) (q : Nat × Nat) : Nat := if mh (6 * q.2 + q.1) = 0 then 0 else 1
def colN (fp fc : Nat → Int32) (q : Nat × Nat) : Nat := if (gStr fp fc (nI q.1) (nI q.2)) ||| (gStr fp fc (nI q.2) (nI q.1)) = 0 then 0 else 1
theorem fallN_le (q : Nat × Nat) : fallN mh q ≤ 1 := by unfold fallN; split <;> omega
theorem colN_le (q : Nat × Nat) : colN fp fc q ≤ 1 := by unfold colN; split <;> omega
theorem dbl (D b : Nat) : 2 * nI D + nI b = nI (2 * D + b) := by
  rw [show (2 : Int32) = nI 2 from rfl, pk_mul, nI_add]
theorem kList_eq (hn : n ≤ 6) (h : gRel n fp fc mh) {u v : Nat} (hu : u < n) (hv : v < n) (fl fh : Nat → Int32) {P : Nat} (hP : P < 9) (D C : Nat) :
    kList fp fc fl fh P (nI D) (nI C) (nI u) (nI v) = (upd fl P (nI u), upd fh P (nI v), nI (2 * D + fallN mh (u, v)), nI (2 * C + colN fp fc (u, v))) := by
  unfold kList fallN colN
  rw [nI_clamp (by omega)]
  have hf := h.hasP hn hv hu
  have e0 : ∀ D, 2 * nI D + 0 = nI (2 * D + 0) := fun D => dbl D 0
  have e1 : ∀ D, 2 * nI D + 1 = nI (2 * D + 1) := fun D => dbl D 1
  by_cases c1 : (gStr fp fc (nI u) (nI v)) ||| (gStr fp fc (nI v) (nI u)) = 0
  · rw [if_pos c1]
    by_cases c2 : mh (6 * v + u) = 0
    · rw [if_pos (hf.mpr c2), e0, e0]
      show _ = (_, _, nI (2 * D + if mh (6 * v + u) = 0 then 0 else 1), nI (2 * C + if _ then 0 else 1))
      rw [if_pos c2, if_pos c1]
    · rw [if_neg (fun q => c2 (hf.mp q)), e0, e1]
      show _ = (_, _, nI (2 * D + if mh (6 * v + u) = 0 then 0 else 1), nI (2 * C + if _ then 0 else 1))
      rw [if_neg c2, if_pos c1]
  · rw [if_neg c1]
    by_cases c2 : mh (6 * v + u) = 0
    · rw [if_pos (hf.mpr c2), e0, e1]
      show _ = (_, _, nI (2 * D + if mh (6 * v + u) = 0 then 0 else 1), nI (2 * C + if _ then 0 else 1))
      rw [if_pos c2, if_neg c1]
    · rw [if_neg (fun q => c2 (hf.mp q)), e1, e1]
      show _ = (_, _, nI (2 * D + if mh (6 * v + u) = 0 then 0 else 1), nI (2 * C + if _ then 0 else 1))
      rw [if_neg c2, if_neg c1]
theorem kRestart_L47_eq (hn : n ≤ 6) (h : gRel n fp fc mh) (fl fh : Nat → Int32) {u : Nat} (hu : u < n) (P0 : Nat) (d0 c0 : Int32) (l0 g0 : Nat → Int32) (kk : Nat → Int32 → Int32 → (Nat → Int32) → (Nat → Int32) → Nat × Int32 × Int32 × (Nat → Int32) × (Nat → Int32)) : ∀ (k i P D C : Nat) (l g : Nat → Int32), i + k ≤ n → P + jcI mh u k i ≤ 9 →
    kRestart_L47 n fp fc fl fh u P0 d0 c0 l0 g0 kk k i P (nI D) (nI C) l g = kk (P + (plI mh u k i).length) (nI (accB (fallN mh) D (plI mh u k i))) (nI (accB (colN fp fc) C (plI mh u k i))) (layA l P ((plI mh u k i).map Prod.fst)) (layA g P ((plI mh u k i).map Prod.snd))
  | 0, i, P, D, C, l, g, _, _ => rfl
  | k + 1, i, P, D, C, l, g, hk, h9 => by
    rw [kRestart_L47, plI]
    rw [jcI] at h9
    have hj := h.joinP hn hu (show i < n by omega)
    by_cases c : mJoin mh (nI u) (nI i) = 0
    · rw [if_pos c] at h9
      rw [if_pos (hj.mpr c), if_pos c]
      exact kRestart_L47_eq hn h fl fh hu P0 d0 c0 l0 g0 kk k (i + 1) P D C l g (by omega) (by omega)
    · rw [if_neg c] at h9
      rw [if_neg (fun q => c (hj.mp q)), if_neg c, if_neg (by rw [show (9 : Int32) = nI 9 from rfl, nI_leI (by omega) (by omega)]; omega), kList_eq hn h hu (by omega) l g (by omega) D C]
      rw [kRestart_L47_eq hn h fl fh hu P0 d0 c0 l0 g0 kk k (i + 1) (P + 1) _ _ _ _ (by omega) (by omega), List.length_cons, List.map_cons, List.map_cons, Nat.add_assoc, Nat.add_comm 1]
      rfl
theorem kRestart_L32_eq (hn : n ≤ 6) (h : gRel n fp fc mh) (fl fh : Nat → Int32) : ∀ (k i P D C : Nat) (l g : Nat → Int32), i + k ≤ n → P + jcO mh n k i ≤ 9 →
    kRestart_L32 n fp fc fl fh k i P (nI D) (nI C) l g = (P + (plO mh n k i).length, nI (accB (fallN mh) D (plO mh n k i)), nI (accB (colN fp fc) C (plO mh n k i)), layA l P ((plO mh n k i).map Prod.fst), layA g P ((plO mh n k i).map Prod.snd))
  | 0, i, P, D, C, l, g, _, _ => rfl
  | k + 1, i, P, D, C, l, g, hk, h9 => by
    rw [jcO] at h9
    have hl := plI_len mh i (n - (i + 1)) (i + 1)
    rw [kRestart_L32, kRestart_L47_eq hn h fl fh (by omega) P (nI D) (nI C) l g _ (n - (i + 1)) (i + 1) P D C l g (by omega) (by omega), plO]
    rw [kRestart_L32_eq hn h fl fh k (i + 1) _ _ _ _ _ (by omega) (by omega), List.length_append, List.map_append, List.map_append, layA_app, layA_app, List.length_map, List.length_map, Nat.add_assoc, accB_app, accB_app]
theorem kRestart_eq (hn : n ≤ 6) (h : gRel n fp fc mh) (hJ : jcO mh n n 0 ≤ 9) (fl fh : Nat → Int32) : kRestart n fp fc fl fh = ((plO mh n n 0).length, nI (accB (fallN mh) 0 (plO mh n n 0)), nI (accB (colN fp fc) 0 (plO mh n n 0)), layA fl 0 ((plO mh n n 0).map Prod.fst), layA fh 0 ((plO mh n n 0).map Prod.snd)) := by
  rw [kRestart]
  show kRestart_L32 n fp fc fl fh n 0 0 (nI 0) (nI 0) fl fh = _
  rw [kRestart_L32_eq hn h fl fh n 0 0 0 0 fl fh (by omega) (by omega), Nat.zero_add]
/-- the pairs that the class holds -/
def pRel (n : Nat) (fp fc mh : Nat → Int32) (P : Nat) (dc cb : Int32) (fl fh : Nat → Int32) : Prop :=
  P = (plO mh n n 0).length ∧ P ≤ 9 ∧ dc = nI (accB (fallN mh) 0 (plO mh n n 0)) ∧ cb = nI (accB (colN fp fc) 0 (plO mh n n 0)) ∧ ∀ j, j < P → fl j = nI ((plO mh n n 0).getD j (0, 0)).1 ∧ fh j = nI ((plO mh n n 0).getD j (0, 0)).2
theorem lay_get (L : List (Nat × Nat)) (f : Nat → Int32) {j : Nat} (hj : j < L.length) : layA f 0 (L.map Prod.fst) j = nI (L.getD j (0, 0)).1 := by
  have := layA_at (L.map Prod.fst) f 0 j (by rw [List.length_map]; exact hj)
  rw [Nat.zero_add] at this
  rw [this, List.getElem_map, List.getD_eq_getElem?_getD, List.getElem?_eq_getElem hj]; rfl
theorem lay_get2 (L : List (Nat × Nat)) (f : Nat → Int32) {j : Nat} (hj : j < L.length) : layA f 0 (L.map Prod.snd) j = nI (L.getD j (0, 0)).2 := by
  have := layA_at (L.map Prod.snd) f 0 j (by rw [List.length_map]; exact hj)
  rw [Nat.zero_add] at this
  rw [this, List.getElem_map, List.getD_eq_getElem?_getD, List.getElem?_eq_getElem hj]; rfl
theorem restart_pRel (hn : n ≤ 6) (h : gRel n fp fc mh) (hJ : jcO mh n n 0 ≤ 9) (fl fh : Nat → Int32) : pRel n fp fc mh (kRestart n fp fc fl fh).1 (kRestart n fp fc fl fh).2.1 (kRestart n fp fc fl fh).2.2.1 (kRestart n fp fc fl fh).2.2.2.1 (kRestart n fp fc fl fh).2.2.2.2 := by
  rw [kRestart_eq hn h hJ]
  exact ⟨rfl, by rw [plO_len]; exact hJ, rfl, rfl, fun j hj => ⟨lay_get _ fl hj, lay_get2 _ fh hj⟩⟩
/-! the list of pairs -/
theorem pl_mem {j : Nat} (hj : j < (plO mh n n 0).length) : ((plO mh n n 0).getD j (0, 0)).1 < ((plO mh n n 0).getD j (0, 0)).2 ∧ ((plO mh n n 0).getD j (0, 0)).2 < n ∧ ¬ mJoin mh (nI ((plO mh n n 0).getD j (0, 0)).1) (nI ((plO mh n n 0).getD j (0, 0)).2) = 0 := by
  have : (plO mh n n 0).getD j (0, 0) ∈ plO mh n n 0 := by
    rw [List.getD_eq_getElem?_getD, List.getElem?_eq_getElem hj]
    exact List.getElem_mem hj
  have := plO_mem mh n n 0 _ this
  exact ⟨this.2.2.1, this.2.2.2.1, this.2.2.2.2⟩
theorem plI_all (u : Nat) : ∀ k i v, i ≤ v → v < i + k → ¬ mJoin mh (nI u) (nI v) = 0 → (u, v) ∈ plI mh u k i
  | 0, i, v, h1, h2, _ => by omega
  | k + 1, i, v, h1, h2, hj => by
    rw [plI]
    by_cases c : v = i
    · subst c
      rw [if_neg hj]; exact List.mem_cons_self
    · have := plI_all u k (i + 1) v (by omega) (by omega) hj
      by_cases d : mJoin mh (nI u) (nI i) = 0
      · rw [if_pos d]; exact this
      · rw [if_neg d]; exact List.mem_cons_of_mem _ this
theorem plO_all : ∀ k i u v, i ≤ u → u < i + k → u < v → v < n → ¬ mJoin mh (nI u) (nI v) = 0 → (u, v) ∈ plO mh n k i
  | 0, i, u, v, h1, h2, _, _, _ => by omega
  | k + 1, i, u, v, h1, h2, h3, h4, hj => by
    rw [plO]
    by_cases c : u = i
    · subst c
      exact List.mem_append_left _ (plI_all u _ _ v (by omega) (by omega) hj)
    · exact List.mem_append_right _ (plO_all k (i + 1) u v (by omega) (by omega) h3 h4 hj)
theorem pl_find {u v : Nat} (huv : u < v) (hv : v < n) (hj : ¬ mJoin mh (nI u) (nI v) = 0) : ∃ j, j < (plO mh n n 0).length ∧ (plO mh n n 0).getD j (0, 0) = (u, v) := by
  obtain ⟨j, hj1, hj2⟩ := List.getElem_of_mem (plO_all (mh := mh) (n := n) n 0 u v (by omega) (by omega) huv hv hj)
  exact ⟨j, hj1, by rw [List.getD_eq_getElem?_getD, List.getElem?_eq_getElem hj1]; exact hj2⟩
def lexR (p q : Nat × Nat) : Prop := p.1 < q.1 ∨ (p.1 = q.1 ∧ p.2 < q.2)
theorem plI_pw (u : Nat) : ∀ k i, (plI mh u k i).Pairwise lexR
  | 0, _ => List.Pairwise.nil
  | k + 1, i => by
    rw [plI]
    by_cases d : mJoin mh (nI u) (nI i) = 0
    · rw [if_pos d]; exact plI_pw u k (i + 1)
    · rw [if_neg d]
      refine List.pairwise_cons.mpr ⟨fun q hq => ?_, plI_pw u k (i + 1)⟩
      have := plI_mem mh u k (i + 1) q hq
      exact Or.inr ⟨this.1.symm, by show i < q.2; omega⟩
theorem plO_pw : ∀ k i, (plO mh n k i).Pairwise lexR
  | 0, _ => List.Pairwise.nil
  | k + 1, i => by
    rw [plO]
    refine List.pairwise_append.mpr ⟨plI_pw i _ _, plO_pw k (i + 1), fun p hp q hq => ?_⟩
    have h1 := plI_mem mh i _ _ p hp
    have h2 := plO_mem mh n k (i + 1) q hq
    exact Or.inl (by omega)
theorem pl_inj {i j : Nat} (hi : i < (plO mh n n 0).length) (hj : j < (plO mh n n 0).length) (he : (plO mh n n 0).getD i (0, 0) = (plO mh n n 0).getD j (0, 0)) : i = j := by
  have hp := List.pairwise_iff_getElem.mp (plO_pw (mh := mh) (n := n) n 0)
  rw [List.getD_eq_getElem?_getD, List.getElem?_eq_getElem hi, List.getD_eq_getElem?_getD, List.getElem?_eq_getElem hj] at he
  have he : (plO mh n n 0)[i] = (plO mh n n 0)[j] := he
  rcases Nat.lt_trichotomy i j with h | h | h
  · have := hp i j hi hj h
    rw [he] at this
    rcases this with q | q <;> omega
  · exact h
  · have := hp j i hj hi h
    rw [he] at this
    rcases this with q | q <;> omega
end PR
