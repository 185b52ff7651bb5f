/-! the reference's search for open paths -/
/-- the graph of a table of 6 times 6 -/
def gM (n : Nat) (mh : Nat → Int32) : Nat → Nat → Prop := fun a b => a < n ∧ b < n ∧ ¬ mh (6 * a + b) = 0
theorem mJoin_eq {n : Nat} {mh : Nat → Int32} (hn : n ≤ 6) {a b : Nat} (ha : a < n) (hb : b < n) : mJoin mh (nI a) (nI b) = 0 ↔ ¬ (gM n mh a b ∨ gM n mh b a) := by
  unfold mJoin gM
  rw [vz_ixC (by omega) (by omega), vz_ixC (by omega) (by omega)]
  by_cases h1 : mh (6 * a + b) = 0
  · rw [if_pos h1]
    by_cases h2 : mh (6 * b + a) = 0
    · rw [if_pos h2]
      exact ⟨fun _ => fun q => q.elim (fun z => z.2.2 h1) (fun z => z.2.2 h2), fun _ => rfl⟩
    · rw [if_neg h2]
      exact ⟨fun q => absurd q (by decide), fun q => absurd (Or.inr ⟨hb, ha, h2⟩) q⟩
  · rw [if_neg h1]
    exact ⟨fun q => absurd q (by decide), fun q => absurd (Or.inl ⟨ha, hb, h1⟩) q⟩
section DF
variable {n : Nat} {mh mp0 mx0 mr0 : Nat → Int32} {x y : Nat} {set : Int32} {K0 i3 : Nat} {r3 : Nat → Int32}
/-- the loop of allBlocked -/
abbrev dD (n : Nat) (mh mp0 mx0 mr0 : Nat → Int32) (x y : Nat) (set : Int32) (K0 i3 : Nat) (r3 : Nat → Int32) (k M : Nat) (p q : Nat → Int32) := mAll_L48 n mh mp0 mx0 mr0 (nI x) (nI y) set K0 i3 r3 k M p q
theorem dD_s {k M : Nat} {p q : Nat → Int32} (h1 : 1 ≤ M) (h6 : M ≤ 6) : dD n mh mp0 mx0 mr0 x y set K0 i3 r3 (k + 1) M p q =
    if q (M - 1) = nI n then (if p (M - 1) = nI y then (if mBlocked mh p r3 M set = 0 then some (0, p, q, r3) else dD n mh mp0 mx0 mr0 x y set K0 i3 r3 k (M - 1) p q) else dD n mh mp0 mx0 mr0 x y set K0 i3 r3 k (M - 1) p q)
    else (if p (M - 1) = nI y then (if mBlocked mh p r3 M set = 0 then some (0, p, q, r3) else dD n mh mp0 mx0 mr0 x y set K0 i3 r3 k (M - 1) p q)
      else (if mJoin mh (p (M - 1)) (q (M - 1)) = 0 then dD n mh mp0 mx0 mr0 x y set K0 i3 r3 k M p (upd q (M - 1) (q (M - 1) + 1))
        else (if mOnPath p (q (M - 1)) M = 0 then dD n mh mp0 mx0 mr0 x y set K0 i3 r3 k (M + 1) (upd p M (q (M - 1))) (upd (upd q (M - 1) (q (M - 1) + 1)) M 0)
          else dD n mh mp0 mx0 mr0 x y set K0 i3 r3 k M p (upd q (M - 1) (q (M - 1) + 1))))) := by
  have hM : ¬ nI M ≤ 0 := by
    rw [← nI_0, nI_leI (by omega) (by omega)]; omega
  show mAll_L48 n mh mp0 mx0 mr0 (nI x) (nI y) set K0 i3 r3 (k + 1) M p q = _
  rw [mAll_L48, if_neg hM, dInv_ix h1 h6, nI_clamp (show M < 2 ^ 31 by omega)]
/-- an open path of different nodes from x to y, of m steps -/
def dGood (n : Nat) (mh : Nat → Int32) (x y : Nat) (set : Int32) (w : Nat → Nat) (m : Nat) : Prop :=
  dp_way (gM n mh) (fun v => bt set v = true) w m ∧ w 0 = x ∧ w m = y ∧ ∀ i j, i < j → j ≤ m → w i ≠ w j
def dfE (n : Nat) (mh : Nat → Int32) (x y : Nat) (set : Int32) (M j : Nat) (v : Nat → Nat) : Prop :=
  ∃ (w : Nat → Nat) (m : Nat), M ≤ m ∧ (∀ t, t < M → w t = v t) ∧ j ≤ w M ∧ dGood n mh x y set w m
def dfH (n : Nat) (mh : Nat → Int32) (x y : Nat) (M j : Nat) (p q : Nat → Int32) (v : Nat → Nat) : Prop :=
  1 ≤ M ∧ M ≤ n ∧ (∀ t, t < M → v t < n ∧ p t = nI (v t)) ∧ (∀ s t, s < t → t < M → v s ≠ v t) ∧ (∀ t, t + 1 < M → gM n mh (v t) (v (t + 1)) ∨ gM n mh (v (t + 1)) (v t)) ∧ v 0 = x ∧ v (M - 1) ≠ y ∧ q (M - 1) = nI j
def dfC (n : Nat) (mh mp0 mx0 mr0 : Nat → Int32) (x y : Nat) (set : Int32) (K0 i3 : Nat) (r3 : Nat → Int32) (M j : Nat) (p q : Nat → Int32) (v : Nat → Nat) : Prop :=
  (dfE n mh x y set M j v → ∃ (k : Nat) (r : Int32 × (Nat → Int32) × (Nat → Int32) × (Nat → Int32)), r.1 = 0 ∧ ∀ k', dD n mh mp0 mx0 mr0 x y set K0 i3 r3 (k + k') M p q = some r) ∧
  (¬ dfE n mh x y set M j v → ∃ (k : Nat) (p' q' : Nat → Int32), (∀ t, t < M - 1 → p' t = p t ∧ q' t = q t) ∧ ∀ k', dD n mh mp0 mx0 mr0 x y set K0 i3 r3 (k + k') M p q = dD n mh mp0 mx0 mr0 x y set K0 i3 r3 k' (M - 1) p' q')
/-- a path on the stack lets through just when blocked says no -/
theorem mBlocked_L2_eq (hn : n ≤ 6) (hr : ∀ c, c < n → ∀ w, bt (r3 c) w = true ↔ dp_Reach (gM n mh) c w) {p : Nat → Int32} {v : Nat → Nat} {M : Nat} (hM : M ≤ 6) (hv : ∀ t, t < M → v t < n ∧ p t = nI (v t)) : ∀ (k i : Nat), 1 ≤ i → i + k + 1 = M →
    (mBlocked_L2 mh p r3 M set k i = 0 ↔ ∀ t, i ≤ t → t < i + k → dp_ok (gM n mh) (fun v => bt set v = true) (v (t - 1)) (v t) (v (t + 1)))
  | 0, i, _, _ => ⟨fun _ t h1 h2 => by omega, fun _ => rfl⟩
  | k + 1, i, h1, hk => by
    have ih := mBlocked_L2_eq hn hr hM hv k (i + 1) (by omega) (by omega)
    have e0 : p (nI i - 1).toNatClampNeg = nI (v (i - 1)) := by rw [vz_sub1 h1, nI_clamp (by omega)]; exact (hv (i - 1) (by omega)).2
    have e1 : p (nI i).toNatClampNeg = nI (v i) := by rw [nI_clamp (by omega)]; exact (hv i (by omega)).2
    have e2 : p (nI i + 1).toNatClampNeg = nI (v (i + 1)) := by rw [nI_1, nI_clamp (by omega)]; exact (hv (i + 1) (by omega)).2
    have b0 := (hv (i - 1) (by omega)).1
    have b1 := (hv i (by omega)).1
    have b2 := (hv (i + 1) (by omega)).1
    rw [mBlocked_L2, e0, e1, e2, vz_ixC (by omega) (by omega), vz_ixC (by omega) (by omega), nI_clamp (show v i < 2 ^ 31 by omega)]
    have split : (∀ t, i ≤ t → t < i + (k + 1) → dp_ok (gM n mh) (fun v => bt set v = true) (v (t - 1)) (v t) (v (t + 1))) ↔ dp_ok (gM n mh) (fun v => bt set v = true) (v (i - 1)) (v i) (v (i + 1)) ∧ ∀ t, i + 1 ≤ t → t < i + 1 + k → dp_ok (gM n mh) (fun v => bt set v = true) (v (t - 1)) (v t) (v (t + 1)) := by
      constructor
      · intro h
        exact ⟨h i (by omega) (by omega), fun t a b => h t (by omega) (by omega)⟩
      · intro h t a b
        by_cases c : t = i
        · subst c; exact h.1
        · exact h.2 t (by omega) (by omega)
    have non : ¬ (gM n mh (v (i - 1)) (v i) ∧ gM n mh (v (i + 1)) (v i)) → ((if (set >>> (nI (v i) &&& 31)) &&& 1 = 1 then (1 : Int32) else mBlocked_L2 mh p r3 M set k (i + 1)) = 0 ↔ dp_ok (gM n mh) (fun v => bt set v = true) (v (i - 1)) (v i) (v (i + 1)) ∧ ∀ t, i + 1 ≤ t → t < i + 1 + k → dp_ok (gM n mh) (fun v => bt set v = true) (v (t - 1)) (v t) (v (t + 1))) := by
      intro hno
      by_cases c : (set >>> (nI (v i) &&& 31)) &&& 1 = 1
      · rw [if_pos c]
        refine ⟨fun z => absurd z (by decide), fun z => absurd ((b_at1 set (by omega)).mp c) (z.1.2 hno)⟩
      · rw [if_neg c, ih]
        exact ⟨fun z => ⟨⟨fun g1 g2 => absurd ⟨g1, g2⟩ hno, fun _ q => c ((b_at1 set (by omega)).mpr q)⟩, z⟩, fun z => z.2⟩
    rw [split]
    by_cases c1 : mh (6 * v (i - 1) + v i) = 0
    · rw [if_pos c1]
      exact non (fun q => q.1.2.2 c1)
    · rw [if_neg c1]
      by_cases c2 : mh (6 * v (i + 1) + v i) = 0
      · rw [if_pos c2]
        exact non (fun q => q.2.2.2 c2)
      · rw [if_neg c2]
        have col : gM n mh (v (i - 1)) (v i) ∧ gM n mh (v (i + 1)) (v i) := ⟨⟨b0, b1, c1⟩, ⟨b2, b1, c2⟩⟩
        by_cases c : r3 (v i) &&& set = 0
        · rw [if_pos c]
          refine ⟨fun z => absurd z (by decide), fun z => ?_⟩
          obtain ⟨w, hw, hre⟩ := z.1.1 col.1 col.2
          have := b_eq0.mp c w
          rw [b_and, (hr (v i) b1 w).mpr hre, hw] at this
          cases this
        · rw [if_neg c, ih]
          refine ⟨fun z => ⟨⟨fun _ _ => ?_, fun q => absurd col q⟩, z⟩, fun z => z.2⟩
          refine Classical.byContradiction (fun hno => c (b_eq0.mpr (fun w => ?_)))
          rw [b_and]
          rcases a1 : bt (r3 (v i)) w with _ | _
          · rfl
          · rcases a2 : bt set w with _ | _
            · rfl
            · exact absurd ⟨w, a2, (hr (v i) b1 w).mp a1⟩ hno
theorem mBlocked_eq (hn : n ≤ 6) (hr : ∀ c, c < n → ∀ w, bt (r3 c) w = true ↔ dp_Reach (gM n mh) c w) {p : Nat → Int32} {v : Nat → Nat} {M : Nat} (hM2 : 2 ≤ M) (hM : M ≤ 6) (hv : ∀ t, t < M → v t < n ∧ p t = nI (v t)) :
    mBlocked mh p r3 M set = 0 ↔ ∀ t, t + 1 < M - 1 → dp_ok (gM n mh) (fun v => bt set v = true) (v t) (v (t + 1)) (v (t + 2)) := by
  rw [mBlocked, mBlocked_L2_eq hn hr hM hv (M - 1 - 1) 1 (by omega) (by omega)]
  constructor
  · intro h t ht
    have := h (t + 1) (by omega) (by omega)
    rw [show t + 1 - 1 = t by omega] at this
    exact this
  · intro h t h1 h2
    have := h (t - 1) (by omega)
    rw [show t - 1 + 1 = t by omega, show t - 1 + 2 = t + 1 by omega] at this
    exact this
theorem dfE_le {M j : Nat} {v : Nat → Nat} (h : dfE n mh x y set M (j + 1) v) : dfE n mh x y set M j v := by
  obtain ⟨w, m, h1, h2, h3, h4⟩ := h
  exact ⟨w, m, h1, h2, by omega, h4⟩
theorem dfC_step {M j c : Nat} {p q pA qA : Nat → Int32} {v : Nat → Nat} (hs : ∀ k', dD n mh mp0 mx0 mr0 x y set K0 i3 r3 (c + k') M p q = dD n mh mp0 mx0 mr0 x y set K0 i3 r3 k' M pA qA) (hag : ∀ t, t < M - 1 → pA t = p t ∧ qA t = q t)
    (hE : dfE n mh x y set M j v → dfE n mh x y set M (j + 1) v) (C : dfC n mh mp0 mx0 mr0 x y set K0 i3 r3 M (j + 1) pA qA v) : dfC n mh mp0 mx0 mr0 x y set K0 i3 r3 M j p q v := by
  refine ⟨fun h => ?_, fun h => ?_⟩
  · obtain ⟨k, r, h0, hk⟩ := C.1 (hE h)
    exact ⟨c + k, r, h0, fun k' => by rw [Nat.add_assoc, hs]; exact hk k'⟩
  · obtain ⟨k, p', q', ha, hk⟩ := C.2 (fun h' => h (dfE_le h'))
    exact ⟨c + k, p', q', fun t ht => ⟨(ha t ht).1.trans (hag t ht).1, (ha t ht).2.trans (hag t ht).2⟩, fun k' => by rw [Nat.add_assoc, hs]; exact hk k'⟩
/-- one frame of the stack, all its neighbours from j on -/
theorem dfs_in (hn : n ≤ 6) (hyn : y < n) (hr : ∀ c, c < n → ∀ w, bt (r3 c) w = true ↔ dp_Reach (gM n mh) c w) {M : Nat} (hpush : M + 1 ≤ n → ∀ p q v, dfH n mh x y (M + 1) 0 p q v → dfC n mh mp0 mx0 mr0 x y set K0 i3 r3 (M + 1) 0 p q v) :
    ∀ (d j : Nat), j + d = n → ∀ p q v, dfH n mh x y M j p q v → dfC n mh mp0 mx0 mr0 x y set K0 i3 r3 M j p q v
  | 0, j, hj, p, q, v, H => by
    obtain ⟨h1, hMn, hv, hd, ha, h0, hy, hq⟩ := H
    have hjn : j = n := by omega
    subst hjn
    have hpy : ¬ p (M - 1) = nI y := by
      rw [(hv (M - 1) (by omega)).2]
      have b := (hv (M - 1) (by omega)).1
      exact fun e => hy ((nI_eq (by omega) (by omega)).mp e)
    refine ⟨fun ⟨w, m, hm, hw, hge, hg⟩ => ?_, fun _ => ⟨1, p, q, fun _ _ => ⟨rfl, rfl⟩, fun k' => ?_⟩⟩
    · exfalso
      have := hg.1.1 (M - 1) (by omega)
      rw [show M - 1 + 1 = M by omega] at this
      rcases this with g | g
      · have := g.2.1; omega
      · have := g.1; omega
    · rw [Nat.add_comm, dD_s h1 (by omega), if_pos hq, if_neg hpy]
  | d + 1, j, hj, p, q, v, H => by
    have IH := dfs_in hn hyn hr hpush d (j + 1) (by omega)
    obtain ⟨h1, hMn, hv, hd, ha, h0, hy, hq⟩ := H
    have bV := (hv (M - 1) (by omega)).1
    have pV := (hv (M - 1) (by omega)).2
    have hpy : ¬ p (M - 1) = nI y := by
      rw [pV]
      exact fun e => hy ((nI_eq (by omega) (by omega)).mp e)
    have hqn : ¬ q (M - 1) = nI n := by
      rw [hq]
      exact fun e => absurd ((nI_eq (by omega) (by omega)).mp e) (by omega)
    have hq1 : upd q (M - 1) (q (M - 1) + 1) (M - 1) = nI (j + 1) := by rw [pk_us, hq, nI_1]
    have hqlo : ∀ t, t < M - 1 → upd q (M - 1) (q (M - 1) + 1) t = q t := fun t ht => pk_un (by omega)
    -- the neighbour j is passed over
    have over : (∀ k', dD n mh mp0 mx0 mr0 x y set K0 i3 r3 (1 + k') M p q = dD n mh mp0 mx0 mr0 x y set K0 i3 r3 k' M p (upd q (M - 1) (q (M - 1) + 1))) → (∀ (w : Nat → Nat) (m : Nat), M ≤ m → (∀ t, t < M → w t = v t) → w M = j → ¬ dGood n mh x y set w m) → dfC n mh mp0 mx0 mr0 x y set K0 i3 r3 M j p q v := by
      intro hs hno
      refine dfC_step hs (fun t ht => ⟨rfl, hqlo t ht⟩) (fun ⟨w, m, e1, e2, e3, e4⟩ => ?_) (IH p _ v ⟨h1, hMn, hv, hd, ha, h0, hy, hq1⟩)
      by_cases c : w M = j
      · exact absurd e4 (hno w m e1 e2 c)
      · exact ⟨w, m, e1, e2, by omega, e4⟩
    by_cases cJ : mJoin mh (p (M - 1)) (q (M - 1)) = 0
    · refine over (fun k' => by rw [Nat.add_comm, dD_s h1 (by omega), if_neg hqn, if_neg hpy, if_pos cJ]) (fun w m e1 e2 e3 hg => ?_)
      rw [pV, hq, mJoin_eq hn bV (by omega)] at cJ
      have := hg.1.1 (M - 1) (by omega)
      rw [show M - 1 + 1 = M by omega, e3, e2 (M - 1) (by omega)] at this
      exact cJ this
    · by_cases cO : mOnPath p (q (M - 1)) M = 0
      · -- pushed
        have hno : ∀ t, t < M → v t ≠ j := by
          rw [mOnPath_eq (by omega)] at cO
          intro t ht e
          apply cO t ht
          rw [hq, (hv t ht).2, e]
        have hMlt : M < n := by
          have := pigeon n (M + 1) (fun t => if t < M then v t else j) (fun t ht => by
            show (if t < M then v t else j) < n
            split
            · exact (hv t (by assumption)).1
            · omega) (fun s t hst ht => by
            show (if s < M then v s else j) ≠ (if t < M then v t else j)
            rw [if_pos (by omega)]
            by_cases c : t < M
            · rw [if_pos c]; exact hd s t hst c
            · rw [if_neg c]; exact hno s (by omega))
          omega
        have adjV : gM n mh (v (M - 1)) j ∨ gM n mh j (v (M - 1)) := by
          rw [pV, hq, mJoin_eq hn bV (by omega)] at cJ
          exact Classical.not_not.mp cJ
        have hs1 : ∀ k', dD n mh mp0 mx0 mr0 x y set K0 i3 r3 (1 + k') M p q = dD n mh mp0 mx0 mr0 x y set K0 i3 r3 k' (M + 1) (upd p M (q (M - 1))) (upd (upd q (M - 1) (q (M - 1) + 1)) M 0) := fun k' => by
          rw [Nat.add_comm, dD_s h1 (by omega), if_neg hqn, if_neg hpy, if_neg cJ, if_pos cO]
        -- the new stack
        have hv2 : ∀ t, t < M + 1 → (if t = M then j else v t) < n ∧ upd p M (q (M - 1)) t = nI (if t = M then j else v t) := fun t ht => by
          by_cases c : t = M
          · subst c
            rw [if_pos rfl, pk_us]; exact ⟨by omega, hq⟩
          · rw [if_neg c, pk_un c]; exact hv t (by omega)
        have hd2 : ∀ s t, s < t → t < M + 1 → (if s = M then j else v s) ≠ (if t = M then j else v t) := fun s t hst ht => by
          rw [if_neg (show s ≠ M by omega)]
          by_cases c : t = M
          · rw [if_pos c]; exact hno s (by omega)
          · rw [if_neg c]; exact hd s t hst (by omega)
        have ha2 : ∀ t, t + 1 < M + 1 → gM n mh (if t = M then j else v t) (if t + 1 = M then j else v (t + 1)) ∨ gM n mh (if t + 1 = M then j else v (t + 1)) (if t = M then j else v t) := fun t ht => by
          rw [if_neg (show t ≠ M by omega)]
          by_cases c : t + 1 = M
          · rw [if_pos c, show t = M - 1 by omega]; exact adjV
          · rw [if_neg c]; exact ha t (by omega)
        have q2lo : ∀ t, t < M → upd (upd q (M - 1) (q (M - 1) + 1)) M 0 t = upd q (M - 1) (q (M - 1) + 1) t := fun t ht => pk_un (by omega)
        by_cases cy : j = y
        · -- the path has come to y
          have hp2 : upd p M (q (M - 1)) M = nI y := by rw [pk_us, hq, cy]
          have hq2 : ¬ upd (upd q (M - 1) (q (M - 1) + 1)) M 0 M = nI n := by
            rw [pk_us, ← nI_0]
            exact fun e => absurd ((nI_eq (by omega) (by omega)).mp e) (by omega)
          have hs2 : ∀ k', dD n mh mp0 mx0 mr0 x y set K0 i3 r3 (2 + k') M p q = if mBlocked mh (upd p M (q (M - 1))) r3 (M + 1) set = 0 then some (0, upd p M (q (M - 1)), upd (upd q (M - 1) (q (M - 1) + 1)) M 0, r3) else dD n mh mp0 mx0 mr0 x y set K0 i3 r3 k' M (upd p M (q (M - 1))) (upd (upd q (M - 1) (q (M - 1) + 1)) M 0) := fun k' => by
            rw [show 2 + k' = 1 + (k' + 1) by omega, hs1, dD_s (show 1 ≤ M + 1 by omega) (by omega), Nat.add_sub_cancel, if_neg hq2, if_pos hp2]
          have bl := mBlocked_eq (set := set) hn hr (show 2 ≤ M + 1 by omega) (by omega) hv2
          by_cases cb : mBlocked mh (upd p M (q (M - 1))) r3 (M + 1) set = 0
          · have hE : dfE n mh x y set M j v := by
              refine ⟨fun t => if t = M then j else v t, M, Nat.le_refl _, fun t ht => if_neg (by omega), ?_, ⟨fun t ht => ha2 t (by omega), fun t ht => ?_⟩, ?_, ?_, fun i k hik hk => hd2 i k hik (by omega)⟩
              · show j ≤ (if M = M then j else v M)
                rw [if_pos rfl]; exact Nat.le_refl _
              · exact bl.mp cb t (by omega)
              · show (if 0 = M then j else v 0) = x
                rw [if_neg (by omega)]; exact h0
              · show (if M = M then j else v M) = y
                rw [if_pos rfl]; exact cy
            refine ⟨fun _ => ⟨2, (0, upd p M (q (M - 1)), upd (upd q (M - 1) (q (M - 1) + 1)) M 0, r3), rfl, fun k' => by rw [hs2, if_pos cb]⟩, fun hne => absurd hE hne⟩
          · refine dfC_step (c := 2) (fun k' => by rw [hs2, if_neg cb]) (fun t ht => ⟨pk_un (by omega), (q2lo t (by omega)).trans (hqlo t ht)⟩) (fun ⟨w, m, e1, e2, e3, e4⟩ => ?_)
              (IH (upd p M (q (M - 1))) (upd (upd q (M - 1) (q (M - 1) + 1)) M 0) v ⟨h1, hMn, fun t ht => ⟨(hv t ht).1, by rw [pk_un (by omega)]; exact (hv t ht).2⟩, hd, ha, h0, hy, by rw [q2lo _ (by omega)]; exact hq1⟩)
            by_cases c : w M = j
            · exfalso
              have hmM : m = M := by
                rcases Nat.lt_or_ge M m with g | g
                · exact absurd (c.trans (cy.trans e4.2.2.1.symm)) (e4.2.2.2 M m g (Nat.le_refl _))
                · omega
              subst hmM
              have ew : ∀ t, t < m + 1 → w t = (if t = m then j else v t) := fun t ht => by
                by_cases g : t = m
                · rw [if_pos g, g]; exact c
                · rw [if_neg g]; exact e2 t (by omega)
              refine cb (bl.mpr (fun t ht => ?_))
              have := e4.1.2 t (by omega)
              rw [ew t (by omega), ew (t + 1) (by omega), ew (t + 2) (by omega)] at this
              exact this
            · exact ⟨w, m, e1, e2, by omega, e4⟩
        · have C' := hpush (by omega) (upd p M (q (M - 1))) (upd (upd q (M - 1) (q (M - 1) + 1)) M 0) (fun t => if t = M then j else v t) ⟨by omega, by omega, hv2, hd2, ha2, by
            show (if 0 = M then j else v 0) = x
            rw [if_neg (by omega)]; exact h0, by
            show (if M + 1 - 1 = M then j else v (M + 1 - 1)) ≠ y
            rw [if_pos (by omega)]; exact cy, by
            rw [Nat.add_sub_cancel, pk_us]; exact nI_0.symm⟩
          by_cases cE : dfE n mh x y set (M + 1) 0 (fun t => if t = M then j else v t)
          · obtain ⟨k, r, hr0, hk⟩ := C'.1 cE
            refine ⟨fun _ => ⟨1 + k, r, hr0, fun k' => by rw [Nat.add_assoc, hs1]; exact hk k'⟩, fun hne => ?_⟩
            exfalso
            obtain ⟨w, m, e1, e2, e3, e4⟩ := cE
            refine hne ⟨w, m, by omega, fun t ht => ?_, ?_, e4⟩
            · rw [e2 t (by omega)]; exact if_neg (by omega)
            · rw [e2 M (by omega)]
              show j ≤ (if M = M then j else v M)
              rw [if_pos rfl]; exact Nat.le_refl _
          · obtain ⟨k, p', q', hag, hk⟩ := C'.2 cE
            rw [Nat.add_sub_cancel] at hag hk
            refine dfC_step (c := 1 + k) (fun k' => by rw [Nat.add_assoc, hs1]; exact hk k') (fun t ht => ⟨(hag t (by omega)).1.trans (pk_un (by omega)), (hag t (by omega)).2.trans ((q2lo t (by omega)).trans (hqlo t ht))⟩) (fun ⟨w, m, e1, e2, e3, e4⟩ => ?_)
              (IH p' q' v ⟨h1, hMn, fun t ht => ⟨(hv t ht).1, by rw [(hag t ht).1, pk_un (by omega)]; exact (hv t ht).2⟩, hd, ha, h0, hy, by rw [(hag (M - 1) (by omega)).2, q2lo _ (by omega)]; exact hq1⟩)
            by_cases c : w M = j
            · exfalso
              have hmM : M + 1 ≤ m := by
                rcases Nat.lt_or_ge M m with g | g
                · exact g
                · have : m = M := by omega
                  subst this
                  exact absurd (c.symm.trans e4.2.2.1) cy
              refine cE ⟨w, m, hmM, fun t ht => ?_, Nat.zero_le _, e4⟩
              show w t = (if t = M then j else v t)
              by_cases g : t = M
              · rw [if_pos g, g]; exact c
              · rw [if_neg g]; exact e2 t (by omega)
            · exact ⟨w, m, e1, e2, by omega, e4⟩
      · refine over (fun k' => by rw [Nat.add_comm, dD_s h1 (by omega), if_neg hqn, if_neg hpy, if_neg cJ, if_neg cO]) (fun w m e1 e2 e3 hg => cO ?_)
        rw [mOnPath_eq (by omega)]
        intro t ht e
        rw [hq, (hv t ht).2] at e
        have hvt := (hv t ht).1
        have e5 : v t = j := (nI_eq (by omega) (by omega)).mp e
        exact hg.2.2.2 t M ht e1 (by rw [e2 t ht, e5, e3])
theorem dfs_out (hn : n ≤ 6) (hyn : y < n) (hr : ∀ c, c < n → ∀ w, bt (r3 c) w = true ↔ dp_Reach (gM n mh) c w) : ∀ (e M : Nat), M + e = n → ∀ p q v, dfH n mh x y M 0 p q v → dfC n mh mp0 mx0 mr0 x y set K0 i3 r3 M 0 p q v
  | 0, M, h => dfs_in hn hyn hr (fun h2 => absurd h2 (by omega)) n 0 (by omega)
  | e + 1, M, h => dfs_in hn hyn hr (fun _ => dfs_out hn hyn hr e (M + 1) (by omega)) n 0 (by omega)
theorem dD_mono : ∀ (k d M : Nat) (p q : Nat → Int32) (r : Int32 × (Nat → Int32) × (Nat → Int32) × (Nat → Int32)), dD n mh mp0 mx0 mr0 x y set K0 i3 r3 k M p q = some r → dD n mh mp0 mx0 mr0 x y set K0 i3 r3 (k + d) M p q = some r
  | 0, d, M, p, q, r, h => by cases h
  | k + 1, d, M, p, q, r, h => by
    rw [Nat.add_right_comm]
    have h : mAll_L48 n mh mp0 mx0 mr0 (nI x) (nI y) set K0 i3 r3 (k + 1) M p q = some r := h
    show mAll_L48 n mh mp0 mx0 mr0 (nI x) (nI y) set K0 i3 r3 (k + d + 1) M p q = some r
    rw [mAll_L48] at h ⊢
    by_cases c1 : nI M ≤ 0
    · rw [if_pos c1] at h ⊢; exact h
    · rw [if_neg c1] at h ⊢
      by_cases c2 : q (nI M - 1).toNatClampNeg = nI n
      · rw [if_pos c2] at h ⊢
        by_cases c3 : p (nI M - 1).toNatClampNeg = nI y
        · rw [if_pos c3] at h ⊢
          by_cases c4 : mBlocked mh p r3 M set = 0
          · rw [if_pos c4] at h ⊢; exact h
          · rw [if_neg c4] at h ⊢; exact dD_mono k d _ _ _ r h
        · rw [if_neg c3] at h ⊢; exact dD_mono k d _ _ _ r h
      · rw [if_neg c2] at h ⊢
        by_cases c3 : p (nI M - 1).toNatClampNeg = nI y
        · rw [if_pos c3] at h ⊢
          by_cases c4 : mBlocked mh p r3 M set = 0
          · rw [if_pos c4] at h ⊢; exact h
          · rw [if_neg c4] at h ⊢; exact dD_mono k d _ _ _ r h
        · rw [if_neg c3] at h ⊢
          by_cases c5 : mJoin mh (p (nI M - 1).toNatClampNeg) (q (nI M - 1).toNatClampNeg) = 0
          · rw [if_pos c5] at h ⊢; exact dD_mono k d _ _ _ r h
          · rw [if_neg c5] at h ⊢
            by_cases c6 : mOnPath p (q (nI M - 1).toNatClampNeg) M = 0
            · rw [if_pos c6] at h ⊢; exact dD_mono k d _ _ _ r h
            · rw [if_neg c6] at h ⊢; exact dD_mono k d _ _ _ r h
theorem dD_K (K1 : Nat) : ∀ (k M : Nat) (p q : Nat → Int32), dD n mh mp0 mx0 mr0 x y set K0 i3 r3 k M p q = dD n mh mp0 mx0 mr0 x y set K1 i3 r3 k M p q
  | 0, _, _, _ => rfl
  | k + 1, M, p, q => by
    show mAll_L48 n mh mp0 mx0 mr0 (nI x) (nI y) set K0 i3 r3 (k + 1) M p q = mAll_L48 n mh mp0 mx0 mr0 (nI x) (nI y) set K1 i3 r3 (k + 1) M p q
    have ih : ∀ (M : Nat) (p q : Nat → Int32), mAll_L48 n mh mp0 mx0 mr0 (nI x) (nI y) set K0 i3 r3 k M p q = mAll_L48 n mh mp0 mx0 mr0 (nI x) (nI y) set K1 i3 r3 k M p q := dD_K K1 k
    rw [mAll_L48, mAll_L48]
    simp only [ih]
end DF
/-- the table of reached sets -/
def frR (n : Nat) (mh : Nat → Int32) : Nat → Nat → (Nat → Int32) → Nat → Int32
  | 0, _, r => r
  | k + 1, i, r => frR n mh k (i + 1) (upd r i (mReach n mh (nI i)))
theorem frR_lo (n : Nat) (mh : Nat → Int32) : ∀ (k i : Nat) (r : Nat → Int32) (v : Nat), v < i → frR n mh k i r v = r v
  | 0, _, _, _, _ => rfl
  | k + 1, i, r, v, h => by
    rw [frR, frR_lo n mh k (i + 1) _ v (by omega), pk_un (by omega)]
theorem frR_at (n : Nat) (mh : Nat → Int32) : ∀ (k i : Nat) (r : Nat → Int32) (v : Nat), i ≤ v → v < i + k → frR n mh k i r v = mReach n mh (nI v)
  | 0, _, _, _, h1, h2 => by omega
  | k + 1, i, r, v, h1, h2 => by
    rw [frR]
    by_cases c : v = i
    · subst c; rw [frR_lo n mh k (v + 1) _ v (by omega), pk_us]
    · exact frR_at n mh k (i + 1) _ v (by omega) (by omega)
theorem mAll_L3_eq (n : Nat) (mh mp mx mr : Nat → Int32) (x0 y0 set : Int32) (K : Nat) : ∀ (k i : Nat) (r : Nat → Int32), i + k ≤ 6 → mAll_L3 n mh mp mx mr x0 y0 set K k i r = mAll_L48 n mh mp mx mr x0 y0 set K (i + k) (frR n mh k i r) K 1 (upd mp 0 x0) (upd mx 0 0)
  | 0, i, r, _ => by
    rw [mAll_L3, cl0]; rfl
  | k + 1, i, r, h => by
    rw [mAll_L3, nI_clamp (by omega), mAll_L3_eq n mh mp mx mr x0 y0 set K k (i + 1) _ (by omega), frR, show i + 1 + k = i + (k + 1) by omega]
theorem mAll_spec {n : Nat} (hn : n ≤ 6) (mh mp mx mr : Nat → Int32) {x y : Nat} (hx : x < n) (hy : y < n) (hxy : x ≠ y) (set : Int32) :
    ∃ (K : Nat) (r : Int32 × (Nat → Int32) × (Nat → Int32) × (Nat → Int32)), mAll n mh mp mx mr (nI x) (nI y) set K = some r ∧ (r.1 = 0 ∨ r.1 = 1) ∧ (r.1 = 0 ↔ ∃ w m, dGood n mh x y set w m) ∧ ∀ K' r', mAll n mh mp mx mr (nI x) (nI y) set K' = some r' → r' = r := by
  have eA : ∀ K, mAll n mh mp mx mr (nI x) (nI y) set K = dD n mh mp mx mr x y set 0 n (frR n mh n 0 mr) K 1 (upd mp 0 (nI x)) (upd mx 0 0) := fun K => by
    rw [mAll, mAll_L3_eq n mh mp mx mr _ _ set K n 0 mr (by omega), Nat.zero_add]
    exact dD_K 0 K 1 _ _
  have hr : ∀ c, c < n → ∀ w, bt (frR n mh n 0 mr c) w = true ↔ dp_Reach (gM n mh) c w := fun c hc w => by
    rw [frR_at n mh n 0 mr c (by omega) (by omega)]
    exact mReach_spec hn hc (fun a b h => ⟨h.1, h.2.1⟩) (fun a b ha hb => ⟨fun h => ⟨ha, hb, h⟩, fun h => h.2.2⟩) w
  have hH : dfH n mh x y 1 0 (upd mp 0 (nI x)) (upd mx 0 0) (fun _ => x) := ⟨Nat.le_refl _, by omega, fun t ht => by
    have : t = 0 := by omega
    subst this
    exact ⟨hx, pk_us⟩, fun s t h1 h2 => by omega, fun t h => by omega, rfl, hxy, by rw [Nat.sub_self, pk_us]; exact nI_0.symm⟩
  have hE : dfE n mh x y set 1 0 (fun _ => x) ↔ ∃ w m, dGood n mh x y set w m := by
    constructor
    · intro ⟨w, m, _, _, _, h⟩; exact ⟨w, m, h⟩
    · intro ⟨w, m, h⟩
      refine ⟨w, m, ?_, fun t ht => ?_, Nat.zero_le _, h⟩
      · rcases Nat.eq_zero_or_pos m with e | e
        · subst e; exact absurd (h.2.1.symm.trans h.2.2.1) hxy
        · exact e
      · have : t = 0 := by omega
        subst this; exact h.2.1
  have hC := dfs_out (mp0 := mp) (mx0 := mx) (mr0 := mr) (set := set) (K0 := 0) (i3 := n) hn hy hr (n - 1) 1 (by omega) _ _ _ hH
  have uniq : ∀ K r, mAll n mh mp mx mr (nI x) (nI y) set K = some r → ∀ K' r', mAll n mh mp mx mr (nI x) (nI y) set K' = some r' → r' = r := fun K r h K' r' h' => by
    rw [eA] at h h'
    have a := dD_mono K K' _ _ _ _ h
    have b := dD_mono K' K _ _ _ _ h'
    rw [Nat.add_comm, a] at b
    exact (Option.some.inj b).symm
  by_cases c : dfE n mh x y set 1 0 (fun _ => x)
  · obtain ⟨k, r, h0, hk⟩ := hC.1 c
    have h := hk 0
    rw [Nat.add_zero] at h
    have h2 : mAll n mh mp mx mr (nI x) (nI y) set k = some r := by rw [eA]; exact h
    exact ⟨k, r, h2, Or.inl h0, ⟨fun _ => hE.mp c, fun _ => h0⟩, uniq k r h2⟩
  · obtain ⟨k, p', q', _, hk⟩ := hC.2 c
    have h := hk 1
    have h3 : dD n mh mp mx mr x y set 0 n (frR n mh n 0 mr) 1 (1 - 1) p' q' = some (1, p', q', frR n mh n 0 mr) := by
      show mAll_L48 n mh mp mx mr (nI x) (nI y) set 0 n (frR n mh n 0 mr) (0 + 1) 0 p' q' = _
      rw [mAll_L48, if_pos (by decide)]
    rw [h3] at h
    have h2 : mAll n mh mp mx mr (nI x) (nI y) set (k + 1) = some (1, p', q', frR n mh n 0 mr) := by rw [eA]; exact h
    exact ⟨k + 1, _, h2, Or.inr rfl, ⟨fun e => absurd (show (1 : Int32) = 0 from e) (by decide), fun e => absurd (hE.mpr e) c⟩, uniq _ _ h2⟩
theorem mAllT_spec {n : Nat} (hn : n ≤ 6) (mh mp mx mr : Nat → Int32) {x y : Nat} (hx : x < n) (hy : y < n) (hxy : x ≠ y) (set : Int32) :
    (∃ K, mAll n mh mp mx mr (nI x) (nI y) set K = some (mAllT n mh mp mx mr (nI x) (nI y) set)) ∧ ((mAllT n mh mp mx mr (nI x) (nI y) set).1 = 0 ∨ (mAllT n mh mp mx mr (nI x) (nI y) set).1 = 1) ∧ ((mAllT n mh mp mx mr (nI x) (nI y) set).1 = 0 ↔ ∃ w m, dGood n mh x y set w m) := by
  obtain ⟨K, r, h1, h2, h3, h4⟩ := mAll_spec hn mh mp mx mr hx hy hxy set
  have hs : ∃ K, mAll n mh mp mx mr (nI x) (nI y) set K = some (mAllT n mh mp mx mr (nI x) (nI y) set) := Classical.epsilon_spec (p := fun rr => ∃ K, mAll n mh mp mx mr (nI x) (nI y) set K = some rr) ⟨r, K, h1⟩
  obtain ⟨K', h5⟩ := hs
  have e := h4 K' _ h5
  rw [e]
  rw [e] at h5
  exact ⟨⟨K', h5⟩, h2, h3⟩
