/-! arrow, erase, turn keep the relation -/
section CH
variable {n : Nat} {fp fc mh : Nat → Int32}
theorem nar1 : vp_nar .boolean 1 = 1 := by decide
theorem nar0 : vp_nar .boolean 0 = 0 := by decide
theorem ix_inj {a b c d : Nat} (hb : b < 6) (hd : d < 6) : 6 * a + b = 6 * c + d ↔ a = c ∧ b = d := by omega
theorem msk_put (hn : n ≤ 6) (h : mskR n fp fc mh) {a b : Nat} (ha : a < n) (hb : b < n) : mskR n (gPut fp fc (nI a) (nI b)).1 (gPut fp fc (nI a) (nI b)).2 (upd mh (6 * a + b) 1) := by
  unfold gPut
  rw [nI_clamp (show a < 2 ^ 31 by omega), nI_clamp (show b < 2 ^ 31 by omega)]
  refine ⟨fun v hv u => ?_, fun u hu v => ?_⟩
  · show bt (upd fp b (fp b ||| _) v) u = true ↔ _
    by_cases c : v = b
    · subst c
      rw [pk_us, b_or, Bool.or_eq_true, h.1 v hv u, b_one (by omega), decide_eq_true_iff]
      by_cases d : u = a
      · subst d
        rw [pk_us]
        exact ⟨fun _ => ⟨ha, by decide⟩, fun _ => Or.inr rfl⟩
      · rw [pk_un (show 6 * u + v ≠ 6 * a + v by omega)]
        exact ⟨fun q => q.elim id (fun z => absurd z d), Or.inl⟩
    · rw [pk_un c, h.1 v hv u]
      constructor
      · intro q
        rw [pk_un (by omega)]; exact q
      · intro q
        rw [pk_un (by omega)] at q; exact q
  · show bt (upd fc a (fc a ||| _) u) v = true ↔ _
    by_cases c : u = a
    · subst c
      rw [pk_us, b_or, Bool.or_eq_true, h.2 u hu v, b_one (by omega), decide_eq_true_iff]
      by_cases d : v = b
      · subst d
        rw [pk_us]
        exact ⟨fun _ => ⟨hb, by decide⟩, fun _ => Or.inr rfl⟩
      · rw [pk_un (show 6 * u + v ≠ 6 * u + b by omega)]
        exact ⟨fun q => q.elim id (fun z => absurd z d), Or.inl⟩
    · rw [pk_un c, h.2 u hu v]
      constructor
      · intro q
        rw [pk_un (by omega)]; exact q
      · intro q
        rw [pk_un (by omega)] at q; exact q
theorem msk_take (hn : n ≤ 6) (h : mskR n fp fc mh) {a b : Nat} (ha : a < n) (hb : b < n) : mskR n (gTake fp fc (nI a) (nI b)).1 (gTake fp fc (nI a) (nI b)).2 (upd mh (6 * a + b) 0) := by
  unfold gTake
  rw [nI_clamp (show a < 2 ^ 31 by omega), nI_clamp (show b < 2 ^ 31 by omega)]
  refine ⟨fun v hv u => ?_, fun u hu v => ?_⟩
  · show bt (upd fp b (fp b &&& _) v) u = true ↔ _
    by_cases c : v = b
    · subst c
      rw [pk_us, b_clr _ (by omega), h.1 v hv u]
      by_cases d : u = a
      · subst d
        rw [pk_us]
        exact ⟨fun q => absurd rfl q.2, fun q => absurd rfl q.2⟩
      · rw [pk_un (show 6 * u + v ≠ 6 * a + v by omega)]
        exact ⟨fun q => q.1, fun q => ⟨q, d⟩⟩
    · rw [pk_un c, h.1 v hv u]
      constructor
      · intro q
        rw [pk_un (by omega)]; exact q
      · intro q
        rw [pk_un (by omega)] at q; exact q
  · show bt (upd fc a (fc a &&& _) u) v = true ↔ _
    by_cases c : u = a
    · subst c
      rw [pk_us, b_clr _ (by omega), h.2 u hu v]
      by_cases d : v = b
      · subst d
        rw [pk_us]
        exact ⟨fun q => absurd rfl q.2, fun q => absurd rfl q.2⟩
      · rw [pk_un (show 6 * u + v ≠ 6 * u + b by omega)]
        exact ⟨fun q => q.1, fun q => ⟨q, d⟩⟩
    · rw [pk_un c, h.2 u hu v]
      constructor
      · intro q
        rw [pk_un (by omega)]; exact q
      · intro q
        rw [pk_un (by omega)] at q; exact q
theorem gRel_put (hn : n ≤ 6) (h : gRel n fp fc mh) {a b : Nat} (ha : a < n) (hb : b < n) (hab : a ≠ b) (h2 : mh (6 * b + a) = 0) : gRel n (gPut fp fc (nI a) (nI b)).1 (gPut fp fc (nI a) (nI b)).2 (upd mh (6 * a + b) 1) := by
  have hm := msk_put hn h.msk ha hb
  refine ⟨fun x y hx hy hne => ?_, hm.1, hm.2, is01_upd h.2.2.2 (Or.inr rfl)⟩
  by_cases c : x = a ∧ y = b
  · obtain ⟨rfl, rfl⟩ := c
    exact ⟨ha, hb, hab, by rw [pk_un (by omega)]; exact h2⟩
  · rw [pk_un (by omega)] at hne
    obtain ⟨q1, q2, q3, q4⟩ := h.1 x y hx hy hne
    refine ⟨q1, q2, q3, ?_⟩
    by_cases d : y = a ∧ x = b
    · obtain ⟨rfl, rfl⟩ := d
      exact absurd h2 hne
    · rw [pk_un (by omega)]; exact q4
theorem gRel_take (hn : n ≤ 6) (h : gRel n fp fc mh) {a b : Nat} (ha : a < n) (hb : b < n) : gRel n (gTake fp fc (nI a) (nI b)).1 (gTake fp fc (nI a) (nI b)).2 (upd mh (6 * a + b) 0) := by
  have hm := msk_take hn h.msk ha hb
  refine ⟨fun x y hx hy hne => ?_, hm.1, hm.2, is01_upd h.2.2.2 (Or.inl rfl)⟩
  by_cases c : x = a ∧ y = b
  · obtain ⟨rfl, rfl⟩ := c
    rw [pk_us] at hne; exact absurd rfl hne
  · rw [pk_un (by omega)] at hne
    obtain ⟨q1, q2, q3, q4⟩ := h.1 x y hx hy hne
    refine ⟨q1, q2, q3, ?_⟩
    by_cases d : y = a ∧ x = b
    · obtain ⟨rfl, rfl⟩ := d
      exact pk_us
    · rw [pk_un (by omega)]; exact q4
/-! an order through all arrows -/
def hasRank (n : Nat) (mh : Nat → Int32) : Prop := ∃ rk : Nat → Nat, ∀ a b, gM n mh a b → rk a < rk b
theorem rank_sub {mh2 : Nat → Int32} (h : hasRank n mh) (hs : ∀ a b, gM n mh2 a b → gM n mh a b) : hasRank n mh2 := by
  obtain ⟨rk, hr⟩ := h
  exact ⟨rk, fun a b g => hr a b (hs a b g)⟩
theorem rank_add {mh2 : Nat → Int32} {u v : Nat} (h : hasRank n mh) (hno : ¬ dp_Reach (gM n mh) v u) (hs : ∀ a b, gM n mh2 a b → gM n mh a b ∨ (a = u ∧ b = v)) : hasRank n mh2 := by
  obtain ⟨rk, hr⟩ := h
  refine ⟨fun w => @ite Nat (dp_Reach (gM n mh) v w) (Classical.propDecidable _) (rk w + rk u + 1) (rk w), fun a b g => ?_⟩
  show @ite Nat (dp_Reach (gM n mh) v a) (Classical.propDecidable _) (rk a + rk u + 1) (rk a) < @ite Nat (dp_Reach (gM n mh) v b) (Classical.propDecidable _) (rk b + rk u + 1) (rk b)
  rcases hs a b g with g | ⟨rfl, rfl⟩
  · have hlt := hr a b g
    by_cases c : dp_Reach (gM n mh) v a
    · rw [if_pos c, if_pos (dp_Reach_snoc c g)]; omega
    · rw [if_neg c]
      by_cases d : dp_Reach (gM n mh) v b
      · rw [if_pos d]; omega
      · rw [if_neg d]; exact hlt
  · rw [if_neg hno, if_pos (dp_Reach_refl _ _)]; omega
theorem gM_put {a b x y : Nat} (hb : b < 6) (hn : n ≤ 6) (g : gM n (upd mh (6 * a + b) 1) x y) : gM n mh x y ∨ (x = a ∧ y = b) := by
  by_cases c : x = a ∧ y = b
  · exact Or.inr c
  · refine Or.inl ⟨g.1, g.2.1, ?_⟩
    have h3 := g.2.2
    have := g.2.1
    rw [pk_un (by omega)] at h3; exact h3
theorem gM_take {a b x y : Nat} (g : gM n (upd mh (6 * a + b) 0) x y) : gM n mh x y := by
  refine ⟨g.1, g.2.1, ?_⟩
  have h3 := g.2.2
  by_cases c : 6 * x + y = 6 * a + b
  · rw [c, pk_us] at h3; exact absurd rfl h3
  · rw [pk_un c] at h3; exact h3
/-! how many arrows -/
def iA (mh : Nat → Int32) (k : Nat) : Nat := if mh k = 0 then 0 else 1
def cntA (mh : Nat → Int32) : Nat := sm (iA mh) 36 0
theorem sm_upd (f : Nat → Nat) (j c : Nat) : ∀ m, j < m → sm (fun k => if k = j then c else f k) m 0 + f j = sm f m 0 + c
  | 0, h => by omega
  | m + 1, h => by
    rw [sm_top, sm_top, Nat.zero_add]
    by_cases d : j = m
    · subst d
      rw [if_pos rfl, sm_congr (g := f) j 0 (fun t _ ht => if_neg (by omega))]; omega
    · rw [if_neg (fun e => d e.symm)]
      have := sm_upd f j c m (by omega)
      omega
theorem cnt_upd {j : Nat} (hj : j < 36) (v : Int32) : cntA (upd mh j v) + iA mh j = cntA mh + (if v = 0 then 0 else 1) := by
  have e : sm (iA (upd mh j v)) 36 0 = sm (fun k => if k = j then (if v = 0 then 0 else 1) else iA mh k) 36 0 := by
    refine sm_congr 36 0 (fun t _ _ => ?_)
    show iA (upd mh j v) t = if t = j then (if v = 0 then 0 else 1) else iA mh t
    unfold iA
    by_cases c : t = j
    · rw [if_pos c, c, pk_us]
    · rw [if_neg c, pk_un c]
  unfold cntA
  rw [e]
  exact sm_upd (iA mh) j (if v = 0 then 0 else 1) 36 hj
theorem mArrows_L4_eq : ∀ (k i c : Nat), i + k ≤ 36 → mArrows_L4 mh k i (nI c) = nI (c + sm (iA mh) k i)
  | 0, i, c, _ => rfl
  | k + 1, i, c, h => by
    rw [mArrows_L4, nI_clamp (by omega)]
    show _ = nI (c + (iA mh i + _))
    unfold iA
    by_cases d : mh i = 0
    · rw [if_pos d, if_pos d, mArrows_L4_eq k (i + 1) c (by omega), Nat.zero_add]; rfl
    · rw [if_neg d, if_neg d, nI_1, mArrows_L4_eq k (i + 1) (c + 1) (by omega), Nat.add_assoc]; rfl
theorem mArrows_eq : mArrows mh = nI (cntA mh) := by
  rw [mArrows, ← nI_0, mArrows_L4_eq 36 0 0 (by omega), Nat.zero_add]; rfl
theorem sm_cut (f : Nat → Nat) : ∀ d, (∀ t, n ≤ t → t < n + d → f t = 0) → sm f (n + d) 0 = sm f n 0
  | 0, _ => rfl
  | d + 1, h => by
    show sm f (n + d + 1) 0 = _
    rw [sm_top, Nat.zero_add, sm_cut f d (fun t h1 h2 => h t h1 (by omega)), h (n + d) (by omega) (by omega), Nat.add_zero]
theorem sm_36 (f : Nat → Nat) : sm f 36 0 = sm (fun a => sm (fun b => f (6 * a + b)) 6 0) 6 0 := by
  simp only [sm]
  simp only [Nat.reduceMul, Nat.reduceAdd, Nat.add_zero]
  omega
theorem cnt_nn (hn : n ≤ 6) (h : gRel n fp fc mh) : cntA mh = sm (fun a => sm (fun b => iA mh (6 * a + b)) n 0) n 0 := by
  unfold cntA
  rw [sm_36]
  obtain ⟨d, hd⟩ : ∃ d, 6 = n + d := ⟨6 - n, by omega⟩
  have z : ∀ a b, a < 6 → b < 6 → (n ≤ a ∨ n ≤ b) → iA mh (6 * a + b) = 0 := fun a b ha hb hor => by
    unfold iA
    by_cases c : mh (6 * a + b) = 0
    · rw [if_pos c]
    · have := h.1 a b ha hb c; omega
  have e1 : sm (fun a => sm (fun b => iA mh (6 * a + b)) 6 0) 6 0 = sm (fun a => sm (fun b => iA mh (6 * a + b)) n 0) 6 0 := by
    refine sm_congr 6 0 (fun a _ ha => ?_)
    have := sm_cut (n := n) (fun b => iA mh (6 * a + b)) d (fun t h1 h2 => z a t (by omega) (by omega) (Or.inr h1))
    rw [← hd] at this; exact this
  rw [e1]
  have := sm_cut (n := n) (fun a => sm (fun b => iA mh (6 * a + b)) n 0) d (fun t h1 h2 => by
    rw [sm_congr (g := fun _ => 0) n 0 (fun b _ hb => z t b (by omega) (by omega) (Or.inl h1)), sm_0])
  rw [← hd] at this; exact this
theorem gSize_L4_eq (hn : n ≤ 6) (h : gRel n fp fc mh) : ∀ (k i c : Nat), i + k ≤ n → gSize_L4 n fp k i (nI c) = nI (c + sm (fun v => sm (fun u => iA mh (6 * u + v)) n 0) k i)
  | 0, i, c, _ => rfl
  | k + 1, i, c, hk => by
    rw [gSize_L4, nI_clamp (by omega), bc_eq (m := n) (by omega) (fun w q => ((h.2.1 i (by omega) w).mp q).1), nI_add, gSize_L4_eq hn h k (i + 1) _ (by omega)]
    show _ = nI (c + (sm (fun u => iA mh (6 * u + i)) n 0 + _))
    have e : cb (bt (fp i)) n = sm (fun u => iA mh (6 * u + i)) n 0 := by
      rw [cb_sm]
      refine sm_congr n 0 (fun t _ ht => ?_)
      unfold iA
      by_cases q : mh (6 * t + i) = 0
      · rw [if_pos q, if_neg (fun z => ((h.2.1 i (by omega) t).mp z).2 q)]
      · rw [if_neg q, if_pos ((h.2.1 i (by omega) t).mpr ⟨by omega, q⟩)]
    rw [e, Nat.add_assoc]
theorem gSize_eq (hn : n ≤ 6) (h : gRel n fp fc mh) : gSize n fp = nI (cntA mh) := by
  rw [gSize, ← nI_0, gSize_L4_eq hn h n 0 0 (by omega), Nat.zero_add, cnt_nn hn h, sm_swap (fun a b => iA mh (6 * a + b)) n 0 n 0]
theorem jcI_sm (u : Nat) : ∀ k i, jcI mh u k i = sm (fun b => if mJoin mh (nI u) (nI b) = 0 then 0 else 1) k i
  | 0, _ => rfl
  | k + 1, i => by
    rw [jcI, jcI_sm u k (i + 1)]; rfl
theorem jcO_sm : ∀ k i, jcO mh n k i = sm (fun a => jcI mh a (n - (a + 1)) (a + 1)) k i
  | 0, _ => rfl
  | k + 1, i => by
    rw [jcO, jcO_sm k (i + 1)]; rfl
def jG (n : Nat) (mh : Nat → Int32) (a b : Nat) : Nat := if a < n ∧ b < n then iA mh (6 * a + b) + iA mh (6 * b + a) else 0
theorem jcO_cnt (hn : n ≤ 6) (h : gRel n fp fc mh) : jcO mh n n 0 = cntA mh := by
  have e1 : jcO mh n n 0 = sm (fun a => sm (fun b => jG n mh a b) (n - (a + 1)) (a + 1)) n 0 := by
    rw [jcO_sm]
    refine sm_congr n 0 (fun a _ ha => ?_)
    rw [jcI_sm]
    refine sm_congr _ _ (fun b h1 h2 => ?_)
    unfold jG
    rw [if_pos (show a < n ∧ b < n from ⟨by omega, by omega⟩)]
    have hj := mJoin_eq (mh := mh) hn (show a < n by omega) (show b < n by omega)
    unfold iA
    by_cases c1 : mh (6 * a + b) = 0
    · by_cases c2 : mh (6 * b + a) = 0
      · rw [if_pos c1, if_pos c2, if_pos (hj.mpr (fun q => q.elim (fun z => z.2.2 c1) (fun z => z.2.2 c2)))]
      · rw [if_pos c1, if_neg c2, if_neg (fun q => hj.mp q (Or.inr ⟨by omega, by omega, c2⟩))]
    · rw [if_neg c1, if_pos (h.1 a b (by omega) (by omega) c1).2.2.2, if_neg (fun q => hj.mp q (Or.inl ⟨by omega, by omega, c1⟩))]
  have e2 := sm_sym (jG n mh) (fun a b => by
    unfold jG
    by_cases c : a < n ∧ b < n
    · rw [if_pos c, if_pos ⟨c.2, c.1⟩, Nat.add_comm]
    · rw [if_neg c, if_neg (fun q => c ⟨q.2, q.1⟩)]) (fun a => by
    unfold jG
    by_cases c : a < n ∧ a < n
    · rw [if_pos c]
      unfold iA
      by_cases d : mh (6 * a + a) = 0
      · rw [if_pos d]
      · exact absurd rfl (h.1 a a (by omega) (by omega) d).2.2.1
    · rw [if_neg c]) n
  have e3 : sm (fun a => sm (fun b => jG n mh a b) n 0) n 0 = cntA mh + cntA mh := by
    have : sm (fun a => sm (fun b => jG n mh a b) n 0) n 0 = sm (fun a => sm (fun b => iA mh (6 * a + b)) n 0 + sm (fun b => iA mh (6 * b + a)) n 0) n 0 := by
      refine sm_congr n 0 (fun a _ ha => ?_)
      rw [← sm_add]
      refine sm_congr n 0 (fun b _ hb => ?_)
      unfold jG
      rw [if_pos (show a < n ∧ b < n from ⟨by omega, by omega⟩)]
    rw [this, sm_add, cnt_nn hn h, ← sm_swap (fun b a => iA mh (6 * b + a)) n 0 n 0]
  omega
end CH
