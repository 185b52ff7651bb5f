/-! ways and paths: an open way (nodes may come twice) gives an open way in which they don't -/
def dp_R (G : Nat → Nat → Prop) : Nat → Nat → Nat → Prop
  | 0, u, w => u = w
  | k + 1, u, w => ∃ v, G u v ∧ dp_R G k v w
def dp_Reach (G : Nat → Nat → Prop) (u w : Nat) : Prop := ∃ k, dp_R G k u w
theorem dp_R_trans {G : Nat → Nat → Prop} : ∀ (a : Nat) {b u v w : Nat}, dp_R G a u v → dp_R G b v w → dp_R G (a + b) u w
  | 0, b, u, v, w, h1, h2 => by
    have h1 : u = v := h1
    subst h1
    rw [Nat.zero_add]; exact h2
  | a + 1, b, u, v, w, h1, h2 => by
    obtain ⟨z, hz, h1⟩ := h1
    rw [Nat.add_right_comm]
    exact ⟨z, hz, dp_R_trans a h1 h2⟩
theorem dp_Reach_refl (G : Nat → Nat → Prop) (u : Nat) : dp_Reach G u u := ⟨0, rfl⟩
theorem dp_Reach_trans {G : Nat → Nat → Prop} {u v w : Nat} (h1 : dp_Reach G u v) (h2 : dp_Reach G v w) : dp_Reach G u w := by
  obtain ⟨a, h1⟩ := h1
  obtain ⟨b, h2⟩ := h2
  exact ⟨a + b, dp_R_trans a h1 h2⟩
theorem dp_Reach_one {G : Nat → Nat → Prop} {u v : Nat} (h : G u v) : dp_Reach G u v := ⟨1, v, h, rfl⟩
theorem dp_Reach_snoc {G : Nat → Nat → Prop} {u v w : Nat} (h1 : dp_Reach G u v) (h2 : G v w) : dp_Reach G u w := dp_Reach_trans h1 (dp_Reach_one h2)
theorem dp_Reach_cons {G : Nat → Nat → Prop} {u v w : Nat} (h1 : G u v) (h2 : dp_Reach G v w) : dp_Reach G u w := dp_Reach_trans (dp_Reach_one h1) h2
/-- the set is reached -/
def dp_RS (G : Nat → Nat → Prop) (S : Nat → Prop) (u : Nat) : Prop := ∃ w, S w ∧ dp_Reach G u w
/-- a node between two others on a way lets through -/
def dp_ok (G : Nat → Nat → Prop) (S : Nat → Prop) (a b c : Nat) : Prop := (G a b → G c b → dp_RS G S b) ∧ (¬ (G a b ∧ G c b) → ¬ S b)
/-- an open way of m steps -/
def dp_way (G : Nat → Nat → Prop) (S : Nat → Prop) (w : Nat → Nat) (m : Nat) : Prop := (∀ t, t < m → G (w t) (w (t + 1)) ∨ G (w (t + 1)) (w t)) ∧ ∀ t, t + 1 < m → dp_ok G S (w t) (w (t + 1)) (w (t + 2))
theorem dp_down {G : Nat → Nat → Prop} (w : Nat → Nat) (i : Nat) : ∀ (d : Nat), (∀ s, s < d → G (w (i + s)) (w (i + s + 1))) → dp_Reach G (w i) (w (i + d))
  | 0, _ => dp_Reach_refl _ _
  | d + 1, h => dp_Reach_snoc (dp_down w i d (fun s hs => h s (by omega))) (h d (by omega))
/-- a round that leaves along an arrow and comes back against one: its node reaches the set -/
theorem dp_round {G : Nat → Nat → Prop} {S : Nat → Prop} {w : Nat → Nat} {m i j : Nat} (hG : ∀ a b, G a b → ¬ G b a) (hw : dp_way G S w m) (hj : i + 2 ≤ j) (hm : j < m + 1) (he : w i = w j) (h1 : G (w i) (w (i + 1))) (h2 : G (w j) (w (j - 1))) : dp_RS G S (w i) := by
  have hex : ∃ d, ¬ G (w (i + d)) (w (i + d + 1)) := ⟨j - 1 - i, by
    rw [show i + (j - 1 - i) = j - 1 by omega, show j - 1 + 1 = j by omega]
    exact fun h => hG _ _ h h2⟩
  obtain ⟨d, hd, hl⟩ := pk_least (fun d => ¬ G (w (i + d)) (w (i + d + 1))) hex
  have hdj : d ≤ j - 1 - i := by
    rcases Nat.lt_or_ge (j - 1 - i) d with h | h
    · exfalso
      have := hl _ h
      apply this
      show ¬ G (w (i + (j - 1 - i))) (w (i + (j - 1 - i) + 1))
      rw [show i + (j - 1 - i) = j - 1 by omega, show j - 1 + 1 = j by omega]
      exact fun h => hG _ _ h h2
    · exact h
  have hd0 : d ≠ 0 := by
    intro h
    subst h
    exact hd h1
  have hup : ∀ s, s < d → G (w (i + s)) (w (i + s + 1)) := fun s hs => Classical.not_not.mp (hl s hs)
  have hre : dp_Reach G (w i) (w (i + d)) := dp_down w i d hup
  have ha := hw.1 (i + d) (by omega)
  have hb : G (w (i + d + 1)) (w (i + d)) := ha.resolve_left hd
  have hin : G (w (i + d - 1)) (w (i + d)) := by
    have := hup (d - 1) (by omega)
    rw [show i + (d - 1) = i + d - 1 by omega, show i + d - 1 + 1 = i + d by omega] at this
    exact this
  have hok := hw.2 (i + d - 1) (by omega)
  rw [show i + d - 1 + 1 = i + d by omega, show i + d - 1 + 2 = i + d + 1 by omega] at hok
  obtain ⟨z, hz, hr⟩ := hok.1 hin hb
  exact ⟨z, hz, dp_Reach_trans hre hr⟩
/-- a way without the part between i and j -/
def dp_cut (w : Nat → Nat) (i j : Nat) : Nat → Nat := fun t => if t ≤ i then w t else w (t + (j - i))
theorem dp_cut_way {G : Nat → Nat → Prop} {S : Nat → Prop} {w : Nat → Nat} {m i j : Nat} (hG : ∀ a b, G a b → ¬ G b a) (hw : dp_way G S w m) (hij : i < j) (hm : j ≤ m) (he : w i = w j) : dp_way G S (dp_cut w i j) (m - (j - i)) := by
  have lo : ∀ t, t ≤ i → dp_cut w i j t = w t := fun t h => if_pos h
  have hi : ∀ t, i ≤ t → dp_cut w i j t = w (t + (j - i)) := fun t h => by
    rcases Nat.lt_or_ge i t with h2 | h2
    · exact if_neg (by omega)
    · have : t = i := by omega
      subst this
      rw [lo t (Nat.le_refl _), he, show t + (j - t) = j by omega]
  have hij2 : i + 2 ≤ j := by
    rcases Nat.lt_or_ge j (i + 2) with h | h
    · exfalso
      have e : j = i + 1 := by omega
      subst e
      have := hw.1 i (by omega)
      rw [← he] at this
      rcases this with h | h <;> exact hG _ _ h h
    · exact h
  refine ⟨fun t ht => ?_, fun t ht => ?_⟩
  · rcases Nat.lt_or_ge t i with h | h
    · rw [lo t (by omega), lo (t + 1) (by omega)]
      exact hw.1 t (by omega)
    · rw [hi t h, hi (t + 1) (by omega), show t + 1 + (j - i) = t + (j - i) + 1 by omega]
      exact hw.1 _ (by omega)
  · rcases Nat.lt_or_ge (t + 1) i with h | h
    · rw [lo t (by omega), lo (t + 1) (by omega), lo (t + 2) (by omega)]
      exact hw.2 t (by omega)
    · rcases Nat.lt_or_ge i (t + 1) with h2 | h2
      · rw [hi t (by omega), hi (t + 1) (by omega), hi (t + 2) (by omega), show t + 1 + (j - i) = t + (j - i) + 1 by omega, show t + 2 + (j - i) = t + (j - i) + 2 by omega]
        exact hw.2 _ (by omega)
      · have e : i = t + 1 := by omega
        subst e
        rw [lo t (by omega), lo (t + 1) (by omega), hi (t + 2) (by omega), show t + 2 + (j - (t + 1)) = j + 1 by omega]
        have o1 := hw.2 t (by omega)
        have o2 := hw.2 (j - 1) (by omega)
        rw [show j - 1 + 1 = j by omega, show j - 1 + 2 = j + 1 by omega, ← he] at o2
        have a1 := hw.1 (t + 1) (by omega)
        have a2 := hw.1 (j - 1) (by omega)
        rw [show j - 1 + 1 = j by omega, ← he] at a2
        refine ⟨fun g1 g2 => ?_, fun g => ?_⟩
        · rcases a1 with a1 | a1
          · rcases a2 with a2 | a2
            · exact o2.1 a2 g2
            · exact dp_round hG hw hij2 (by omega) he a1 (by rw [← he]; exact a2)
          · exact o1.1 g1 a1
        · rcases Classical.em (G (w t) (w (t + 1))) with g1 | g1
          · exact o2.2 (fun q => g ⟨g1, q.2⟩)
          · exact o1.2 (fun q => g1 q.1)
/-- an open way from x to another node y gives one without a node twice -/
theorem dp_simple {G : Nat → Nat → Prop} {S : Nat → Prop} (hG : ∀ a b, G a b → ¬ G b a) {x y : Nat} {w : Nat → Nat} {m : Nat} (hw : dp_way G S w m) (h0 : w 0 = x) (h1 : w m = y) :
    ∃ (v : Nat → Nat) (k : Nat), dp_way G S v k ∧ v 0 = x ∧ v k = y ∧ ∀ i j, i < j → j ≤ k → v i ≠ v j := by
  obtain ⟨k, ⟨v, hv, e0, e1⟩, hl⟩ := pk_least (fun k => ∃ v : Nat → Nat, dp_way G S v k ∧ v 0 = x ∧ v k = y) ⟨m, w, hw, h0, h1⟩
  refine ⟨v, k, hv, e0, e1, fun i j hij hj he => ?_⟩
  refine hl (k - (j - i)) (by omega) ⟨dp_cut v i j, dp_cut_way hG hv hij hj he, ?_, ?_⟩
  · show (if 0 ≤ i then v 0 else _) = x
    rw [if_pos (Nat.zero_le _)]; exact e0
  · show (if k - (j - i) ≤ i then v (k - (j - i)) else v (k - (j - i) + (j - i))) = y
    rcases Nat.lt_or_ge i (k - (j - i)) with h | h
    · rw [if_neg (by omega), show k - (j - i) + (j - i) = k by omega]; exact e1
    · rw [if_pos h, show k - (j - i) = i by omega, he, show j = k by omega]; exact e1
/-- the rules by which open ways are followed, one node at a time -/
def dp_closed (G : Nat → Nat → Prop) (S A B : Nat → Prop) : Prop :=
  (∀ v c, ¬ S v → (A v ∨ B v) → G v c → B c) ∧ (∀ v q, ¬ S v → A v → G q v → A q) ∧ ∀ v q, S v → B v → G q v → A q
theorem dp_bounce {G : Nat → Nat → Prop} {S A B : Nat → Prop} (hc : dp_closed G S A B) : ∀ (k : Nat) (v z q : Nat), dp_R G k v z → S z → B v → G q v → A q
  | 0, v, z, q, h, hz, hB, hq => by
    have h : v = z := h
    subst h
    exact hc.2.2 v q hz hB hq
  | k + 1, v, z, q, h, hz, hB, hq => by
    rcases Classical.em (S v) with hv | hv
    · exact hc.2.2 v q hv hB hq
    · obtain ⟨c, hvc, h⟩ := h
      exact hc.2.1 v q hv (dp_bounce hc k c z v h hz (hc.1 v c hv (Or.inr hB) hvc) hvc) hq
/-- every open way stays inside what the rules give -/
theorem dp_inside {G : Nat → Nat → Prop} {S A B : Nat → Prop} (hG : ∀ a b, G a b → ¬ G b a) (hc : dp_closed G S A B) {w : Nat → Nat} {m : Nat} (hw : dp_way G S w m) (hA : ∀ q, G q (w 0) → A q) (hB : ∀ c, G (w 0) c → B c) :
    ∀ t, t < m → (G (w t) (w (t + 1)) → B (w (t + 1))) ∧ (G (w (t + 1)) (w t) → A (w (t + 1)))
  | 0, _ => ⟨fun h => hB _ h, fun h => hA _ h⟩
  | t + 1, ht => by
    have ih := dp_inside hG hc hw hA hB t (by omega)
    have ok := hw.2 t (by omega)
    have ad := hw.1 t (by omega)
    rcases Classical.em (G (w t) (w (t + 1)) ∧ G (w (t + 2)) (w (t + 1))) with hcol | hcol
    · obtain ⟨z, hz, k, hk⟩ := ok.1 hcol.1 hcol.2
      exact ⟨fun h => absurd hcol.2 (hG _ _ h), fun h => dp_bounce hc k _ z _ hk hz (ih.1 hcol.1) h⟩
    · have hs := ok.2 hcol
      refine ⟨fun h => hc.1 _ _ hs ?_ h, fun h => hc.2.1 _ _ hs ?_ h⟩
      · rcases ad with ad | ad
        · exact Or.inr (ih.1 ad)
        · exact Or.inl (ih.2 ad)
      · rcases ad with ad | ad
        · exact absurd ⟨ad, h⟩ hcol
        · exact ih.2 ad
/-- an open way from x that comes to q against an arrow, or to c along one -/
def dp_A (G : Nat → Nat → Prop) (S : Nat → Prop) (x q : Nat) : Prop := ∃ (w : Nat → Nat) (m : Nat), dp_way G S w (m + 1) ∧ w 0 = x ∧ w (m + 1) = q ∧ G q (w m)
def dp_B (G : Nat → Nat → Prop) (S : Nat → Prop) (x c : Nat) : Prop := ∃ (w : Nat → Nat) (m : Nat), dp_way G S w (m + 1) ∧ w 0 = x ∧ w (m + 1) = c ∧ G (w m) c
def dp_ap (w : Nat → Nat) (m z : Nat) : Nat → Nat := fun t => if t ≤ m then w t else z
theorem dp_ap_way {G : Nat → Nat → Prop} {S : Nat → Prop} {w : Nat → Nat} {m z : Nat} (hw : dp_way G S w (m + 1)) (ha : G (w (m + 1)) z ∨ G z (w (m + 1))) (ho : dp_ok G S (w m) (w (m + 1)) z) : dp_way G S (dp_ap w (m + 1) z) (m + 2) := by
  have lo : ∀ t, t ≤ m + 1 → dp_ap w (m + 1) z t = w t := fun t h => if_pos h
  have hi : dp_ap w (m + 1) z (m + 2) = z := if_neg (by omega)
  refine ⟨fun t ht => ?_, fun t ht => ?_⟩
  · rcases Nat.lt_or_ge t (m + 1) with h | h
    · rw [lo t (by omega), lo (t + 1) (by omega)]
      exact hw.1 t h
    · have e : t = m + 1 := by omega
      subst e
      rw [lo _ (by omega), hi]
      exact ha
  · rcases Nat.lt_or_ge t m with h | h
    · rw [lo t (by omega), lo (t + 1) (by omega), lo (t + 2) (by omega)]
      exact hw.2 t (by omega)
    · have e : t = m := by omega
      subst e
      rw [lo t (by omega), lo (t + 1) (by omega), hi]
      exact ho
theorem dp_ap_A {G : Nat → Nat → Prop} {S : Nat → Prop} {x v q : Nat} {w : Nat → Nat} {m : Nat} (hw : dp_way G S w (m + 1)) (h0 : w 0 = x) (h1 : w (m + 1) = v) (hg : G q v) (ho : dp_ok G S (w m) v q) : dp_A G S x q := by
  subst h1
  refine ⟨dp_ap w (m + 1) q, m + 1, dp_ap_way hw (Or.inr hg) ho, ?_, if_neg (by omega), ?_⟩
  · exact (if_pos (Nat.zero_le _)).trans h0
  · rw [show dp_ap w (m + 1) q (m + 1) = w (m + 1) from if_pos (Nat.le_refl _)]; exact hg
theorem dp_ap_B {G : Nat → Nat → Prop} {S : Nat → Prop} {x v c : Nat} {w : Nat → Nat} {m : Nat} (hw : dp_way G S w (m + 1)) (h0 : w 0 = x) (h1 : w (m + 1) = v) (hg : G v c) (ho : dp_ok G S (w m) v c) : dp_B G S x c := by
  subst h1
  refine ⟨dp_ap w (m + 1) c, m + 1, dp_ap_way hw (Or.inl hg) ho, ?_, if_neg (by omega), ?_⟩
  · exact (if_pos (Nat.zero_le _)).trans h0
  · rw [show dp_ap w (m + 1) c (m + 1) = w (m + 1) from if_pos (Nat.le_refl _)]; exact hg
theorem dp_AB_closed {G : Nat → Nat → Prop} {S : Nat → Prop} (hG : ∀ a b, G a b → ¬ G b a) (x : Nat) : dp_closed G S (dp_A G S x) (dp_B G S x) := by
  refine ⟨fun v c hs hv hg => ?_, fun v q hs hv hg => ?_, fun v q hs hv hg => ?_⟩
  · rcases hv with ⟨w, m, hw, h0, h1, h2⟩ | ⟨w, m, hw, h0, h1, h2⟩
    · exact dp_ap_B hw h0 h1 hg ⟨fun _ g2 => absurd g2 (hG _ _ hg), fun _ => hs⟩
    · exact dp_ap_B hw h0 h1 hg ⟨fun _ g2 => absurd g2 (hG _ _ hg), fun _ => hs⟩
  · obtain ⟨w, m, hw, h0, h1, h2⟩ := hv
    exact dp_ap_A hw h0 h1 hg ⟨fun g1 _ => absurd g1 (hG _ _ h2), fun _ => hs⟩
  · obtain ⟨w, m, hw, h0, h1, h2⟩ := hv
    exact dp_ap_A hw h0 h1 hg ⟨fun _ _ => ⟨v, hs, dp_Reach_refl G v⟩, fun g => absurd ⟨h2, hg⟩ g⟩
theorem dp_A0 {G : Nat → Nat → Prop} {S : Nat → Prop} {x q : Nat} (h : G q x) : dp_A G S x q := by
  refine ⟨fun t => if t = 0 then x else q, 0, ⟨fun t ht => ?_, fun t ht => by omega⟩, if_pos rfl, if_neg (by omega), ?_⟩
  · have e : t = 0 := by omega
    subst e
    exact Or.inr h
  · exact h
theorem dp_B0 {G : Nat → Nat → Prop} {S : Nat → Prop} {x c : Nat} (h : G x c) : dp_B G S x c := by
  refine ⟨fun t => if t = 0 then x else c, 0, ⟨fun t ht => ?_, fun t ht => by omega⟩, if_pos rfl, if_neg (by omega), ?_⟩
  · have e : t = 0 := by omega
    subst e
    exact Or.inl h
  · exact h
/-- THE THEOREM: what the rules give (A, B: closed, from x, and nothing but ends of open ways) holds y just when some open path of different nodes goes from x to y -/
theorem dp_main {G : Nat → Nat → Prop} {S A B : Nat → Prop} (hG : ∀ a b, G a b → ¬ G b a) {x y : Nat} (hxy : x ≠ y) (hc : dp_closed G S A B) (hA : ∀ q, G q x → A q) (hB : ∀ c, G x c → B c) (sA : ∀ q, A q → dp_A G S x q) (sB : ∀ c, B c → dp_B G S x c) :
    (A y ∨ B y) ↔ ∃ (v : Nat → Nat) (k : Nat), dp_way G S v k ∧ v 0 = x ∧ v k = y ∧ ∀ i j, i < j → j ≤ k → v i ≠ v j := by
  constructor
  · intro h
    rcases h with h | h
    · obtain ⟨w, m, hw, h0, h1, -⟩ := sA y h
      exact dp_simple hG hw h0 h1
    · obtain ⟨w, m, hw, h0, h1, -⟩ := sB y h
      exact dp_simple hG hw h0 h1
  · intro ⟨v, k, hv, h0, h1, _⟩
    cases k with
    | zero => exact absurd (h0.symm.trans h1) hxy
    | succ k =>
      have h := dp_inside hG hc hv (by rw [h0]; exact hA) (by rw [h0]; exact hB) k (by omega)
      rw [h1] at h
      rcases hv.1 k (by omega) with g | g
      · exact Or.inr (h.1 (by rw [h1] at g; exact g))
      · exact Or.inl (h.2 (by rw [h1] at g; exact g))
