/-! what the walks need of the pure functions -/
theorem hz_holds (a b : Int32) : hHolds a b = 0 ∨ hHolds a b = 1 := by
  unfold hHolds
  by_cases h : (a >>> (b &&& 31)) &&& 1 = 0
  · rw [if_pos h]; exact Or.inl rfl
  · rw [if_neg h]; exact Or.inr rfl
theorem xNode_in {n : Nat} {v : Int32} (hn : n ≤ 6) (h : ¬ xNode n v = 0) : vp_in v n := by
  unfold xNode at h
  rcases pk_ix v (n := n) (by omega) with a | a | ⟨j, hj, rfl⟩
  · rw [if_pos a] at h; exact absurd rfl h
  · by_cases b : v < 0
    · rw [if_pos b] at h; exact absurd rfl h
    · rw [if_neg b, if_pos a] at h; exact absurd rfl h
  · exact vp_in_nI hj (by omega)
theorem xPair_in {n : Nat} {u v : Int32} (hn : n ≤ 6) (h : ¬ xPair n u v = 0) : vp_in u n ∧ vp_in v n ∧ u ≠ v := by
  unfold xPair at h
  by_cases a : xNode n u = 0
  · rw [if_pos a] at h; exact absurd rfl h
  · by_cases b : xNode n v = 0
    · rw [if_neg a, if_pos b] at h; exact absurd rfl h
    · by_cases c : u = v
      · rw [if_neg a, if_neg b, if_pos c] at h; exact absurd rfl h
      · exact ⟨xNode_in hn a, xNode_in hn b, c⟩
theorem xDrawn_in {n : Nat} {fp : Nat → Int32} {u v : Int32} (hn : n ≤ 6) (h : ¬ xDrawn n fp u v = 0) : vp_in u n ∧ vp_in v n ∧ u ≠ v := by
  refine xPair_in hn (fun a => ?_)
  unfold xDrawn at h
  rw [if_pos a] at h; exact absurd rfl h
