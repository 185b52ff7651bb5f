/-! the fresh state -/
section FR
variable {n : Nat}
theorem join_0 (u v : Int32) : mJoin (fun _ => 0) u v = 0 := by
  rw [mJoin, if_pos rfl, if_pos rfl]
theorem plI_0 (u : Nat) : ∀ k i, plI (fun _ => 0) u k i = []
  | 0, _ => rfl
  | k + 1, i => by rw [plI, if_pos (join_0 _ _), plI_0 u k (i + 1)]
theorem plO_0 : ∀ k i, plO (fun _ => 0) n k i = []
  | 0, _ => rfl
  | k + 1, i => by rw [plO, plI_0, plO_0 k (i + 1)]; rfl
theorem jcO_0 : jcO (fun _ => 0) n n 0 = 0 := by rw [← plO_len, plO_0]; rfl
theorem RelA_fresh (h2 : 2 ≤ n) (h6 : n ≤ 6) : RelA n (fun _ => 0) (fun _ => 0) (fun _ => 0) (fun _ => 0) 0 0 0 0 0 0 0 0 0 0 (-1) (fun _ => 0) (fun _ => 0) (fun _ => 0) (fun _ => 0) := by
  have hg : gRel n (fun _ => 0) (fun _ => 0) (fun _ => 0) :=
    ⟨fun a b _ _ q => absurd rfl q, fun v _ u => ⟨fun q => (by rw [b_0] at q; cases q), fun q => absurd rfl q.2⟩, fun u _ v => ⟨fun q => (by rw [b_0] at q; cases q), fun q => absurd rfl q.2⟩, fun _ => Or.inl rfl⟩
  have hr : hasRank n (fun _ => 0) := ⟨fun _ => 0, fun a b q => absurd rfl q.2.2⟩
  have hp : pRel n (fun _ => 0) (fun _ => 0) (fun _ => 0) 0 0 0 (fun _ => 0) (fun _ => 0) := by
    refine ⟨?_, by omega, ?_, ?_, fun j hj => absurd hj (Nat.not_lt_zero j)⟩
    · rw [plO_0]; rfl
    · rw [plO_0]; rfl
    · rw [plO_0]; rfl
  have h9 : (plO (fun _ => 0) n n 0).length ≤ 9 := by rw [plO_0]; exact Nat.zero_le _
  have hm := drawn_mem (mk := fun _ => 0) h6 hg hr h9 (fun _ _ => rfl)
  have hw : accB (fallN fun _ => 0) 0 (plO (fun _ => 0) n n 0) < 2 ^ 0 := by
    have h := hm.1
    rw [plO_0] at h ⊢
    exact h
  refine ⟨h2, h6, hg, hr, by rw [jcO_0]; omega, hp, ⟨fun _ => Or.inl rfl, fun a b _ _ q => absurd rfl q, fun j u v hj _ => ?_, fun t _ => ⟨b_0 t, b_0 t⟩⟩, ⟨_, hw, decide_eq_true hm.2⟩, Or.inl rfl, Or.inl rfl, fun _ => Or.inl rfl, fun _ _ => rfl⟩
  rw [plO_0] at hj
  exact absurd hj (Nat.not_lt_zero j)
end FR
