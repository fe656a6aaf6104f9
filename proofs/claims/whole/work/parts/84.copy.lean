/-! ===== the model keeps its array aside ===== -/
theorem cp14 : ∀ (k v : Nat) (g : xB), v + k = 3779 → ∃ g', (∀ r, r ≠ 72 → g' r = g r) ∧ (∀ i, v ≤ i → i < 3779 → g' 72 i = g 71 i) ∧ (∀ i, i < v → g' 72 i = g 72 i) ∧ ∀ (Q : Int → xB → Prop) (K : xB → Prop), K g' → w_m_replay_h14 Q K (k + 1) g v
  | 0, v, g, hv => by
    refine ⟨g, fun _ _ => rfl, fun i h1 h2 => by omega, fun _ _ => rfl, fun Q K hK => ?_⟩
    rw [w_m_replay_h14_s, e_f (by omega)]
    exact hK
  | k + 1, v, g, hv => by
    obtain ⟨g', z1, z2, z3, z4⟩ := cp14 k (v + 1) (x_up g 72 v (g 71 v)) (by omega)
    refine ⟨g', fun r hr => by rw [z1 r hr, upR hr], fun i h1 h2 => ?_, fun i hi => ?_, fun Q K hK => ?_⟩
    · by_cases e : i = v
      · subst e
        rw [z3 i (by omega), up_eq]
      · rw [z2 i (by omega) h2]
        simp (disch := omega) only [up_eq, up_r, up_i, fil_in, fil_i, fil_r]
    · rw [z3 i (by omega)]
      simp (disch := omega) only [up_eq, up_r, up_i, fil_in, fil_i, fil_r]
    · rw [w_m_replay_h14_s, e_t (by omega), e_gd (by omega) (by omega), e_gd (by omega) (by omega), Int.toNat_natCast, xw_id (by omega) (by omega), show (v : Int) + 1 = ((v + 1 : Nat) : Int) by omega]
      exact z4 Q K hK
theorem cp54 : ∀ (k v : Nat) (g : xB), v + k = 3779 → ∃ g', (∀ r, r ≠ 71 → g' r = g r) ∧ (∀ i, v ≤ i → i < 3779 → g' 71 i = g 72 i) ∧ (∀ i, i < v → g' 71 i = g 71 i) ∧ ∀ (Q : Int → xB → Prop) (K : xB → Int → Prop) (a : Int), K g' a → w_m_replay_h54 Q K (k + 1) g a v
  | 0, v, g, hv => by
    refine ⟨g, fun _ _ => rfl, fun i h1 h2 => by omega, fun _ _ => rfl, fun Q K a hK => ?_⟩
    rw [w_m_replay_h54_s, e_f (by omega)]
    exact hK
  | k + 1, v, g, hv => by
    obtain ⟨g', z1, z2, z3, z4⟩ := cp54 k (v + 1) (x_up g 71 v (g 72 v)) (by omega)
    refine ⟨g', fun r hr => by rw [z1 r hr, upR hr], fun i h1 h2 => ?_, fun i hi => ?_, fun Q K a hK => ?_⟩
    · by_cases e : i = v
      · subst e
        rw [z3 i (by omega), up_eq]
      · rw [z2 i (by omega) h2]
        simp (disch := omega) only [up_eq, up_r, up_i, fil_in, fil_i, fil_r]
    · rw [z3 i (by omega)]
      simp (disch := omega) only [up_eq, up_r, up_i, fil_in, fil_i, fil_r]
    · rw [w_m_replay_h54_s, e_t (by omega), e_gd (by omega) (by omega), e_gd (by omega) (by omega), Int.toNat_natCast, xw_id (by omega) (by omega), show (v : Int) + 1 = ((v + 1 : Nat) : Int) by omega]
      exact z4 Q K a hK
