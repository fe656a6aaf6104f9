/-! ===== the act TICK ===== -/
def aT (n : Nat) (b g : xB) (w m : (Int → xB → Prop) → Prop) (v : Int) : Prop :=
  ∃ r b' g', (∀ Q, Q r b' → w Q) ∧ (∀ Q, w_m_noted g' r 21 v 0 0 0 0 Q → m Q) ∧ pO n b g b' g' ∧ ((r < 0 ∧ b' 108 = b 108 ∧ ¬ (1 ≤ v ∧ v ≤ 5 ∧ b 108 0 + v ≤ 2000)) ∨ (0 ≤ r ∧ b' 108 0 = b 108 0 + v ∧ 1 ≤ v ∧ v ≤ 5))
theorem ticks_A {n : Int} {v : Nat} (hn : n ≤ 200000) (hv : v ≤ 5) : ∀ (k i : Nat) (M : Int) (b g : xB), i + k = v → rG M n b (g 71) → rE b (g 71) → rT b (g 71) → b 108 0 + (k : Int) ≤ 2000 → 0 ≤ M → M + 10368 * (k : Int) ≤ 900000000 → ∃ b' g', rG (M + 10368 * (k : Int)) n b' (g' 71) ∧ rE b' (g' 71) ∧ rT b' (g' 71) ∧ b' 108 0 = b 108 0 + (k : Int) ∧ mS g g' ∧ b' 172 = b 172 ∧ b' 24 = b 24 ∧ (∀ (Q : Int → xB → Prop) (K : xB → Prop), K b' → w_B_runTicks_h30 Q K (k + 1) b v i) ∧ (∀ (Q : Int → xB → Prop) (K : xB → Int → Prop), K g' v → w_m_tick_h33 Q K (k + 1) g v i)
  | 0, i, M, b, g, hi, h, hE, hT, h2, hM0, hM => by
    refine ⟨b, g, rG_le h (by omega), hE, hT, by omega, mS_rf, rfl, rfl, fun Q K hK => ?_, fun Q K hK => ?_⟩
    · rw [w_B_runTicks_h30_s, e_f (by omega)]
      exact hK
    · rw [w_m_tick_h33_s, e_f (by omega)]
      exact hK
  | k + 1, i, M, b, g, hi, h, hE, hT, h2, hM0, hM => by
    have ei : (i : Int) + 1 = ((i + 1 : Nat) : Int) := by omega
    obtain ⟨b1, g1, x1, x2, x3, x4, x5, x6, x7, x8, x9⟩ := tick_A hn h hE hT (by omega) hM0 (by omega)
    obtain ⟨b', g', y1, y2, y3, y4, y5, y6, y7, y8, y9⟩ := ticks_A hn hv k (i + 1) (M + 10368) b1 g1 (by omega) x1 x2 x3 (by omega) (by omega) (by omega)
    refine ⟨b', g', rG_le y1 (by omega), y2, y3, by omega, mS_tr x5 y5, y6.trans x6, y7.trans x7, fun Q K hK => ?_, fun Q K hK => ?_⟩
    · refine x8 Q K (k + 1) v i (by omega) (by omega) (by omega) ?_
      rw [ei]
      exact y8 Q K hK
    · rw [w_m_tick_h33_s, e_t (by omega), xw_id (by omega) (by omega), ei]
      exact x9 _ (y9 Q K hK)
theorem a_tick {n : Nat} {b g : xB} {v : Int} (hn : n ≤ 100000) (h : rB n b (g 71)) : aT n b g (w_B_runTicks b v) (w_m_tick g v) v := by
  have hE := h.2.2.2.2.2.2.2.1
  have hT := h.2.2.2.2.2.2.2.2.2.1
  by_cases hv : 1 ≤ v ∧ v ≤ 5
  · by_cases h2 : (2000 : Int) < b 108 0 + v
    · refine ⟨-4, b, g, fun Q hQ => ?_, fun Q hQ => ?_, ⟨rB_le (by omega) h, mS_rf, rfl, rfl⟩, Or.inl ⟨by omega, rfl, by omega⟩⟩
      · unfold w_B_runTicks
        rw [e_f (by omega), e_f (by omega), e_t (by rw [xw_id (by have := hT.2.1; omega) (by have := hT.2.2.1; omega)]; exact h2)]
        exact hQ
      · rw [noted_neg (by omega)] at hQ
        unfold w_m_tick
        rw [m_in_t (by omega) (by omega), e_f (by decide), e_t (by rw [← hT.1, xw_id (by have := hT.2.1; omega) (by have := hT.2.2.1; omega)]; exact h2)]
        exact hQ
    · obtain ⟨V, rfl⟩ := nat_of (l := v) (by omega)
      have hT1 := hT.2.1
      have hT2 := hT.2.2.1
      obtain ⟨b', g', y1, y2, y3, y4, y5, y6, y7, y8, y9⟩ := ticks_A (v := V) (n := (n : Int)) (by omega) (by omega) V 0 _ b g (by omega) (rB_G h) hE hT (by omega) (by omega) (by omega)
      refine ⟨b' 108 0, b', g', fun Q hQ => ?_, fun Q hQ => ?_, ⟨rB_le (by omega) (rG_B y1 (by omega) y2 y3), y5, y6, y7⟩, Or.inr ⟨by omega, y4, by omega, by omega⟩⟩
      · unfold w_B_runTicks
        rw [e_f (by omega), e_f (by omega), e_f (by rw [xw_id (by omega) (by omega)]; exact h2)]
        exact ⟨V + 1, y8 Q _ hQ⟩
      · unfold w_m_tick
        rw [m_in_t (by omega) (by omega), e_f (by decide), e_f (by rw [← hT.1, xw_id (by omega) (by omega)]; exact h2)]
        refine ⟨V + 1, y9 Q _ ?_⟩
        rw [← y3.1]
        exact hQ
  · refine ⟨-2, b, g, fun Q hQ => ?_, fun Q hQ => ?_, ⟨rB_le (by omega) h, mS_rf, rfl, rfl⟩, Or.inl ⟨by omega, rfl, by omega⟩⟩
    · unfold w_B_runTicks
      by_cases e : v < 1
      · rw [e_t e]
        exact hQ
      · rw [e_f e, e_t (by omega)]
        exact hQ
    · rw [noted_neg (by omega)] at hQ
      unfold w_m_tick
      rw [m_in_f (by omega), e_t rfl]
      exact hQ
