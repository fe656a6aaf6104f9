/-! ===== the book played from the beginning ===== -/
theorem bookplay_A {t g X : xB} {N : Nat} (x b : xB) (hK : rK t g X) (hN : t 1322 0 = (N : Int)) (hN2 : N ≤ 120) : ∃ b' g', rB N b' (g' 71) ∧ mS g g' ∧ b' 108 0 = bSum t N ∧ b' 172 0 = 0 ∧ (∀ Q : xB → xB → xB → Prop, Q t x b' → w_T_playOn2 t x b Q) ∧ (∀ (y : xB) (Q : xB → xB → xB → Prop), Q t b' y → w_T_playOn1 t b y Q) ∧ (∀ Q : xB → Prop, Q g' → w_m_playBook g Q) := by
  obtain ⟨b0, c1, c2⟩ := clear_A b
  obtain ⟨g0, d1, d2, d3⟩ := begin_A g
  obtain ⟨h1, h2, h3, h4, h5, h6⟩ := hK
  have hB : rBk t (x_up g0 1504 0 1) N := by
    refine ⟨hN2, ?_, by simp (disch := omega) only [up_eq, up_r, up_i, fil_in, fil_i, fil_r], fun i hi => ?_⟩
    · rw [upR (by omega), d1 1503 (by omega), ← h1]
      exact hN
    · unfold rKr
      rw [upR (by omega), d1 73 (by omega)]
      exact h5 i (by omega) (by omega)
  have h0 : rB 0 b0 (x_up g0 1504 0 1 71) := rB_0 c1 (fun i hi => by rw [upR (by omega)]; exact d2 i hi)
  have e108 : b0 108 0 = 0 := c1.2.2.2.2.2.2.2.2.2.2.2.2.1
  have e172 : b0 172 0 = 0 := c1.2.2.1.2.2.1
  obtain ⟨b', g', y1, y2, y3, y4, y5, y6, y7⟩ := play1_A (t := t) (x := x) (N := N) N 0 0 b0 (x_up g0 1504 0 1) (by omega) hB (by omega) h0 e108 (by omega)
  refine ⟨b', x_up g' 1504 0 0, ?_, fun r a1 a2 a3 a4 a5 a6 a7 => ?_, y3, by rw [y4]; exact e172, fun Q hQ => ?_, fun y Q hQ => ?_, fun Q hQ => ?_⟩
  · rw [upR (by omega)]
    rw [Nat.zero_add] at y1
    exact y1
  · by_cases e : r = 1504
    · subst e
      funext j
      by_cases ej : j = 0
      · subst ej
        rw [up_eq, h4]
      · rw [up_i ej, y2 1504 (by omega) (by omega) (by omega) (by omega) (by omega) (by omega) (by omega), up_i ej, d1 1504 (by omega)]
    · rw [upR e, y2 r a1 a2 a3 a4 a5 a6 a7, upR e, d1 r a1]
  · refine c2 _ ?_
    unfold w_J_min
    rw [hN, e_f (by omega)]
    exact ⟨N + 1, y5 Q _ hQ⟩
  · refine c2 _ ?_
    unfold w_J_min
    rw [hN, e_f (by omega)]
    exact ⟨N + 1, y6 y Q _ hQ⟩
  · exact d3 _ ⟨N + 1, y7 Q _ hQ⟩
