/-! ===== back ===== -/
theorem back_A {n : Nat} {t x y g : xB} {v : Int} (hS : rS n t x g) : ∃ r t' x' g', rS (n + 130) t' x' g' ∧ fT t t' ∧ (∀ Q : Int → xB → xB → xB → Prop, Q r t' x' y → w_T_back t x y v Q) ∧ (∀ Q : Int → xB → Prop, Q r g' → w_m_back g v Q) := by
  have hS' := hS
  obtain ⟨s1, s2, s3⟩ := hS'
  have s2' := s2
  obtain ⟨h1, h2, h3, h4, h5, h6⟩ := s2'
  have ⟨T1, T2, T3, _⟩ := s1.2.2.2.2.2.2.2.2.2.1
  have hS2 : rS (n + 130) t x g := ⟨rB_le (Nat.le_add_right n 130) s1, s2, s3⟩
  by_cases hv : v < 0 ∨ 50 < v
  · refine ⟨-2, t, x, g, hS2, fun _ _ => rfl, fun Q hQ => ?_, fun Q hQ => ?_⟩
    · unfold w_T_back
      by_cases e : v < 0
      · rw [e_t e]
        exact hQ
      · rw [e_f e, e_t (by omega)]
        exact hQ
    · unfold w_m_back
      rw [m_in_f (by omega), e_t rfl]
      exact hQ
  by_cases hx : (120 : Int) < t 1322 0
  · refine ⟨-3, t, x, g, hS2, fun _ _ => rfl, fun Q hQ => ?_, fun Q hQ => ?_⟩
    · unfold w_T_back w_K_isExceeded
      rw [e_f (by omega), e_f (by omega), e_t hx]
      dsimp only
      rw [e_f (by decide)]
      exact hQ
    · unfold w_m_back
      rw [m_in_t (by omega) (by omega), e_f (by decide), e_t (by omega)]
      exact hQ
  by_cases hT : v < x 108 0
  · obtain ⟨N, hN⟩ := nat_of h2
    have h6 := h6 (by omega)
    rw [hN, Int.toNat_natCast] at h6
    obtain ⟨j, w, z1, z2, z3, z4, z5, z6, z7, z8⟩ := cut_A (t := t) (g := g) (N := N) (by omega) hN (fun i hi => h5 i (by omega) (by omega)) N 0 (x 108 0 - v) (by omega) (by omega) (by omega) (by rw [h6]; show 0 + _ ≤ _; omega)
    obtain ⟨t', ht'⟩ : ∃ t', t' = x_up (x_up t 63 (j * 5) w) 1322 0 (j + 1) := ⟨_, rfl⟩
    obtain ⟨g2, hg2⟩ : ∃ g2, g2 = x_up (x_up g 73 (j * 6 + 1) w) 1503 0 ((j + 1 : Nat) : Int) := ⟨_, rfl⟩
    have e1 : t' 1322 0 = ((j + 1 : Nat) : Int) := by
      rw [ht', up_eq]
      omega
    have hK : rK t' g2 (fun _ _ => bSum t' (j + 1)) := by
      refine ⟨by rw [e1, hg2, up_eq], by omega, by omega, by rw [hg2]; simp (disch := omega) only [up_eq, up_r, up_i, fil_in, fil_i, fil_r]; exact h4, fun i hi hij => ?_, fun _ => by rw [e1, Int.toNat_natCast]⟩
      rw [ht', hg2]
      obtain ⟨y1, y2, y3⟩ := h5 i hi (by omega)
      by_cases e : i = j
      · subst e
        have y0 := y3.2.2.2.2.2.2 z3
        refine ⟨by simp (disch := omega) only [up_eq, up_r, up_i, fil_in, fil_i, fil_r]; exact y1, fun k hk => ?_, ?_⟩
        · have : k = 0 ∨ (1 ≤ k ∧ k < 5) := by omega
          rcases this with rfl | hk2
          · simp only [Nat.add_zero]
            simp (disch := omega) only [up_eq, up_r, up_i, fil_in, fil_i, fil_r]
          · simp (disch := omega) only [up_eq, up_r, up_i, fil_in, fil_i, fil_r]
            exact y2 k hk
        · simp (disch := omega) only [up_eq, up_r, up_i, fil_in, fil_i, fil_r]
          rw [z3]
          exact ⟨by omega, by omega, fun q => absurd q (by decide), fun q => absurd q (by decide), fun q => absurd q (by decide), fun q => absurd q (by decide), fun _ => ⟨by omega, by omega⟩⟩
      · refine ⟨by simp (disch := omega) only [up_eq, up_r, up_i, fil_in, fil_i, fil_r]; exact y1, fun k hk => ?_, ?_⟩
        · simp (disch := omega) only [up_eq, up_r, up_i, fil_in, fil_i, fil_r]
          exact y2 k hk
        · simp (disch := omega) only [up_eq, up_r, up_i, fil_in, fil_i, fil_r]
          exact y3
    obtain ⟨b', g3, b1, b2, b3, b4, b5, b6, b7⟩ := bookplay_A x x hK e1 (by omega)
    have e : ∀ r, r ≠ 71 ∧ r ≠ 74 ∧ r ≠ 75 ∧ r ≠ 76 ∧ r ≠ 78 ∧ r ≠ 1506 ∧ r ≠ 1507 → g3 r = g2 r := fun r hr => b2 r hr.1 hr.2.1 hr.2.2.1 hr.2.2.2.1 hr.2.2.2.2.1 hr.2.2.2.2.2.1 hr.2.2.2.2.2.2
    refine ⟨b' 108 0, t', b', x_up g3 1511 0 0, ⟨?_, ?_, ?_⟩, ?_, fun Q hQ => ?_, fun Q hQ => ?_⟩
    · rw [upR (by omega)]
      exact rB_le (by omega) b1
    · refine rK_c hK ?_ ?_ ?_ b3
      · rw [upR (by omega), e 73 (by omega)]
      · rw [upR (by omega), e 1503 (by omega)]
      · rw [upR (by omega), e 1504 (by omega)]
    · refine ⟨by rw [b4, up_eq], by omega, by omega, fun i hi => ?_⟩
      rw [b4] at hi
      omega
    · intro r hr
      rw [ht', upR (by omega), upR (by omega)]
    · have q := b6 y (fun t4 x5 y6 => Q (x5 108 0) t4 x5 y6) hQ
      rw [ht'] at q
      have z7 := z7 (fun t3 => w_T_playOn1 t3 x y (fun t4 x5 y6 => Q (x5 108 0) t4 x5 y6)) (fun t3 => w_T_playOn1 t3 x y (fun t4 x5 y6 => Q (x5 108 0) t4 x5 y6)) q
      unfold w_T_back w_K_isExceeded w_K_cutBehind
      rw [e_f (by omega), e_f (by omega), e_f hx]
      dsimp only
      rw [e_t rfl, e_t hT, xw_id (by omega) (by omega)]
      exact z7
    · have d : b' 108 0 = g3 71 3770 := b1.2.2.2.2.2.2.2.2.2.1.1
      have q := b7 (fun g4 => Q ((x_up g4 1511 0 0) 71 3770) (x_up g4 1511 0 0)) (by rw [upR (by omega), ← d]; exact hQ)
      rw [hg2] at q
      have z8 := z8 Q (fun g3 v3_2 => w_m_playBook (x_up g3 1503 0 v3_2) (fun g4 => Q ((x_up g4 1511 0 0) 71 3770) (x_up g4 1511 0 0))) q
      unfold w_m_back
      rw [m_in_t (by omega) (by omega), e_f (by decide), e_f (by omega), xw_id (by omega) (by omega), e_f (by omega), xw_id (by omega) (by omega), ← T1]
      exact z8
  · refine ⟨-3, t, x, g, hS2, fun _ _ => rfl, fun Q hQ => ?_, fun Q hQ => ?_⟩
    · unfold w_T_back w_K_isExceeded
      rw [e_f (by omega), e_f (by omega), e_f hx]
      dsimp only
      rw [e_t rfl, e_f hT]
      exact hQ
    · unfold w_m_back
      rw [m_in_t (by omega) (by omega), e_f (by decide), e_f (by omega), xw_id (by omega) (by omega), e_t (by omega)]
      exact hQ
