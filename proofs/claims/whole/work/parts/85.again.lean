/-! ===== replay ===== -/
theorem rB_s {n : Nat} {b : xB} {s s' : Nat → Int} (h : rB n b s) (e : ∀ i, i < 3779 → s' i = s i) : rB n b s' := by
  obtain ⟨hF, hL, hR, hP, hV, hQ, hY, hE, hX, hT, hW⟩ := h
  refine ⟨fun f h1 h2 => by rw [e _ (by omega)]; exact hF f h1 h2, rL_c hL rfl rfl rfl rfl rfl rfl (fun i hi => e i (by omega)), rR_c hR rfl rfl rfl rfl rfl rfl rfl rfl rfl (fun i hi => e i (by omega)), rP_c hP rfl rfl rfl rfl rfl rfl rfl (fun i hi => e i (by omega)), rV_c hV rfl rfl rfl rfl rfl (fun i _ hi => e i (by omega)), rQ_c hQ rfl rfl rfl rfl rfl rfl rfl rfl (Int.le_refl _) (fun i _ hi => e i (by omega)), rY_c hY rfl rfl rfl rfl rfl rfl rfl rfl rfl rfl rfl rfl rfl (fun _ _ => Int.le_refl _) (Int.le_refl _) (Int.le_refl _) (fun _ _ => rfl) (Int.le_refl _) (fun i _ _ hi => e i (by omega)), fun p hp => by rw [e _ (by omega), e _ (by omega)]; exact hE p hp, rX_c hX rfl rfl rfl rfl rfl (Int.le_refl _) (fun _ _ => rfl) (fun i hi => e i (by omega)), ?_, ?_⟩
  · unfold rT
    rw [e 3770 (by omega), e 3771 (by omega)]
    exact hT
  · unfold rW
    rw [e 3766 (by omega), e 3767 (by omega)]
    exact hW
theorem replay_A {n : Nat} {t x y g : xB} (hS : rS n t x g) : ∃ r y' g', rS (n + 1) t x g' ∧ (∀ Q : Int → xB → xB → xB → Prop, Q r t x y' → w_T_replay t x y Q) ∧ (∀ Q : Int → xB → Prop, Q r g' → w_m_replay g Q) := by
  obtain ⟨s1, s2, s3⟩ := hS
  have s2' := s2
  obtain ⟨h1, h2, h3, h4, h5, h6⟩ := s2'
  by_cases hx : (120 : Int) < t 1322 0
  · refine ⟨-3, y, g, ⟨rB_le (Nat.le_succ n) s1, s2, s3⟩, fun Q hQ => ?_, fun Q hQ => ?_⟩
    · unfold w_T_replay w_K_isExceeded
      rw [e_t hx]
      dsimp only
      rw [e_f (by decide)]
      exact hQ
    · unfold w_m_replay
      rw [e_t (by omega)]
      exact hQ
  · obtain ⟨N, hN⟩ := nat_of h2
    obtain ⟨g1, a1, a2, a3, a4⟩ := cp14 3779 0 g (by omega)
    have hK1 : rK t g1 x := rK_c s2 (a1 73 (by omega)) (a1 1503 (by omega)) (a1 1504 (by omega)) rfl
    obtain ⟨y', g2, b1, b2, b3, b4, b5, b6, b7⟩ := bookplay_A x y hK1 hN (by omega)
    obtain ⟨g3, c1, c2, c3, c4⟩ := cp54 3779 0 g2 (by omega)
    have e : ∀ r, r ≠ 71 ∧ r ≠ 72 ∧ r ≠ 74 ∧ r ≠ 75 ∧ r ≠ 76 ∧ r ≠ 78 ∧ r ≠ 1506 ∧ r ≠ 1507 → g3 r = g r := by
      intro r hr
      rw [c1 r (by omega), b2 r (by omega) (by omega) (by omega) (by omega) (by omega) (by omega) (by omega), a1 r (by omega)]
    have e71 : ∀ i, i < 3779 → g3 71 i = g 71 i := by
      intro i hi
      rw [c2 i (by omega) hi, b2 72 (by omega) (by omega) (by omega) (by omega) (by omega) (by omega) (by omega), a2 i (by omega) hi]
    refine ⟨y' 109 0, y', g3, ⟨rB_le (Nat.le_succ n) (rB_s s1 e71), rK_c s2 (e 73 (by omega)) (e 1503 (by omega)) (e 1504 (by omega)) rfl, rTr_c s3 rfl rfl (e 1511 (by omega)) (e 77 (by omega))⟩, fun Q hQ => ?_, fun Q hQ => ?_⟩
    · unfold w_T_replay w_K_isExceeded
      rw [e_f hx]
      dsimp only
      rw [e_t rfl]
      exact b5 _ hQ
    · have d : y' 109 0 = g2 71 3771 := b1.2.2.2.2.2.2.2.2.2.1.2.2.2
      unfold w_m_replay
      rw [e_f (by omega)]
      refine ⟨3779 + 1, a4 Q _ (b7 _ ⟨3779 + 1, c4 Q _ _ ?_⟩)⟩
      rw [← d]
      exact hQ
