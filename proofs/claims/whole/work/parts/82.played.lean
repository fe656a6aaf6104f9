/-! ===== a row of the model's book ===== -/
theorem called_i {g : xB} {i : Nat} {c a1 a2 a3 a4 a5 : Int} {Q : Int → xB → Prop} (hi : i < 120) (hk : kOK c a1 a2 a3) (g0 : g 73 (i * 6) = c) (g1 : g 73 (i * 6 + 1) = a1) (g2 : g 73 (i * 6 + 2) = a2) (g3 : g 73 (i * 6 + 3) = a3) (g4 : g 73 (i * 6 + 4) = a4) (g5 : g 73 (i * 6 + 5) = a5) (hm : mCall g c a1 a2 a3 a4 a5 Q) : w_m_called g ((i * 6 : Nat) : Int) Q = True := by
  obtain ⟨k0, k1, k2, k3, k4, k5, k6⟩ := hk
  refine eq_true ?_
  unfold w_m_called
  rw [show xw (((i * 6 : Nat) : Int) + 1) = ((i * 6 + 1 : Nat) : Int) from (xw_id (by omega) (by omega)).trans (by omega), show xw (((i * 6 : Nat) : Int) + 2) = ((i * 6 + 2 : Nat) : Int) from (xw_id (by omega) (by omega)).trans (by omega), show xw (((i * 6 : Nat) : Int) + 3) = ((i * 6 + 3 : Nat) : Int) from (xw_id (by omega) (by omega)).trans (by omega), e_gd (by omega) (by omega), e_gd (by omega) (by omega), e_gd (by omega) (by omega), e_gd (by omega) (by omega), Int.toNat_natCast, Int.toNat_natCast, Int.toNat_natCast, Int.toNat_natCast, g0, g1, g2, g3]
  unfold mCall at hm
  by_cases c0 : c = 0
  · rw [e_t c0] at hm ⊢
    exact hm
  by_cases c1 : c = 1
  · rw [e_f c0, e_t c1] at hm ⊢
    exact hm
  by_cases c2 : c = 2
  · rw [e_f c0, e_f c1, e_t c2] at hm ⊢
    exact hm
  by_cases c3 : c = 3
  · rw [e_f c0, e_f c1, e_f c2, e_t c3] at hm ⊢
    exact hm
  by_cases c4 : c = 4
  · rw [e_f c0, e_f c1, e_f c2, e_f c3, e_t c4] at hm ⊢
    exact hm
  by_cases c5 : c = 5
  · rw [e_f c0, e_f c1, e_f c2, e_f c3, e_f c4, e_t c5] at hm ⊢
    exact hm
  by_cases c6 : c = 6
  · rw [e_f c0, e_f c1, e_f c2, e_f c3, e_f c4, e_f c5, e_t c6] at hm ⊢
    exact hm
  by_cases c7 : c = 7
  · rw [e_f c0, e_f c1, e_f c2, e_f c3, e_f c4, e_f c5, e_f c6, e_t c7] at hm ⊢
    exact hm
  by_cases c8 : c = 8
  · rw [e_f c0, e_f c1, e_f c2, e_f c3, e_f c4, e_f c5, e_f c6, e_f c7, e_t c8] at hm ⊢
    rcases k2 c8 with e | e
    · rw [e_f (by omega)]
      rw [e] at hm
      unfold w_m_called_j201
      exact hm
    · rw [e_t e]
      rw [e] at hm
      unfold w_m_called_j201
      exact hm
  by_cases c9 : c = 9
  · rw [e_f c0, e_f c1, e_f c2, e_f c3, e_f c4, e_f c5, e_f c6, e_f c7, e_f c8, e_t c9] at hm ⊢
    exact hm
  by_cases c10 : c = 10
  · rw [e_f c0, e_f c1, e_f c2, e_f c3, e_f c4, e_f c5, e_f c6, e_f c7, e_f c8, e_f c9, e_t c10] at hm ⊢
    exact hm
  by_cases c11 : c = 11
  · rw [e_f c0, e_f c1, e_f c2, e_f c3, e_f c4, e_f c5, e_f c6, e_f c7, e_f c8, e_f c9, e_f c10, e_t c11] at hm ⊢
    rw [show xw (((i * 6 : Nat) : Int) + 4) = ((i * 6 + 4 : Nat) : Int) from (xw_id (by omega) (by omega)).trans (by omega), show xw (((i * 6 : Nat) : Int) + 5) = ((i * 6 + 5 : Nat) : Int) from (xw_id (by omega) (by omega)).trans (by omega), e_gd (by omega) (by omega), e_gd (by omega) (by omega), Int.toNat_natCast, Int.toNat_natCast, g4, g5]
    exact hm
  by_cases c12 : c = 12
  · rw [e_f c0, e_f c1, e_f c2, e_f c3, e_f c4, e_f c5, e_f c6, e_f c7, e_f c8, e_f c9, e_f c10, e_f c11, e_t c12] at hm ⊢
    exact hm
  by_cases c13 : c = 13
  · rw [e_f c0, e_f c1, e_f c2, e_f c3, e_f c4, e_f c5, e_f c6, e_f c7, e_f c8, e_f c9, e_f c10, e_f c11, e_f c12, e_t c13] at hm ⊢
    exact hm
  by_cases c14 : c = 14
  · rw [e_f c0, e_f c1, e_f c2, e_f c3, e_f c4, e_f c5, e_f c6, e_f c7, e_f c8, e_f c9, e_f c10, e_f c11, e_f c12, e_f c13, e_t c14] at hm ⊢
    exact hm
  by_cases c15 : c = 15
  · rw [e_f c0, e_f c1, e_f c2, e_f c3, e_f c4, e_f c5, e_f c6, e_f c7, e_f c8, e_f c9, e_f c10, e_f c11, e_f c12, e_f c13, e_f c14, e_t c15] at hm ⊢
    exact hm
  by_cases c16 : c = 16
  · rw [e_f c0, e_f c1, e_f c2, e_f c3, e_f c4, e_f c5, e_f c6, e_f c7, e_f c8, e_f c9, e_f c10, e_f c11, e_f c12, e_f c13, e_f c14, e_f c15, e_t c16] at hm ⊢
    exact hm
  by_cases c17 : c = 17
  · rw [e_f c0, e_f c1, e_f c2, e_f c3, e_f c4, e_f c5, e_f c6, e_f c7, e_f c8, e_f c9, e_f c10, e_f c11, e_f c12, e_f c13, e_f c14, e_f c15, e_f c16, e_t c17] at hm ⊢
    exact hm
  by_cases c18 : c = 18
  · rw [e_f c0, e_f c1, e_f c2, e_f c3, e_f c4, e_f c5, e_f c6, e_f c7, e_f c8, e_f c9, e_f c10, e_f c11, e_f c12, e_f c13, e_f c14, e_f c15, e_f c16, e_f c17, e_t c18] at hm ⊢
    rcases k3 c18 with e | e
    · rw [e_f (by omega)]
      rw [e] at hm
      unfold w_m_called_j303
      exact hm
    · rw [e_t e]
      rw [e] at hm
      unfold w_m_called_j303
      exact hm
  by_cases c19 : c = 19
  · rw [e_f c0, e_f c1, e_f c2, e_f c3, e_f c4, e_f c5, e_f c6, e_f c7, e_f c8, e_f c9, e_f c10, e_f c11, e_f c12, e_f c13, e_f c14, e_f c15, e_f c16, e_f c17, e_f c18, e_t c19] at hm ⊢
    exact hm
  by_cases c20 : c = 20
  · rw [e_f c0, e_f c1, e_f c2, e_f c3, e_f c4, e_f c5, e_f c6, e_f c7, e_f c8, e_f c9, e_f c10, e_f c11, e_f c12, e_f c13, e_f c14, e_f c15, e_f c16, e_f c17, e_f c18, e_f c19, e_t c20] at hm ⊢
    rcases k4 c20 with e | e
    · rw [e_f (by omega)]
      rw [e] at hm
      unfold w_m_called_j325
      exact hm
    · rw [e_t e]
      rw [e] at hm
      unfold w_m_called_j325
      exact hm
  rw [e_f c0, e_f c1, e_f c2, e_f c3, e_f c4, e_f c5, e_f c6, e_f c7, e_f c8, e_f c9, e_f c10, e_f c11, e_f c12, e_f c13, e_f c14, e_f c15, e_f c16, e_f c17, e_f c18, e_f c19, e_f c20] at hm ⊢
  exact hm
/-- the book's rows from i on, on a board and in the model -/
def rBk (t g : xB) (N : Nat) : Prop := N ≤ 120 ∧ g 1503 0 = (N : Int) ∧ g 1504 0 = 1 ∧ ∀ i, i < N → rKr t g i
theorem rBk_c {t g g' : xB} {N : Nat} (h : rBk t g N) (hm : mS g g') : rBk t g' N := by
  have e (r : Nat) (h : r ≠ 71 ∧ r ≠ 74 ∧ r ≠ 75 ∧ r ≠ 76 ∧ r ≠ 78 ∧ r ≠ 1506 ∧ r ≠ 1507) : g' r = g r := hm r h.1 h.2.1 h.2.2.1 h.2.2.2.1 h.2.2.2.2.1 h.2.2.2.2.2.1 h.2.2.2.2.2.2
  unfold rBk rKr
  rw [e 1503 (by omega), e 1504 (by omega), e 73 (by omega)]
  exact h
theorem play1_A {t x : xB} {N : Nat} : ∀ (k i n : Nat) (b g : xB), i + k = N → rBk t g N → n + k ≤ 100000 → rB n b (g 71) → b 108 0 = bSum t i → b 108 0 ≤ 5 * (i : Int) → ∃ b' g', rB (n + k) b' (g' 71) ∧ mS g g' ∧ b' 108 0 = bSum t N ∧ b' 172 = b 172 ∧ (∀ (Q K : xB → xB → xB → Prop), K t x b' → w_T_playOn2_h28 Q K (k + 1) t x b N i) ∧ (∀ (y : xB) (Q K : xB → xB → xB → Prop), K t b' y → w_T_playOn1_h28 Q K (k + 1) t b y N i) ∧ (∀ (Q K : xB → Prop), K g' → w_m_playBook_h11 Q K (k + 1) g i)
  | 0, i, n, b, g, hi, hB, hn, h, hs, hs5 => by
    have : i = N := by omega
    subst this
    refine ⟨b, g, h, mS_rf, hs, rfl, fun Q K hK => ?_, fun y Q K hK => ?_, fun Q K hK => ?_⟩
    · rw [w_T_playOn2_h28_s, e_f (by omega)]
      exact hK
    · rw [w_T_playOn1_h28_s, e_f (by omega)]
      exact hK
    · rw [w_m_playBook_h11_s, e_f (by rw [hB.2.1]; omega)]
      exact hK
  | k + 1, i, n, b, g, hi, hB, hn, h, hs, hs5 => by
    obtain ⟨B1, B2, B3, B4⟩ := hB
    obtain ⟨r1, r2, r3⟩ := B4 i (by omega)
    have ei : (i : Int) + 1 = ((i + 1 : Nat) : Int) := by omega
    have q0 := r2 0 (by omega)
    have q1 := r2 1 (by omega)
    have q2 := r2 2 (by omega)
    have q3 := r2 3 (by omega)
    have q4 := r2 4 (by omega)
    obtain ⟨r, b1, g1, z1, z2, z3, z4, z5, z6⟩ := call_A (a4 := t 63 (i * 5 + 3)) (a5 := t 63 (i * 5 + 4)) (show n ≤ 100000 by omega) r3 h (by omega) B3
    have hs' : b1 108 0 = bSum t (i + 1) := by rw [z3, hs, bSum_s]
    have h5' : b1 108 0 ≤ 5 * ((i + 1 : Nat) : Int) := by
      rw [z3]
      by_cases c21 : t 62 i = 21
      · have := r3.2.2.2.2.2.2 c21
        rw [if_pos c21]
        omega
      · rw [if_neg c21]
        omega
    obtain ⟨b', g', y1, y2, y3, y4, y5, y6, y7⟩ := play1_A (x := x) k (i + 1) (n + 1) b1 g1 (by omega) (rBk_c ⟨B1, B2, B3, B4⟩ z2) (by omega) z1 hs' h5'
    refine ⟨b', g', by rw [show n + (k + 1) = n + 1 + k by omega]; exact y1, mS_tr z2 y2, y3, y4.trans z4, fun Q K hK => ?_, fun y Q K hK => ?_, fun Q K hK => ?_⟩
    · rw [w_T_playOn2_h28_s]
      have y5 := y5 Q K hK
      simp (disch := omega) only [e_T, e_F, e_t, e_f, e_gd, e_bg0, e_bg1, e_nz, Int.toNat_natCast, Int.toNat_add, Int.toNat_mul, xw_al, xw_ar, xw_ml, xw_mr, xw_sl, xw_sr, xw_id, x_sl_c, mc3, mc6, mc8, mc12, mc64, mc72, Nat.add_assoc, Int.reduceToNat, L_isLine_t, L_isLine_f, R_has_t, R_has_f, R_isCh_t, R_isCh_f, V_isCurve_t, V_isCurve_f, Q_isCue_t, Q_isCue_f, Q_isList_t, Q_isList_f, B_isPb_t, B_isPb_f, m_in_t, m_in_f, m_isLine_t, m_isLine_f, m_isPb_t, m_isPb_f, m_isFx_t, m_isFx_f, F_note_e, m_finds_e, Int.reduceToNat, noted_neg, up_eq, up_r, up_i, fil_in, fil_i, fil_r]
      rw [ei]
      exact z5 _ y5
    · rw [w_T_playOn1_h28_s]
      have y6 := y6 y Q K hK
      simp (disch := omega) only [e_T, e_F, e_t, e_f, e_gd, e_bg0, e_bg1, e_nz, Int.toNat_natCast, Int.toNat_add, Int.toNat_mul, xw_al, xw_ar, xw_ml, xw_mr, xw_sl, xw_sr, xw_id, x_sl_c, mc3, mc6, mc8, mc12, mc64, mc72, Nat.add_assoc, Int.reduceToNat, L_isLine_t, L_isLine_f, R_has_t, R_has_f, R_isCh_t, R_isCh_f, V_isCurve_t, V_isCurve_f, Q_isCue_t, Q_isCue_f, Q_isList_t, Q_isList_f, B_isPb_t, B_isPb_f, m_in_t, m_in_f, m_isLine_t, m_isLine_f, m_isPb_t, m_isPb_f, m_isFx_t, m_isFx_f, F_note_e, m_finds_e, Int.reduceToNat, noted_neg, up_eq, up_r, up_i, fil_in, fil_i, fil_r]
      rw [ei]
      exact z5 _ y6
    · have y7 := y7 Q K hK
      have cc := called_i (Q := fun r2 g3 => w_m_playBook_h11 Q K (k + 1) g3 ((i + 1 : Nat) : Int)) (show i < 120 by omega) r3 r1.symm q0.symm q1.symm q2.symm q3.symm q4.symm (z6 _ y7)
      rw [w_m_playBook_h11_s, e_t (by rw [B2]; omega), show xw (6 * (i : Int)) = ((i * 6 : Nat) : Int) from (xw_id (by omega) (by omega)).trans (by omega), xw_id (by omega) (by omega), ei]
      simp only [cc]
