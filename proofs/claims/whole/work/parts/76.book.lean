/-! ===== THE BOOK ===== -/
def kOK (c a1 a2 a3 : Int) : Prop := 0 ≤ c ∧ c ≤ 21 ∧ (c = 8 → a2 = 0 ∨ a2 = 1) ∧ (c = 18 → a3 = 0 ∨ a3 = 1) ∧ (c = 20 → a1 = 0 ∨ a1 = 1) ∧ (c = 9 → x_in a3) ∧ (c = 21 → 1 ≤ a1 ∧ a1 ≤ 5)
def bSum (t : xB) : Nat → Int
  | 0 => 0
  | i + 1 => bSum t i + (if t 62 i = 21 then t 63 (i * 5) else 0)
theorem bSum_s {t : xB} {i : Nat} : bSum t (i + 1) = bSum t i + (if t 62 i = 21 then t 63 (i * 5) else 0) := rfl
theorem bSum_c {t t' : xB} : ∀ k, (∀ i, i < k → t' 62 i = t 62 i ∧ t' 63 (i * 5) = t 63 (i * 5)) → bSum t' k = bSum t k
  | 0, _ => rfl
  | k + 1, h => by
    unfold bSum
    rw [bSum_c k (fun i hi => h i (by omega)), (h k (by omega)).1, (h k (by omega)).2]
/-- the book's rows alike -/
def rKr (t g : xB) (i : Nat) : Prop := t 62 i = g 73 (i * 6) ∧ (∀ j, j < 5 → t 63 (i * 5 + j) = g 73 (i * 6 + (1 + j))) ∧ kOK (t 62 i) (t 63 (i * 5)) (t 63 (i * 5 + 1)) (t 63 (i * 5 + 2))
def rK (t g x : xB) : Prop := t 1322 0 = g 1503 0 ∧ 0 ≤ t 1322 0 ∧ t 1322 0 ≤ 121 ∧ g 1504 0 = 0 ∧ (∀ i : Nat, i < 120 → (i : Int) < t 1322 0 → rKr t g i) ∧ (t 1322 0 ≤ 120 → x 108 0 = bSum t (t 1322 0).toNat)
theorem book_A {t g x x' : xB} {r c a1 a2 a3 a4 a5 : Int} (h : rK t g x) (hr : 0 ≤ r) (hc : kOK c a1 a2 a3) (hx : x' 108 0 = x 108 0 + (if c = 21 then a1 else 0)) : ∃ t' g', rK t' g' x' ∧ (∀ r, r ≠ 62 ∧ r ≠ 63 ∧ r ≠ 1322 → t' r = t r) ∧ (∀ r, r ≠ 73 ∧ r ≠ 1503 → g' r = g r) ∧ (∀ Q : xB → Prop, Q t' → w_K_write t c a1 a2 a3 a4 a5 Q) ∧ (∀ Q : Int → xB → Prop, Q r g' → w_m_noted g r c a1 a2 a3 a4 a5 Q) := by
  obtain ⟨h1, h2, h3, h4, h5, h6⟩ := h
  obtain ⟨k, hk⟩ := nat_of h2
  have hg : g 1503 0 = (k : Int) := by omega
  by_cases hk120 : k < 120
  · refine ⟨x_up (x_up (x_up (x_up (x_up (x_up (x_up t 62 k c) 63 (k * 5) a1) 63 (k * 5 + 1) a2) 63 (k * 5 + 2) a3) 63 (k * 5 + 3) a4) 63 (k * 5 + 4) a5) 1322 0 (k + 1), x_up (x_up (x_up (x_up (x_up (x_up (x_up g 73 (k * 6) c) 73 (k * 6 + 1) a1) 73 (k * 6 + 2) a2) 73 (k * 6 + 3) a3) 73 (k * 6 + 4) a4) 73 (k * 6 + 5) a5) 1503 0 (k + 1), ⟨?_, ?_, ?_, ?_, ?_, ?_⟩, ?_, ?_, ?_, ?_⟩
    · simp (disch := omega) only [up_eq, up_r, up_i, fil_in, fil_i, fil_r]
    · simp (disch := omega) only [up_eq, up_r, up_i, fil_in, fil_i, fil_r]
      omega
    · simp (disch := omega) only [up_eq, up_r, up_i, fil_in, fil_i, fil_r]
      omega
    · simp (disch := omega) only [up_eq, up_r, up_i, fil_in, fil_i, fil_r]
      exact h4
    · intro i hi
      simp (disch := omega) only [up_eq, up_r, up_i, fil_in, fil_i, fil_r]
      intro hik
      by_cases e : i = k
      · subst e
        refine ⟨by simp (disch := omega) only [up_eq, up_r, up_i, fil_in, fil_i, fil_r], fun j hj => ?_, ?_⟩
        · have : j = 0 ∨ j = 1 ∨ j = 2 ∨ j = 3 ∨ j = 4 := by omega
          rcases this with rfl | rfl | rfl | rfl | rfl
          · simp only [Nat.add_zero]
            simp (disch := omega) only [up_eq, up_r, up_i, fil_in, fil_i, fil_r]
          all_goals simp (disch := omega) only [up_eq, up_r, up_i, fil_in, fil_i, fil_r]
        · simp (disch := omega) only [up_eq, up_r, up_i, fil_in, fil_i, fil_r]
          exact hc
      · obtain ⟨z1, z2, z3⟩ := h5 i hi (by omega)
        refine ⟨by simp (disch := omega) only [up_eq, up_r, up_i, fil_in, fil_i, fil_r]; exact z1, fun j hj => ?_, ?_⟩
        · simp (disch := omega) only [up_eq, up_r, up_i, fil_in, fil_i, fil_r]
          exact z2 j hj
        · simp (disch := omega) only [up_eq, up_r, up_i, fil_in, fil_i, fil_r]
          exact z3
    · intro _
      have e : ∀ z : Int, z = (k : Int) + 1 → z.toNat = k + 1 := fun z hz => by omega
      rw [hx, h6 (by omega), hk, Int.toNat_natCast, e _ (by simp (disch := omega) only [up_eq, up_r, up_i, fil_in, fil_i, fil_r]), bSum_s]
      simp (disch := omega) only [up_eq, up_r, up_i, fil_in, fil_i, fil_r]
      congr 1
      exact (bSum_c k (fun i hi => ⟨by simp (disch := omega) only [up_eq, up_r, up_i, fil_in, fil_i, fil_r], by simp (disch := omega) only [up_eq, up_r, up_i, fil_in, fil_i, fil_r]⟩)).symm
    · intro r hr
      rw [upR (by omega), upR (by omega), upR (by omega), upR (by omega), upR (by omega), upR (by omega), upR (by omega)]
    · intro r hr
      rw [upR (by omega), upR (by omega), upR (by omega), upR (by omega), upR (by omega), upR (by omega), upR (by omega)]
    · intro Q hQ
      simp (disch := omega) only [w_K_write, w_K_write_j78, w_J_min, hk, e_T, e_F, e_t, e_f, e_gd, e_bg0, e_bg1, e_nz, Int.toNat_natCast, Int.toNat_add, Int.toNat_mul, xw_al, xw_ar, xw_ml, xw_mr, xw_sl, xw_sr, xw_id, x_sl_c, mc3, mc6, mc8, mc12, mc64, mc72, Nat.add_assoc, Int.reduceToNat, L_isLine_t, L_isLine_f, R_has_t, R_has_f, R_isCh_t, R_isCh_f, V_isCurve_t, V_isCurve_f, Q_isCue_t, Q_isCue_f, Q_isList_t, Q_isList_f, B_isPb_t, B_isPb_f, m_in_t, m_in_f, m_isLine_t, m_isLine_f, m_isPb_t, m_isPb_f, m_isFx_t, m_isFx_f, F_note_e, m_finds_e, Int.reduceToNat, noted_neg, up_eq, up_r, up_i, fil_in, fil_i, fil_r]
      exact hQ
    · intro Q hQ
      simp (disch := omega) only [w_m_noted, w_m_noted_j93, hg, e_T, e_F, e_t, e_f, e_gd, e_bg0, e_bg1, e_nz, Int.toNat_natCast, Int.toNat_add, Int.toNat_mul, xw_al, xw_ar, xw_ml, xw_mr, xw_sl, xw_sr, xw_id, x_sl_c, mc3, mc6, mc8, mc12, mc64, mc72, Nat.add_assoc, Int.reduceToNat, L_isLine_t, L_isLine_f, R_has_t, R_has_f, R_isCh_t, R_isCh_f, V_isCurve_t, V_isCurve_f, Q_isCue_t, Q_isCue_f, Q_isList_t, Q_isList_f, B_isPb_t, B_isPb_f, m_in_t, m_in_f, m_isLine_t, m_isLine_f, m_isPb_t, m_isPb_f, m_isFx_t, m_isFx_f, F_note_e, m_finds_e, Int.reduceToNat, noted_neg, up_eq, up_r, up_i, fil_in, fil_i, fil_r]
      exact hQ
  · obtain ⟨k', hk', hk2⟩ : ∃ k' : Int, k' = 121 ∧ True := ⟨121, rfl, trivial⟩
    refine ⟨x_up t 1322 0 121, x_up g 1503 0 121, ⟨?_, ?_, ?_, ?_, ?_, ?_⟩, ?_, ?_, ?_, ?_⟩
    · simp (disch := omega) only [up_eq, up_r, up_i, fil_in, fil_i, fil_r]
    · simp (disch := omega) only [up_eq, up_r, up_i, fil_in, fil_i, fil_r]
      omega
    · simp (disch := omega) only [up_eq, up_r, up_i, fil_in, fil_i, fil_r]
      omega
    · simp (disch := omega) only [up_eq, up_r, up_i, fil_in, fil_i, fil_r]
      exact h4
    · intro i hi _
      obtain ⟨z1, z2, z3⟩ := h5 i hi (by omega)
      refine ⟨by simp (disch := omega) only [up_eq, up_r, up_i, fil_in, fil_i, fil_r]; exact z1, fun j hj => ?_, ?_⟩
      · simp (disch := omega) only [up_eq, up_r, up_i, fil_in, fil_i, fil_r]
        exact z2 j hj
      · simp (disch := omega) only [up_eq, up_r, up_i, fil_in, fil_i, fil_r]
        exact z3
    · simp (disch := omega) only [up_eq, up_r, up_i, fil_in, fil_i, fil_r]
      intro z
      omega
    · intro r hr
      rw [upR (by omega)]
    · intro r hr
      rw [upR (by omega)]
    · intro Q hQ
      have : k = 120 ∨ k = 121 := by omega
      rcases this with rfl | rfl
      · simp (disch := omega) only [w_K_write, w_K_write_j78, w_J_min, hk, e_T, e_F, e_t, e_f, e_gd, e_bg0, e_bg1, e_nz, Int.toNat_natCast, Int.toNat_add, Int.toNat_mul, xw_al, xw_ar, xw_ml, xw_mr, xw_sl, xw_sr, xw_id, x_sl_c, mc3, mc6, mc8, mc12, mc64, mc72, Nat.add_assoc, Int.reduceToNat, L_isLine_t, L_isLine_f, R_has_t, R_has_f, R_isCh_t, R_isCh_f, V_isCurve_t, V_isCurve_f, Q_isCue_t, Q_isCue_f, Q_isList_t, Q_isList_f, B_isPb_t, B_isPb_f, m_in_t, m_in_f, m_isLine_t, m_isLine_f, m_isPb_t, m_isPb_f, m_isFx_t, m_isFx_f, F_note_e, m_finds_e, Int.reduceToNat, noted_neg, up_eq, up_r, up_i, fil_in, fil_i, fil_r]
        exact hQ
      · simp (disch := omega) only [w_K_write, w_K_write_j78, w_J_min, hk, e_T, e_F, e_t, e_f, e_gd, e_bg0, e_bg1, e_nz, Int.toNat_natCast, Int.toNat_add, Int.toNat_mul, xw_al, xw_ar, xw_ml, xw_mr, xw_sl, xw_sr, xw_id, x_sl_c, mc3, mc6, mc8, mc12, mc64, mc72, Nat.add_assoc, Int.reduceToNat, L_isLine_t, L_isLine_f, R_has_t, R_has_f, R_isCh_t, R_isCh_f, V_isCurve_t, V_isCurve_f, Q_isCue_t, Q_isCue_f, Q_isList_t, Q_isList_f, B_isPb_t, B_isPb_f, m_in_t, m_in_f, m_isLine_t, m_isLine_f, m_isPb_t, m_isPb_f, m_isFx_t, m_isFx_f, F_note_e, m_finds_e, Int.reduceToNat, noted_neg, up_eq, up_r, up_i, fil_in, fil_i, fil_r]
        exact hQ
    · intro Q hQ
      have : k = 120 ∨ k = 121 := by omega
      rcases this with rfl | rfl
      · simp (disch := omega) only [w_m_noted, w_m_noted_j93, hg, e_T, e_F, e_t, e_f, e_gd, e_bg0, e_bg1, e_nz, Int.toNat_natCast, Int.toNat_add, Int.toNat_mul, xw_al, xw_ar, xw_ml, xw_mr, xw_sl, xw_sr, xw_id, x_sl_c, mc3, mc6, mc8, mc12, mc64, mc72, Nat.add_assoc, Int.reduceToNat, L_isLine_t, L_isLine_f, R_has_t, R_has_f, R_isCh_t, R_isCh_f, V_isCurve_t, V_isCurve_f, Q_isCue_t, Q_isCue_f, Q_isList_t, Q_isList_f, B_isPb_t, B_isPb_f, m_in_t, m_in_f, m_isLine_t, m_isLine_f, m_isPb_t, m_isPb_f, m_isFx_t, m_isFx_f, F_note_e, m_finds_e, Int.reduceToNat, noted_neg, up_eq, up_r, up_i, fil_in, fil_i, fil_r]
        exact hQ
      · simp (disch := omega) only [w_m_noted, w_m_noted_j93, hg, e_T, e_F, e_t, e_f, e_gd, e_bg0, e_bg1, e_nz, Int.toNat_natCast, Int.toNat_add, Int.toNat_mul, xw_al, xw_ar, xw_ml, xw_mr, xw_sl, xw_sr, xw_id, x_sl_c, mc3, mc6, mc8, mc12, mc64, mc72, Nat.add_assoc, Int.reduceToNat, L_isLine_t, L_isLine_f, R_has_t, R_has_f, R_isCh_t, R_isCh_f, V_isCurve_t, V_isCurve_f, Q_isCue_t, Q_isCue_f, Q_isList_t, Q_isList_f, B_isPb_t, B_isPb_f, m_in_t, m_in_f, m_isLine_t, m_isLine_f, m_isPb_t, m_isPb_f, m_isFx_t, m_isFx_f, F_note_e, m_finds_e, Int.reduceToNat, noted_neg, up_eq, up_r, up_i, fil_in, fil_i, fil_r]
        exact hQ
