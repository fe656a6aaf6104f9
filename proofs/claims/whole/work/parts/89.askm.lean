/-! ===== ASKS: the model's marks ===== -/
def mT (g0 g : xB) (P : Nat) (L : List Nat) : Prop := (∀ r, r ≠ 75 → r ≠ 76 → r ≠ 77 → r ≠ 1507 → r ≠ 1511 → g r = g0 r) ∧ g 1507 0 = (P : Int) ∧ g 1511 0 = (L.length : Int) ∧ wrL 77 g L
/-- the pile below P is kept -/
def pK (g g' : xB) (P : Nat) : Prop := ∀ j, j < P → g' 75 j = g 75 j ∧ g' 76 j = g 76 j
theorem m_by_A {g0 g : xB} {P : Nat} {L : List Nat} {m : Nat} (hc : mT g0 g P L) (hl : L.length < 475) : ∃ g', mT g0 g' P (L ++ [m]) ∧ g' 75 = g 75 ∧ g' 76 = g 76 ∧ ∀ (v : Int) (Q : Int → xB → Prop), Q v g' → w_m_by g m v Q = True := by
  obtain ⟨c1, c2, c3, c4⟩ := hc
  refine ⟨x_up (x_up g 77 L.length m) 1511 0 (L.length + 1), ⟨fun r h1 h2 h3 h4 h5 => by rw [upR h5, upR h3]; exact c1 r h1 h2 h3 h4 h5, by simp (disch := omega) only [up_eq, up_r, up_i, fil_in, fil_i, fil_r]; exact c2, by rw [len1, up_eq]; omega, wrL_push c4 (fun j hj => by simp (disch := omega) only [up_eq, up_r, up_i, fil_in, fil_i, fil_r]) (by simp (disch := omega) only [up_eq, up_r, up_i, fil_in, fil_i, fil_r])⟩, by rw [upR (by omega), upR (by omega)], by rw [upR (by omega), upR (by omega)], fun v Q hQ => eq_true ?_⟩
  unfold w_m_by
  simp (disch := omega) only [c3, e_T, e_F, e_t, e_f, e_gd, e_bg0, e_bg1, e_nz, Int.toNat_natCast, Int.toNat_add, Int.toNat_mul, xw_al, xw_ar, xw_ml, xw_mr, xw_sl, xw_sr, xw_id, x_sl_c, mc3, mc6, mc8, mc12, mc64, mc72, Nat.add_assoc, Int.reduceToNat, L_isLine_t, L_isLine_f, R_has_t, R_has_f, R_isCh_t, R_isCh_f, V_isCurve_t, V_isCurve_f, Q_isCue_t, Q_isCue_f, Q_isList_t, Q_isList_f, B_isPb_t, B_isPb_f, m_in_t, m_in_f, m_isLine_t, m_isLine_f, m_isPb_t, m_isPb_f, m_isFx_t, m_isFx_f, F_note_e, m_finds_e, Int.reduceToNat, noted_neg, up_eq, up_r, up_i, fil_in, fil_i, fil_r]
  exact hQ
/-- one that is no GROUP -/
theorem m_span1_A {g0 g : xB} {P f : Nat} {k : Int} {L : List Nat} (hf : f < 24) (hk : g0 71 (278 + f) = k) (h0 : 0 ≤ k) (h3 : k ≤ 3) (hc : mT g0 g P L) (hl : (L ++ tr1 k).length ≤ 475) : ∃ g', mT g0 g' P (L ++ tr1 k) ∧ g' 75 = g 75 ∧ g' 76 = g 76 ∧ ∀ Q : Int → xB → Prop, Q (svL (tr1 k)) g' → w_m_span g f Q = True := by
  have e278 : g 71 (278 + f) = k := by rw [hc.1 71 (by omega) (by omega) (by omega) (by omega) (by omega)]; exact hk
  have ix : xw (278 + (f : Int)) = ((278 + f : Nat) : Int) := (xw_id (by omega) (by omega)).trans (by omega)
  by_cases k1 : k = 1
  · have e : tr1 k = [2] ++ [1] := if_pos k1
    rw [e, ← List.append_assoc] at hl ⊢
    rw [len1, len1] at hl
    obtain ⟨b1, x1, x2, x3, x4⟩ := m_by_A (m := 2) hc (by omega)
    obtain ⟨b2, y1, y2, y3, y4⟩ := m_by_A (m := 1) x1 (by rw [len1]; omega)
    refine ⟨b2, y1, y2.trans x2, y3.trans x3, fun Q hQ => eq_true ?_⟩
    have e0 : svL ([2] ++ [1]) = xw ((1 : Int) + 1) := (xw_id (z := (1 : Int) + 1) (by omega) (by omega)).symm
    rw [e0] at hQ
    have e2 := y4 1 (fun r12 g13 => Q (xw (1 + r12)) g13) hQ
    have e1 := x4 1 (fun r10 g11 => w_m_by g11 1 1 (fun r12 g13 => Q (xw (r10 + r12)) g13)) (of_eq_true e2)
    unfold w_m_span w_m_kindOf
    rw [ix, Int.toNat_natCast, e_gd (by omega) (by omega), e278]
    dsimp only
    rw [e_f (by omega), e_t k1]
    exact of_eq_true e1
  by_cases k2 : k = 2
  · have e : tr1 k = [3] := (if_neg k1).trans (if_pos k2)
    rw [e] at hl ⊢
    rw [len1] at hl
    obtain ⟨b1, x1, x2, x3, x4⟩ := m_by_A (m := 3) hc (by omega)
    refine ⟨b1, x1, x2, x3, fun Q hQ => eq_true ?_⟩
    have e1 := x4 5 (fun r8 g9 => Q r8 g9) hQ
    unfold w_m_span w_m_kindOf
    rw [ix, Int.toNat_natCast, e_gd (by omega) (by omega), e278]
    dsimp only
    rw [e_f (by omega), e_f k1, e_t k2]
    exact of_eq_true e1
  by_cases k3 : k = 3
  · have e : tr1 k = [4] := (if_neg k1).trans ((if_neg k2).trans (if_pos k3))
    rw [e] at hl ⊢
    rw [len1] at hl
    obtain ⟨b1, x1, x2, x3, x4⟩ := m_by_A (m := 4) hc (by omega)
    refine ⟨b1, x1, x2, x3, fun Q hQ => eq_true ?_⟩
    have e1 := x4 3 (fun r8 g9 => Q r8 g9) hQ
    unfold w_m_span w_m_kindOf
    rw [ix, Int.toNat_natCast, e_gd (by omega) (by omega), e278]
    dsimp only
    rw [e_f (by omega), e_f k1, e_f k2, e_t k3]
    exact of_eq_true e1
  · have e : tr1 k = [1] := (if_neg k1).trans ((if_neg k2).trans (if_neg k3))
    rw [e] at hl ⊢
    rw [len1] at hl
    obtain ⟨b1, x1, x2, x3, x4⟩ := m_by_A (m := 1) hc (by omega)
    refine ⟨b1, x1, x2, x3, fun Q hQ => eq_true ?_⟩
    have e1 := x4 1 (fun r8 g9 => Q r8 g9) hQ
    unfold w_m_span w_m_kindOf
    rw [ix, Int.toNat_natCast, e_gd (by omega) (by omega), e278]
    dsimp only
    rw [e_t (by omega)]
    exact of_eq_true e1
/-- a GROUP: put on the pile -/
theorem m_spanG_A {g0 g : xB} {P f : Nat} {L : List Nat} (hf : f < 24) (hk : g0 71 (278 + f) = 4) (hc : mT g0 g P L) (hP : P < 3) (hl : L.length < 475) : ∃ g', mT g0 g' (P + 1) (L ++ [5]) ∧ pK g g' P ∧ g' 75 P = (f : Int) ∧ g' 76 P = 0 ∧ ∀ Q : Int → xB → Prop, Q 0 g' → w_m_span g f Q = True := by
  have e278 : g 71 (278 + f) = 4 := by rw [hc.1 71 (by omega) (by omega) (by omega) (by omega) (by omega)]; exact hk
  have ix : xw (278 + (f : Int)) = ((278 + f : Nat) : Int) := (xw_id (by omega) (by omega)).trans (by omega)
  obtain ⟨c1, c2, c3, c4⟩ := hc
  have hc1 : mT g0 (x_up (x_up (x_up g 75 P f) 76 P 0) 1507 0 (P + 1)) (P + 1) L := ⟨fun r h1 h2 h3 h4 h5 => by rw [upR h4, upR h2, upR h1]; exact c1 r h1 h2 h3 h4 h5, by simp (disch := omega) only [up_eq, up_r, up_i, fil_in, fil_i, fil_r]; omega, by simp (disch := omega) only [up_eq, up_r, up_i, fil_in, fil_i, fil_r]; exact c3, fun j hj => by simp (disch := omega) only [up_eq, up_r, up_i, fil_in, fil_i, fil_r]; exact c4 j hj⟩
  obtain ⟨g', x1, x2, x3, x4⟩ := m_by_A (m := 5) hc1 hl
  refine ⟨g', x1, fun j hj => ?_, ?_, ?_, fun Q hQ => eq_true ?_⟩
  · rw [x2, x3]
    exact ⟨by simp (disch := omega) only [up_eq, up_r, up_i, fil_in, fil_i, fil_r], by simp (disch := omega) only [up_eq, up_r, up_i, fil_in, fil_i, fil_r]⟩
  · rw [x2]
    simp (disch := omega) only [up_eq, up_r, up_i, fil_in, fil_i, fil_r]
  · rw [x3]
    simp (disch := omega) only [up_eq, up_r, up_i, fil_in, fil_i, fil_r]
  · have e1 := of_eq_true (x4 0 (fun r4 g5 => Q r4 g5) hQ)
    unfold w_m_span w_m_kindOf w_m_open
    rw [ix, Int.toNat_natCast, e_gd (by omega) (by omega), e278]
    dsimp only
    rw [e_f (by omega), e_f (by omega), e_f (by omega), e_f (by omega)]
    simp (disch := omega) only [c2, e_T, e_F, e_t, e_f, e_gd, e_bg0, e_bg1, e_nz, Int.toNat_natCast, Int.toNat_add, Int.toNat_mul, xw_al, xw_ar, xw_ml, xw_mr, xw_sl, xw_sr, xw_id, x_sl_c, mc3, mc6, mc8, mc12, mc64, mc72, Nat.add_assoc, Int.reduceToNat, L_isLine_t, L_isLine_f, R_has_t, R_has_f, R_isCh_t, R_isCh_f, V_isCurve_t, V_isCurve_f, Q_isCue_t, Q_isCue_f, Q_isList_t, Q_isList_f, B_isPb_t, B_isPb_f, m_in_t, m_in_f, m_isLine_t, m_isLine_f, m_isPb_t, m_isPb_f, m_isFx_t, m_isFx_f, F_note_e, m_finds_e, Int.reduceToNat, noted_neg, up_eq, up_r, up_i, fil_in, fil_i, fil_r]
    exact e1
