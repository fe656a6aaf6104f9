/-! ===== the live board, the book and the model together ===== -/
def rTr (x g : xB) : Prop := x 172 0 = g 1511 0 ∧ 0 ≤ x 172 0 ∧ x 172 0 ≤ 475 ∧ ∀ i : Nat, (i : Int) < x 172 0 → x 24 i = g 77 i
def rS (n : Nat) (t x g : xB) : Prop := rB n x (g 71) ∧ rK t g x ∧ rTr x g
def fT (t t' : xB) : Prop := ∀ r, r ≠ 62 ∧ r ≠ 63 ∧ r ≠ 1322 → t' r = t r
theorem rK_c {t g g' x x' : xB} (h : rK t g x) (e73 : g' 73 = g 73) (e1 : g' 1503 = g 1503) (e2 : g' 1504 = g 1504) (e3 : x' 108 0 = x 108 0) : rK t g' x' := by
  unfold rK rKr
  rw [e73, e1, e2, e3]
  exact h
theorem rTr_c {x x' g g' : xB} (h : rTr x g) (e1 : x' 172 = x 172) (e2 : x' 24 = x 24) (e3 : g' 1511 = g 1511) (e4 : g' 77 = g 77) : rTr x' g' := by
  unfold rTr
  rw [e1, e2, e3, e4]
  exact h
theorem enact_A {n : Nat} {t x y g : xB} {m : (Int → xB → Prop) → Prop} {c a1 a2 a3 a4 a5 : Int} (hS : rS n t x g) (hP : aP n x g (w_B_perform x c a1 a2 a3 a4 a5) m c a1 a2 a3 a4 a5) (hc : c = 21 ∨ kOK c a1 a2 a3) : ∃ r t' x' g', rS (n + 1) t' x' g' ∧ fT t t' ∧ (∀ Q : Int → xB → xB → xB → Prop, Q r t' x' y → w_T_enact t x y c a1 a2 a3 a4 a5 Q) ∧ (∀ Q : Int → xB → Prop, Q r g' → m Q) := by
  obtain ⟨s1, s2, s3⟩ := hS
  obtain ⟨r, x', g', h1, h2, ⟨o1, o2, o3, o4⟩, h4, h5, _⟩ := hP
  have e (r : Nat) (h : r ≠ 71 ∧ r ≠ 74 ∧ r ≠ 75 ∧ r ≠ 76 ∧ r ≠ 78 ∧ r ≠ 1506 ∧ r ≠ 1507) : g' r = g r := o2 r h.1 h.2.1 h.2.2.1 h.2.2.2.1 h.2.2.2.2.1 h.2.2.2.2.2.1 h.2.2.2.2.2.2
  by_cases hr : r < 0
  · rw [if_neg (by omega)] at h4
    refine ⟨r, t, x', g', ⟨o1, rK_c s2 (e _ (by omega)) (e _ (by omega)) (e _ (by omega)) (by omega), rTr_c s3 o3 o4 (e _ (by omega)) (e _ (by omega))⟩, fun _ _ => rfl, fun Q hQ => ?_, fun Q hQ => ?_⟩
    · refine h1 _ ?_
      rw [e_t hr]
      exact hQ
    · refine h2 Q ?_
      rw [noted_neg hr]
      exact hQ
  · have hk : rK t g' x := rK_c s2 (e _ (by omega)) (e _ (by omega)) (e _ (by omega)) rfl
    have hx : x' 108 0 = x 108 0 + (if c = 21 then a1 else 0) := by
      rw [h4]
      by_cases c21 : c = 21
      · rw [if_pos ⟨c21, by omega⟩, if_pos c21]
      · rw [if_neg (fun z => c21 z.1), if_neg c21]
    have hc' : kOK c a1 a2 a3 := by
      rcases hc with rfl | z
      · have := h5 rfl (by omega)
        exact ⟨by omega, by omega, fun z => absurd z (by decide), fun z => absurd z (by decide), fun z => absurd z (by decide), fun z => absurd z (by decide), fun _ => this⟩
      · exact z
    obtain ⟨t', g2, k1, k2, k3, k4, k5⟩ := book_A (a4 := a4) (a5 := a5) (r := r) hk (by omega) hc' hx
    refine ⟨r, t', x', g2, ⟨by rw [k3 71 (by omega)]; exact o1, k1, rTr_c s3 o3 o4 ((k3 1511 (by omega)).trans (e _ (by omega))) ((k3 77 (by omega)).trans (e _ (by omega)))⟩, k2, fun Q hQ => ?_, fun Q hQ => h2 Q (k5 Q hQ)⟩
    refine h1 _ ?_
    rw [e_f hr]
    exact k4 _ hQ
/-- what is asked -/
theorem ask_A {n : Nat} {t x g : xB} {w m : (Int → xB → Prop) → Prop} (hS : rS n t x g) (hq : qC n x g w m) : ∃ r x' g', rS (n + 1) t x' g' ∧ (∀ Q, Q r x' → w Q) ∧ (∀ Q, Q r g' → m Q) := by
  obtain ⟨s1, s2, s3⟩ := hS
  obtain ⟨r, x', g', h1, h2, ⟨o1, o2, o3, o4⟩, h4⟩ := hq
  have e (r : Nat) (h : r ≠ 71 ∧ r ≠ 74 ∧ r ≠ 75 ∧ r ≠ 76 ∧ r ≠ 78 ∧ r ≠ 1506 ∧ r ≠ 1507) : g' r = g r := o2 r h.1 h.2.1 h.2.2.1 h.2.2.2.1 h.2.2.2.2.1 h.2.2.2.2.2.1 h.2.2.2.2.2.2
  exact ⟨r, x', g', ⟨o1, rK_c s2 (e _ (by omega)) (e _ (by omega)) (e _ (by omega)) (by rw [h4]), rTr_c s3 o3 o4 (e _ (by omega)) (e _ (by omega))⟩, h1, h2⟩
theorem trace_A {n : Nat} {t x g : xB} {v : Int} (hS : rS n t x g) : ∃ r, (∀ Q : Int → xB → Prop, Q r x → w_R_traceAt x v Q) ∧ (∀ Q : Int → xB → Prop, Q r g → w_m_trace g v Q) := by
  obtain ⟨s1, s2, q1, q2, q3, q4⟩ := hS
  by_cases hv : 0 ≤ v ∧ v < x 172 0
  · obtain ⟨V, rfl⟩ := nat_of hv.1
    have := q4 V hv.2
    refine ⟨x 24 V, fun Q hQ => ?_, fun Q hQ => ?_⟩
    · simp (disch := omega) only [w_R_traceAt, e_T, e_F, e_t, e_f, e_gd, e_bg0, e_bg1, e_nz, Int.toNat_natCast, Int.toNat_add, Int.toNat_mul, xw_al, xw_ar, xw_ml, xw_mr, xw_sl, xw_sr, xw_id, x_sl_c, mc3, mc6, mc8, mc12, mc64, mc72, Nat.add_assoc, Int.reduceToNat, L_isLine_t, L_isLine_f, R_has_t, R_has_f, R_isCh_t, R_isCh_f, V_isCurve_t, V_isCurve_f, Q_isCue_t, Q_isCue_f, Q_isList_t, Q_isList_f, B_isPb_t, B_isPb_f, m_in_t, m_in_f, m_isLine_t, m_isLine_f, m_isPb_t, m_isPb_f, m_isFx_t, m_isFx_f, F_note_e, m_finds_e, Int.reduceToNat, noted_neg]
      exact hQ
    · rw [this] at hQ
      simp (disch := omega) only [w_m_trace, e_T, e_F, e_t, e_f, e_gd, e_bg0, e_bg1, e_nz, Int.toNat_natCast, Int.toNat_add, Int.toNat_mul, xw_al, xw_ar, xw_ml, xw_mr, xw_sl, xw_sr, xw_id, x_sl_c, mc3, mc6, mc8, mc12, mc64, mc72, Nat.add_assoc, Int.reduceToNat, L_isLine_t, L_isLine_f, R_has_t, R_has_f, R_isCh_t, R_isCh_f, V_isCurve_t, V_isCurve_f, Q_isCue_t, Q_isCue_f, Q_isList_t, Q_isList_f, B_isPb_t, B_isPb_f, m_in_t, m_in_f, m_isLine_t, m_isLine_f, m_isPb_t, m_isPb_f, m_isFx_t, m_isFx_f, F_note_e, m_finds_e, Int.reduceToNat, noted_neg]
      exact hQ
  · refine ⟨-1, fun Q hQ => ?_, fun Q hQ => ?_⟩
    · unfold w_R_traceAt
      by_cases e : v < 0
      · rw [e_t e]
        exact hQ
      · rw [e_f e, e_f (by omega)]
        exact hQ
    · simp (disch := omega) only [w_m_trace, e_T, e_F, e_t, e_f, e_gd, e_bg0, e_bg1, e_nz, Int.toNat_natCast, Int.toNat_add, Int.toNat_mul, xw_al, xw_ar, xw_ml, xw_mr, xw_sl, xw_sr, xw_id, x_sl_c, mc3, mc6, mc8, mc12, mc64, mc72, Nat.add_assoc, Int.reduceToNat, L_isLine_t, L_isLine_f, R_has_t, R_has_f, R_isCh_t, R_isCh_f, V_isCurve_t, V_isCurve_f, Q_isCue_t, Q_isCue_f, Q_isList_t, Q_isList_f, B_isPb_t, B_isPb_f, m_in_t, m_in_f, m_isLine_t, m_isLine_f, m_isPb_t, m_isPb_f, m_isFx_t, m_isFx_f, F_note_e, m_finds_e, Int.reduceToNat, noted_neg]
      exact hQ
theorem told_A {n : Nat} {t x y g : xB} {v : Int} (hS : rS n t x g) : ∃ r, (∀ Q : Int → xB → xB → xB → Prop, Q r t x y → w_T_told t x y v Q) ∧ (∀ Q : Int → xB → Prop, Q r g → w_m_told g v Q) := by
  obtain ⟨s1, s2, s3⟩ := hS
  have r1 := s1.2.2.1.1
  have r2 := s1.2.2.2.2.2.2.2.2.2.1.1
  have r3 := s2.1
  obtain ⟨x1, x2, x3, x4, x5, x6⟩ := s1.2.2.2.2.2.2.2.2.1
  by_cases v0 : v = 0
  · subst v0
    refine ⟨x 161 0, fun Q hQ => ?_, fun Q hQ => ?_⟩
    · simp (disch := omega) only [w_T_told, e_T, e_F, e_t, e_f, e_gd, e_bg0, e_bg1, e_nz, Int.toNat_natCast, Int.toNat_add, Int.toNat_mul, xw_al, xw_ar, xw_ml, xw_mr, xw_sl, xw_sr, xw_id, x_sl_c, mc3, mc6, mc8, mc12, mc64, mc72, Nat.add_assoc, Int.reduceToNat, L_isLine_t, L_isLine_f, R_has_t, R_has_f, R_isCh_t, R_isCh_f, V_isCurve_t, V_isCurve_f, Q_isCue_t, Q_isCue_f, Q_isList_t, Q_isList_f, B_isPb_t, B_isPb_f, m_in_t, m_in_f, m_isLine_t, m_isLine_f, m_isPb_t, m_isPb_f, m_isFx_t, m_isFx_f, F_note_e, m_finds_e, Int.reduceToNat, noted_neg]
      exact hQ
    · rw [r1] at hQ
      simp (disch := omega) only [w_m_told, e_T, e_F, e_t, e_f, e_gd, e_bg0, e_bg1, e_nz, Int.toNat_natCast, Int.toNat_add, Int.toNat_mul, xw_al, xw_ar, xw_ml, xw_mr, xw_sl, xw_sr, xw_id, x_sl_c, mc3, mc6, mc8, mc12, mc64, mc72, Nat.add_assoc, Int.reduceToNat, L_isLine_t, L_isLine_f, R_has_t, R_has_f, R_isCh_t, R_isCh_f, V_isCurve_t, V_isCurve_f, Q_isCue_t, Q_isCue_f, Q_isList_t, Q_isList_f, B_isPb_t, B_isPb_f, m_in_t, m_in_f, m_isLine_t, m_isLine_f, m_isPb_t, m_isPb_f, m_isFx_t, m_isFx_f, F_note_e, m_finds_e, Int.reduceToNat, noted_neg]
      exact hQ
  by_cases v1 : v = 1
  · subst v1
    refine ⟨x 108 0, fun Q hQ => ?_, fun Q hQ => ?_⟩
    · simp (disch := omega) only [w_T_told, e_T, e_F, e_t, e_f, e_gd, e_bg0, e_bg1, e_nz, Int.toNat_natCast, Int.toNat_add, Int.toNat_mul, xw_al, xw_ar, xw_ml, xw_mr, xw_sl, xw_sr, xw_id, x_sl_c, mc3, mc6, mc8, mc12, mc64, mc72, Nat.add_assoc, Int.reduceToNat, L_isLine_t, L_isLine_f, R_has_t, R_has_f, R_isCh_t, R_isCh_f, V_isCurve_t, V_isCurve_f, Q_isCue_t, Q_isCue_f, Q_isList_t, Q_isList_f, B_isPb_t, B_isPb_f, m_in_t, m_in_f, m_isLine_t, m_isLine_f, m_isPb_t, m_isPb_f, m_isFx_t, m_isFx_f, F_note_e, m_finds_e, Int.reduceToNat, noted_neg]
      exact hQ
    · rw [r2] at hQ
      simp (disch := omega) only [w_m_told, e_T, e_F, e_t, e_f, e_gd, e_bg0, e_bg1, e_nz, Int.toNat_natCast, Int.toNat_add, Int.toNat_mul, xw_al, xw_ar, xw_ml, xw_mr, xw_sl, xw_sr, xw_id, x_sl_c, mc3, mc6, mc8, mc12, mc64, mc72, Nat.add_assoc, Int.reduceToNat, L_isLine_t, L_isLine_f, R_has_t, R_has_f, R_isCh_t, R_isCh_f, V_isCurve_t, V_isCurve_f, Q_isCue_t, Q_isCue_f, Q_isList_t, Q_isList_f, B_isPb_t, B_isPb_f, m_in_t, m_in_f, m_isLine_t, m_isLine_f, m_isPb_t, m_isPb_f, m_isFx_t, m_isFx_f, F_note_e, m_finds_e, Int.reduceToNat, noted_neg]
      exact hQ
  by_cases v2 : v = 2
  · subst v2
    refine ⟨t 1322 0, fun Q hQ => ?_, fun Q hQ => ?_⟩
    · simp (disch := omega) only [w_T_told, e_T, e_F, e_t, e_f, e_gd, e_bg0, e_bg1, e_nz, Int.toNat_natCast, Int.toNat_add, Int.toNat_mul, xw_al, xw_ar, xw_ml, xw_mr, xw_sl, xw_sr, xw_id, x_sl_c, mc3, mc6, mc8, mc12, mc64, mc72, Nat.add_assoc, Int.reduceToNat, L_isLine_t, L_isLine_f, R_has_t, R_has_f, R_isCh_t, R_isCh_f, V_isCurve_t, V_isCurve_f, Q_isCue_t, Q_isCue_f, Q_isList_t, Q_isList_f, B_isPb_t, B_isPb_f, m_in_t, m_in_f, m_isLine_t, m_isLine_f, m_isPb_t, m_isPb_f, m_isFx_t, m_isFx_f, F_note_e, m_finds_e, Int.reduceToNat, noted_neg]
      exact hQ
    · rw [r3] at hQ
      simp (disch := omega) only [w_m_told, e_T, e_F, e_t, e_f, e_gd, e_bg0, e_bg1, e_nz, Int.toNat_natCast, Int.toNat_add, Int.toNat_mul, xw_al, xw_ar, xw_ml, xw_mr, xw_sl, xw_sr, xw_id, x_sl_c, mc3, mc6, mc8, mc12, mc64, mc72, Nat.add_assoc, Int.reduceToNat, L_isLine_t, L_isLine_f, R_has_t, R_has_f, R_isCh_t, R_isCh_f, V_isCurve_t, V_isCurve_f, Q_isCue_t, Q_isCue_f, Q_isList_t, Q_isList_f, B_isPb_t, B_isPb_f, m_in_t, m_in_f, m_isLine_t, m_isLine_f, m_isPb_t, m_isPb_f, m_isFx_t, m_isFx_f, F_note_e, m_finds_e, Int.reduceToNat, noted_neg]
      exact hQ
  by_cases v3 : v = 3
  · subst v3
    refine ⟨x 272 0, fun Q hQ => ?_, fun Q hQ => ?_⟩
    · rcases x6 with e | e
      · rw [e] at hQ
        simp (disch := omega) only [w_T_told, e_T, e_F, e_t, e_f, e_gd, e_bg0, e_bg1, e_nz, Int.toNat_natCast, Int.toNat_add, Int.toNat_mul, xw_al, xw_ar, xw_ml, xw_mr, xw_sl, xw_sr, xw_id, x_sl_c, mc3, mc6, mc8, mc12, mc64, mc72, Nat.add_assoc, Int.reduceToNat, L_isLine_t, L_isLine_f, R_has_t, R_has_f, R_isCh_t, R_isCh_f, V_isCurve_t, V_isCurve_f, Q_isCue_t, Q_isCue_f, Q_isList_t, Q_isList_f, B_isPb_t, B_isPb_f, m_in_t, m_in_f, m_isLine_t, m_isLine_f, m_isPb_t, m_isPb_f, m_isFx_t, m_isFx_f, F_note_e, m_finds_e, Int.reduceToNat, noted_neg]
        exact hQ
      · rw [e] at hQ
        simp (disch := omega) only [w_T_told, e_T, e_F, e_t, e_f, e_gd, e_bg0, e_bg1, e_nz, Int.toNat_natCast, Int.toNat_add, Int.toNat_mul, xw_al, xw_ar, xw_ml, xw_mr, xw_sl, xw_sr, xw_id, x_sl_c, mc3, mc6, mc8, mc12, mc64, mc72, Nat.add_assoc, Int.reduceToNat, L_isLine_t, L_isLine_f, R_has_t, R_has_f, R_isCh_t, R_isCh_f, V_isCurve_t, V_isCurve_f, Q_isCue_t, Q_isCue_f, Q_isList_t, Q_isList_f, B_isPb_t, B_isPb_f, m_in_t, m_in_f, m_isLine_t, m_isLine_f, m_isPb_t, m_isPb_f, m_isFx_t, m_isFx_f, F_note_e, m_finds_e, Int.reduceToNat, noted_neg]
        exact hQ
    · rw [x5] at hQ
      simp (disch := omega) only [w_m_told, e_T, e_F, e_t, e_f, e_gd, e_bg0, e_bg1, e_nz, Int.toNat_natCast, Int.toNat_add, Int.toNat_mul, xw_al, xw_ar, xw_ml, xw_mr, xw_sl, xw_sr, xw_id, x_sl_c, mc3, mc6, mc8, mc12, mc64, mc72, Nat.add_assoc, Int.reduceToNat, L_isLine_t, L_isLine_f, R_has_t, R_has_f, R_isCh_t, R_isCh_f, V_isCurve_t, V_isCurve_f, Q_isCue_t, Q_isCue_f, Q_isList_t, Q_isList_f, B_isPb_t, B_isPb_f, m_in_t, m_in_f, m_isLine_t, m_isLine_f, m_isPb_t, m_isPb_f, m_isFx_t, m_isFx_f, F_note_e, m_finds_e, Int.reduceToNat, noted_neg]
      exact hQ
  by_cases v4 : v = 4
  · subst v4
    refine ⟨x 271 0, fun Q hQ => ?_, fun Q hQ => ?_⟩
    · simp (disch := omega) only [w_T_told, e_T, e_F, e_t, e_f, e_gd, e_bg0, e_bg1, e_nz, Int.toNat_natCast, Int.toNat_add, Int.toNat_mul, xw_al, xw_ar, xw_ml, xw_mr, xw_sl, xw_sr, xw_id, x_sl_c, mc3, mc6, mc8, mc12, mc64, mc72, Nat.add_assoc, Int.reduceToNat, L_isLine_t, L_isLine_f, R_has_t, R_has_f, R_isCh_t, R_isCh_f, V_isCurve_t, V_isCurve_f, Q_isCue_t, Q_isCue_f, Q_isList_t, Q_isList_f, B_isPb_t, B_isPb_f, m_in_t, m_in_f, m_isLine_t, m_isLine_f, m_isPb_t, m_isPb_f, m_isFx_t, m_isFx_f, F_note_e, m_finds_e, Int.reduceToNat, noted_neg]
      exact hQ
    · rw [x2] at hQ
      simp (disch := omega) only [w_m_told, e_T, e_F, e_t, e_f, e_gd, e_bg0, e_bg1, e_nz, Int.toNat_natCast, Int.toNat_add, Int.toNat_mul, xw_al, xw_ar, xw_ml, xw_mr, xw_sl, xw_sr, xw_id, x_sl_c, mc3, mc6, mc8, mc12, mc64, mc72, Nat.add_assoc, Int.reduceToNat, L_isLine_t, L_isLine_f, R_has_t, R_has_f, R_isCh_t, R_isCh_f, V_isCurve_t, V_isCurve_f, Q_isCue_t, Q_isCue_f, Q_isList_t, Q_isList_f, B_isPb_t, B_isPb_f, m_in_t, m_in_f, m_isLine_t, m_isLine_f, m_isPb_t, m_isPb_f, m_isFx_t, m_isFx_f, F_note_e, m_finds_e, Int.reduceToNat, noted_neg]
      exact hQ
  refine ⟨-2, fun Q hQ => ?_, fun Q hQ => ?_⟩
  · simp (disch := omega) only [w_T_told, e_T, e_F, e_t, e_f, e_gd, e_bg0, e_bg1, e_nz, Int.toNat_natCast, Int.toNat_add, Int.toNat_mul, xw_al, xw_ar, xw_ml, xw_mr, xw_sl, xw_sr, xw_id, x_sl_c, mc3, mc6, mc8, mc12, mc64, mc72, Nat.add_assoc, Int.reduceToNat, L_isLine_t, L_isLine_f, R_has_t, R_has_f, R_isCh_t, R_isCh_f, V_isCurve_t, V_isCurve_f, Q_isCue_t, Q_isCue_f, Q_isList_t, Q_isList_f, B_isPb_t, B_isPb_f, m_in_t, m_in_f, m_isLine_t, m_isLine_f, m_isPb_t, m_isPb_f, m_isFx_t, m_isFx_f, F_note_e, m_finds_e, Int.reduceToNat, noted_neg]
    exact hQ
  · simp (disch := omega) only [w_m_told, e_T, e_F, e_t, e_f, e_gd, e_bg0, e_bg1, e_nz, Int.toNat_natCast, Int.toNat_add, Int.toNat_mul, xw_al, xw_ar, xw_ml, xw_mr, xw_sl, xw_sr, xw_id, x_sl_c, mc3, mc6, mc8, mc12, mc64, mc72, Nat.add_assoc, Int.reduceToNat, L_isLine_t, L_isLine_f, R_has_t, R_has_f, R_isCh_t, R_isCh_f, V_isCurve_t, V_isCurve_f, Q_isCue_t, Q_isCue_f, Q_isList_t, Q_isList_f, B_isPb_t, B_isPb_f, m_in_t, m_in_f, m_isLine_t, m_isLine_f, m_isPb_t, m_isPb_f, m_isFx_t, m_isFx_f, F_note_e, m_finds_e, Int.reduceToNat, noted_neg]
    exact hQ
