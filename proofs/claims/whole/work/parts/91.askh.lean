/-! ===== asks ===== -/
def mU (g0 g : xB) (L : List Nat) : Prop := (∀ r, r ≠ 75 → r ≠ 76 → r ≠ 77 → r ≠ 1507 → r ≠ 1511 → g r = g0 r) ∧ g 1511 0 = (L.length : Int) ∧ wrL 77 g L
theorem R_mark_U {b0 b : xB} {L : List Nat} {z : Int} (m : Nat) (hz : z = (m : Int)) (h173 : b0 173 0 = 1) (hc : cT b0 b L) (hl : L.length < 475) : ∃ b', cT b0 b' (L ++ [m]) ∧ ∀ Q : xB → Prop, Q b' → w_R_mark b z Q := by
  subst hz
  exact R_mark_A h173 hc hl
theorem m_by_U {g0 g : xB} {L : List Nat} {z : Int} (m : Nat) (hz : z = (m : Int)) (hc : mU g0 g L) (hl : L.length < 475) : ∃ g', mU g0 g' (L ++ [m]) ∧ ∀ (v : Int) (Q : Int → xB → Prop), Q v g' → w_m_by g z v Q = True := by
  subst hz
  obtain ⟨c1, c3, c4⟩ := hc
  refine ⟨x_up (x_up g 77 L.length m) 1511 0 (L.length + 1), ⟨fun r h1 h2 h3 h4 h5 => by rw [upR h5, upR h3]; exact c1 r h1 h2 h3 h4 h5, by rw [len1, up_eq]; omega, wrL_push c4 (fun j hj => by simp (disch := omega) only [up_eq, up_r, up_i, fil_in, fil_i, fil_r]) (by simp (disch := omega) only [up_eq, up_r, up_i, fil_in, fil_i, fil_r])⟩, fun v Q hQ => eq_true ?_⟩
  unfold w_m_by
  simp (disch := omega) only [c3, e_T, e_F, e_t, e_f, e_gd, e_bg0, e_bg1, e_nz, Int.toNat_natCast, Int.toNat_add, Int.toNat_mul, xw_al, xw_ar, xw_ml, xw_mr, xw_sl, xw_sr, xw_id, x_sl_c, mc3, mc6, mc8, mc12, mc64, mc72, Nat.add_assoc, Int.reduceToNat, L_isLine_t, L_isLine_f, R_has_t, R_has_f, R_isCh_t, R_isCh_f, V_isCurve_t, V_isCurve_f, Q_isCue_t, Q_isCue_f, Q_isList_t, Q_isList_f, B_isPb_t, B_isPb_f, m_in_t, m_in_f, m_isLine_t, m_isLine_f, m_isPb_t, m_isPb_f, m_isFx_t, m_isFx_f, F_note_e, m_finds_e, Int.reduceToNat, noted_neg, up_eq, up_r, up_i, fil_in, fil_i, fil_r]
  exact hQ
theorem m_span1_U {g0 g : xB} {f : Nat} {k : Int} {L : List Nat} (hf : f < 24) (hk : g0 71 (278 + f) = k) (h0 : 0 ≤ k) (h3 : k ≤ 3) (hc : mU g0 g L) (hl : (L ++ tr1 k).length ≤ 475) : ∃ g', mU g0 g' (L ++ tr1 k) ∧ ∀ Q : Int → xB → Prop, Q (svL (tr1 k)) g' → w_m_span g f Q = True := by
  have e278 : g 71 (278 + f) = k := by rw [hc.1 71 (by omega) (by omega) (by omega) (by omega) (by omega)]; exact hk
  have ix : xw (278 + (f : Int)) = ((278 + f : Nat) : Int) := (xw_id (by omega) (by omega)).trans (by omega)
  by_cases k1 : k = 1
  · have e : tr1 k = [2] ++ [1] := if_pos k1
    rw [e, ← List.append_assoc] at hl ⊢
    rw [len1, len1] at hl
    obtain ⟨b1, x1, x4⟩ := m_by_U 2 rfl hc (by omega)
    obtain ⟨b2, y1, y4⟩ := m_by_U 1 rfl x1 (by rw [len1]; omega)
    refine ⟨b2, y1, fun Q hQ => eq_true ?_⟩
    have e0 : svL ([2] ++ [1]) = xw ((1 : Int) + 1) := (xw_id (z := (1 : Int) + 1) (by omega) (by omega)).symm
    rw [e0] at hQ
    have e2 := y4 1 (fun r12 g13 => Q (xw (1 + r12)) g13) hQ
    have e1 := x4 1 (fun r10 g11 => w_m_by g11 1 1 (fun r12 g13 => Q (xw (r10 + r12)) g13)) (of_eq_true e2)
    unfold w_m_span w_m_kindOf
    rw [ix, Int.toNat_natCast, e_gd (by omega) (by omega), e278]
    dsimp only
    rw [e_f (by omega), e_t k1]
    exact of_eq_true e1
  by_cases k2 : k = 2
  · have e : tr1 k = [3] := (if_neg k1).trans (if_pos k2)
    rw [e] at hl ⊢
    rw [len1] at hl
    obtain ⟨b1, x1, x4⟩ := m_by_U 3 rfl hc (by omega)
    refine ⟨b1, x1, fun Q hQ => eq_true ?_⟩
    have e1 := x4 5 (fun r8 g9 => Q r8 g9) hQ
    unfold w_m_span w_m_kindOf
    rw [ix, Int.toNat_natCast, e_gd (by omega) (by omega), e278]
    dsimp only
    rw [e_f (by omega), e_f k1, e_t k2]
    exact of_eq_true e1
  by_cases k3 : k = 3
  · have e : tr1 k = [4] := (if_neg k1).trans ((if_neg k2).trans (if_pos k3))
    rw [e] at hl ⊢
    rw [len1] at hl
    obtain ⟨b1, x1, x4⟩ := m_by_U 4 rfl hc (by omega)
    refine ⟨b1, x1, fun Q hQ => eq_true ?_⟩
    have e1 := x4 3 (fun r8 g9 => Q r8 g9) hQ
    unfold w_m_span w_m_kindOf
    rw [ix, Int.toNat_natCast, e_gd (by omega) (by omega), e278]
    dsimp only
    rw [e_f (by omega), e_f k1, e_f k2, e_t k3]
    exact of_eq_true e1
  · have e : tr1 k = [1] := (if_neg k1).trans ((if_neg k2).trans (if_neg k3))
    rw [e] at hl ⊢
    rw [len1] at hl
    obtain ⟨b1, x1, x4⟩ := m_by_U 1 rfl hc (by omega)
    refine ⟨b1, x1, fun Q hQ => eq_true ?_⟩
    have e1 := x4 1 (fun r8 g9 => Q r8 g9) hQ
    unfold w_m_span w_m_kindOf
    rw [ix, Int.toNat_natCast, e_gd (by omega) (by omega), e278]
    dsimp only
    rw [e_t (by omega)]
    exact of_eq_true e1
/-- heat -/
def hL (k : Int) : List Nat := (if k = 1 then [11, 10] else if k = 2 then [12, 10] else [10]) ++ tr1 k
theorem R_heat_A {b0 b : xB} {f : Nat} {k m : Int} (h173 : b0 173 0 = 1) (hf : f < 24) (hk : b0 17 f = k) (hm : b0 18 f = m) (h0 : 0 ≤ k) (h3 : k ≤ 3) (m0 : 0 ≤ m) (m1 : m ≤ 100) (hc : cT b0 b []) : ∃ b', cT b0 b' (hL k) ∧ ∀ Q : Int → xB → Prop, Q (kHeat k m) b' → w_R_heatOf b f Q := by
  have e17 : b 17 f = k := by rw [hc.1 17 (by omega) (by omega)]; exact hk
  have l2 := tr1_len k
  by_cases k1 : k = 1
  · have e : hL k = [] ++ [11] ++ [10] ++ tr1 (b0 17 f) := by
      unfold hL
      rw [if_pos k1, hk]
      rfl
    rw [e]
    obtain ⟨b1, x1, x2⟩ := R_mark_U (z := 11) 11 rfl h173 hc (by decide)
    obtain ⟨b2, y1, y2⟩ := R_mark_U (z := 10) 10 rfl h173 x1 (by decide)
    obtain ⟨b3, z1, z2⟩ := R_span1_A (f := f) h173 hf y1 (by rw [hk, List.length_append, len1, len1, List.length_nil]; omega)
    refine ⟨b3, z1, fun Q hQ => ?_⟩
    unfold w_R_heatOf w_R_heatOf_j32
    rw [e_gd (by omega) (by omega), Int.toNat_natCast, e17, e_t k1]
    refine x2 _ (y2 _ (z2 _ ?_))
    rw [e_t k1, hk, k1]
    rw [k1] at hQ
    exact hQ
  by_cases k2 : k = 2
  · have e : hL k = [] ++ [12] ++ [10] ++ tr1 (b0 17 f) := by
      unfold hL
      rw [if_neg k1, if_pos k2, hk]
      rfl
    rw [e]
    obtain ⟨b1, x1, x2⟩ := R_mark_U (z := 12) 12 rfl h173 hc (by decide)
    obtain ⟨b2, y1, y2⟩ := R_mark_U (z := 10) 10 rfl h173 x1 (by decide)
    obtain ⟨b3, z1, z2⟩ := R_span1_A (f := f) h173 hf y1 (by rw [hk, List.length_append, len1, len1, List.length_nil]; omega)
    refine ⟨b3, z1, fun Q hQ => ?_⟩
    have e18 : b3 18 f = m := by rw [z1.1 18 (by omega) (by omega)]; exact hm
    have ev : svL (tr1 k) = 5 := by rw [k2]; rfl
    have eh : kHeat k m = 100 + m := if_pos k2
    rw [eh] at hQ
    unfold w_R_heatOf w_R_heatOf_j32
    rw [e_gd (by omega) (by omega), Int.toNat_natCast, e17, e_f k1, e_t k2]
    refine x2 _ (y2 _ (z2 _ ?_))
    rw [e_f k1, e_t k2, e_gd (by omega) (by omega), e18, hk, ev, xw_al, xw_id (by omega) (by omega)]
    exact hQ
  · have e : hL k = [] ++ [10] ++ tr1 (b0 17 f) := by
      unfold hL
      rw [if_neg k1, if_neg k2, hk]
      rfl
    rw [e]
    obtain ⟨b2, y1, y2⟩ := R_mark_U (z := 10) 10 rfl h173 hc (by decide)
    obtain ⟨b3, z1, z2⟩ := R_span1_A (f := f) h173 hf y1 (by rw [hk, List.length_append, len1, List.length_nil]; omega)
    refine ⟨b3, z1, fun Q hQ => ?_⟩
    have ev : xw (20 * svL (tr1 k)) = kHeat k m := by
      have : k = 0 ∨ k = 3 := by omega
      rcases this with rfl | rfl
      · rfl
      · rfl
    unfold w_R_heatOf w_R_heatOf_j32
    rw [e_gd (by omega) (by omega), Int.toNat_natCast, e17, e_f k1, e_f k2]
    refine y2 _ (z2 _ ?_)
    rw [e_f k1, e_f k2, hk, ev]
    exact hQ
theorem m_heat_A {g0 g : xB} {f : Nat} {k m : Int} (hf : f < 24) (hk : g0 71 (278 + f) = k) (hm : g0 71 (302 + f) = m) (h0 : 0 ≤ k) (h3 : k ≤ 3) (m0 : 0 ≤ m) (m1 : m ≤ 100) (hc : mU g0 g []) : ∃ g', mU g0 g' (hL k) ∧ ∀ Q : Int → xB → Prop, Q (kHeat k m) g' → w_m_heatByBodies g f Q = True := by
  have e278 : g 71 (278 + f) = k := by rw [hc.1 71 (by omega) (by omega) (by omega) (by omega) (by omega)]; exact hk
  have e302 : g 71 (302 + f) = m := by rw [hc.1 71 (by omega) (by omega) (by omega) (by omega) (by omega)]; exact hm
  have ix : xw (278 + (f : Int)) = ((278 + f : Nat) : Int) := (xw_id (by omega) (by omega)).trans (by omega)
  have iy : xw (302 + (f : Int)) = ((302 + f : Nat) : Int) := (xw_id (by omega) (by omega)).trans (by omega)
  have l2 := tr1_len k
  by_cases k1 : k = 1
  · have e : hL k = [] ++ [11] ++ [10] ++ tr1 k := by
      unfold hL
      rw [if_pos k1]
      rfl
    rw [e]
    obtain ⟨b1, x1, x2⟩ := m_by_U (z := 11) 11 rfl hc (by decide)
    obtain ⟨b2, y1, y2⟩ := m_by_U (z := 10) 10 rfl x1 (by decide)
    obtain ⟨b3, z1, z2⟩ := m_span1_U (f := f) hf hk h0 h3 y1 (by rw [List.length_append, len1, len1, List.length_nil]; omega)
    refine ⟨b3, z1, fun Q hQ => eq_true ?_⟩
    have ev : kHeat k m = xw (Int.tdiv (xw ((xw ((0 : Int) + 0)) + (xw (20 * svL (tr1 k))))) 2) := by
      rw [k1]
      rfl
    rw [ev] at hQ
    have s3 := z2 (fun r17 g18 => Q (xw (Int.tdiv (xw ((xw ((0 : Int) + 0)) + (xw (20 * r17)))) 2)) g18) hQ
    have s2 := y2 0 (fun r15 g16 => w_m_span g16 f (fun r17 g18 => Q (xw (Int.tdiv (xw ((xw ((0 : Int) + r15)) + (xw (20 * r17)))) 2)) g18)) (by simp only [s3])
    have s1 := x2 0 (fun r13 g14 => w_m_by g14 10 0 (fun r15 g16 => w_m_span g16 f (fun r17 g18 => Q (xw (Int.tdiv (xw ((xw (r13 + r15)) + (xw (20 * r17)))) 2)) g18))) (by simp only [s2])
    unfold w_m_heatByBodies w_m_kindOf
    rw [ix, Int.toNat_natCast, e_gd (by omega) (by omega), e278]
    dsimp only
    rw [e_t k1]
    simp only [s1]
  by_cases k2 : k = 2
  · have e : hL k = [] ++ [12] ++ [10] ++ tr1 k := by
      unfold hL
      rw [if_neg k1, if_pos k2]
      rfl
    rw [e]
    obtain ⟨b1, x1, x2⟩ := m_by_U (z := 12) 12 rfl hc (by decide)
    obtain ⟨b2, y1, y2⟩ := m_by_U (z := 10) 10 rfl x1 (by decide)
    obtain ⟨b3, z1, z2⟩ := m_span1_U (f := f) hf hk h0 h3 y1 (by rw [List.length_append, len1, len1, List.length_nil]; omega)
    refine ⟨b3, z1, fun Q hQ => eq_true ?_⟩
    have ev : kHeat k m = xw ((xw (m + 0)) + (xw (20 * svL (tr1 k)))) := by
      have ev : svL (tr1 k) = 5 := by rw [k2]; rfl
      have eh : kHeat k m = 100 + m := if_pos k2
      rw [ev, eh, xw_al, xw_ar, xw_id (by omega) (by omega)]
      omega
    rw [ev] at hQ
    have s3 := z2 (fun r11 g12 => Q (xw ((xw (m + 0)) + (xw (20 * r11)))) g12) hQ
    have s2 := y2 0 (fun r9 g10 => w_m_span g10 f (fun r11 g12 => Q (xw ((xw (m + r9)) + (xw (20 * r11)))) g12)) (by simp only [s3])
    have s1 := x2 m (fun r7 g8 => w_m_by g8 10 0 (fun r9 g10 => w_m_span g10 f (fun r11 g12 => Q (xw ((xw (r7 + r9)) + (xw (20 * r11)))) g12))) (by simp only [s2])
    unfold w_m_heatByBodies w_m_kindOf
    rw [ix, Int.toNat_natCast, e_gd (by omega) (by omega), e278]
    dsimp only
    rw [e_f k1, e_t k2, iy, Int.toNat_natCast, e_gd (by omega) (by omega), e302]
    simp only [s1]
  · have e : hL k = [] ++ [10] ++ tr1 k := by
      unfold hL
      rw [if_neg k1, if_neg k2]
      rfl
    rw [e]
    obtain ⟨b2, y1, y2⟩ := m_by_U (z := 10) 10 rfl hc (by decide)
    obtain ⟨b3, z1, z2⟩ := m_span1_U (f := f) hf hk h0 h3 y1 (by rw [List.length_append, len1, List.length_nil]; omega)
    refine ⟨b3, z1, fun Q hQ => eq_true ?_⟩
    have ev : kHeat k m = xw (0 + (xw (20 * svL (tr1 k)))) := by
      have : k = 0 ∨ k = 3 := by omega
      rcases this with rfl | rfl
      · rfl
      · rfl
    rw [ev] at hQ
    have s3 := z2 (fun r5 g6 => Q (xw (0 + (xw (20 * r5)))) g6) hQ
    have s2 := y2 0 (fun r3 g4 => w_m_span g4 f (fun r5 g6 => Q (xw (r3 + (xw (20 * r5)))) g6)) (by simp only [s3])
    unfold w_m_heatByBodies w_m_kindOf
    rw [ix, Int.toNat_natCast, e_gd (by omega) (by omega), e278]
    dsimp only
    rw [e_f k1, e_f k2]
    simp only [s2]
/-- the most -/
def mL (k : Int) : List Nat := if k = 2 then [32, 30, 31] else if k = 3 then [33, 30, 31] else [30]
theorem R_most_A {b0 b : xB} {f : Nat} {k m : Int} (h173 : b0 173 0 = 1) (hf : f < 24) (hk : b0 17 f = k) (hm : b0 18 f = m) (h0 : 0 ≤ k) (h3 : k ≤ 3) (m0 : 0 ≤ m) (m1 : m ≤ 100) (hc : cT b0 b []) : ∃ b', cT b0 b' (mL k) ∧ ∀ Q : Int → xB → Prop, Q (kMost k m) b' → w_R_mostOf b f Q := by
  have e17 : b 17 f = k := by rw [hc.1 17 (by omega) (by omega)]; exact hk
  have go : ∀ (z : Int) (w : Nat), z = (w : Int) → (k = 2 ∨ k = 3) → ∃ b', cT b0 b' ([] ++ [w] ++ [30] ++ [31]) ∧ ∀ Q : Int → xB → Prop, Q (kMost k m) b' → w_R_mostOf_j36 Q b f z := by
    intro z w hz hk2
    obtain ⟨b1, x1, x2⟩ := R_mark_U w hz h173 hc (by decide)
    obtain ⟨b2, y1, y2⟩ := R_mark_U (z := 30) 30 rfl h173 x1 (by rw [len1]; decide)
    obtain ⟨b3, z1, z2⟩ := R_mark_U (z := 31) 31 rfl h173 y1 (by rw [len1, len1]; decide)
    refine ⟨b3, z1, fun Q hQ => ?_⟩
    have e18 : b3 18 f = m := by rw [z1.1 18 (by omega) (by omega)]; exact hm
    unfold w_R_mostOf_j36
    refine x2 _ (y2 _ (z2 _ ?_))
    rw [e_gd (by omega) (by omega), Int.toNat_natCast, e18, xw_id (by omega) (by omega), J_min_e]
    have : kMost k m = if 300 - m < 255 then 300 - m else 255 := by
      unfold kMost
      rw [if_pos hk2]
      repeat' split
      all_goals omega
    rw [this] at hQ
    exact hQ
  by_cases k2 : k = 2
  · have e : mL k = [] ++ [32] ++ [30] ++ [31] := if_pos k2
    rw [e]
    obtain ⟨b1, x1, x2⟩ := go 32 32 rfl (Or.inl k2)
    refine ⟨b1, x1, fun Q hQ => ?_⟩
    unfold w_R_mostOf
    rw [R_moves_e hf, e17, if_pos (Or.inl k2), e_f (by decide), e_gd (by omega) (by omega), Int.toNat_natCast, e17, e_t k2]
    exact x2 _ hQ
  by_cases k3 : k = 3
  · have e : mL k = [] ++ [33] ++ [30] ++ [31] := (if_neg k2).trans (if_pos k3)
    rw [e]
    obtain ⟨b1, x1, x2⟩ := go 33 33 rfl (Or.inr k3)
    refine ⟨b1, x1, fun Q hQ => ?_⟩
    unfold w_R_mostOf
    rw [R_moves_e hf, e17, if_pos (Or.inr k3), e_f (by decide), e_gd (by omega) (by omega), Int.toNat_natCast, e17, e_f k2]
    exact x2 _ hQ
  · have e : mL k = [] ++ [30] := (if_neg k2).trans (if_neg k3)
    have eh : kMost k m = 255 := if_neg (by omega)
    rw [e]
    obtain ⟨b1, x1, x2⟩ := R_mark_U (z := 30) 30 rfl h173 hc (by decide)
    refine ⟨b1, x1, fun Q hQ => ?_⟩
    rw [eh] at hQ
    unfold w_R_mostOf
    rw [R_moves_e hf, e17, if_neg (by omega), e_t rfl]
    exact x2 _ hQ
theorem m_most_A {g0 g : xB} {f : Nat} {k m : Int} (hf : f < 24) (hk : g0 71 (278 + f) = k) (hm : g0 71 (302 + f) = m) (h0 : 0 ≤ k) (h3 : k ≤ 3) (m0 : 0 ≤ m) (m1 : m ≤ 100) (hc : mU g0 g []) : ∃ g', mU g0 g' (mL k) ∧ ∀ Q : Int → xB → Prop, Q (kMost k m) g' → w_m_mostByBodies g f Q = True := by
  have e278 : g 71 (278 + f) = k := by rw [hc.1 71 (by omega) (by omega) (by omega) (by omega) (by omega)]; exact hk
  have ix : xw (278 + (f : Int)) = ((278 + f : Nat) : Int) := (xw_id (by omega) (by omega)).trans (by omega)
  have iy : xw (302 + (f : Int)) = ((302 + f : Nat) : Int) := (xw_id (by omega) (by omega)).trans (by omega)
  have go : ∀ (z : Int) (w : Nat), z = (w : Int) → (k = 2 ∨ k = 3) → ∃ g', mU g0 g' ([] ++ [w] ++ [30] ++ [31]) ∧ ∀ Q : Int → xB → Prop, Q (kMost k m) g' → w_m_mostByBodies_j36 Q g f z = True := by
    intro z w hz hk2
    obtain ⟨b1, x1, x2⟩ := m_by_U w hz hc (by decide)
    obtain ⟨b2, y1, y2⟩ := m_by_U (z := 30) 30 rfl x1 (by rw [len1]; decide)
    obtain ⟨b3, z1, z2⟩ := m_by_U (z := 31) 31 rfl y1 (by rw [len1, len1]; decide)
    refine ⟨b3, z1, fun Q hQ => eq_true ?_⟩
    have e302 : b2 71 (302 + f) = m := by rw [y1.1 71 (by omega) (by omega) (by omega) (by omega) (by omega)]; exact hm
    have hQ2 : x_br ((255 : Int) < xw (300 - m)) (Q 255 b3) (Q (xw (300 - m)) b3) := by
      rw [xw_id (by omega) (by omega)]
      by_cases c : (255 : Int) < 300 - m
      · have eh : kMost k m = 255 := by
          unfold kMost
          rw [if_pos hk2, if_pos c]
        rw [eh] at hQ
        rw [e_t c]
        exact hQ
      · have eh : kMost k m = 300 - m := by
          unfold kMost
          rw [if_pos hk2, if_neg c]
        rw [eh] at hQ
        rw [e_f c]
        exact hQ
    have s3 := z2 (xw (300 - m)) (fun r9 g10 => x_br ((255 : Int) < r9) (Q 255 g10) (Q r9 g10)) hQ2
    have s2 := y2 255 (fun r7 g8 => x_gd (xw (302 + f)) 3779 (w_m_by g8 31 (xw (300 - (g8 71 ((xw (302 + f)).toNat)))) (fun r9 g10 => x_br (r7 < r9) (Q r7 g10) (Q r9 g10)))) (by
      rw [iy, Int.toNat_natCast, e_gd (by omega) (by omega), e302]
      simp only [s3])
    have s1 := x2 0 (fun r5 g6 => w_m_by g6 30 255 (fun r7 g8 => x_gd (xw (302 + f)) 3779 (w_m_by g8 31 (xw (300 - (g8 71 ((xw (302 + f)).toNat)))) (fun r9 g10 => x_br (r7 < r9) (Q r7 g10) (Q r9 g10))))) (by simp only [s2])
    unfold w_m_mostByBodies_j36
    simp only [s1]
  by_cases k2 : k = 2
  · have e : mL k = [] ++ [32] ++ [30] ++ [31] := if_pos k2
    rw [e]
    obtain ⟨b1, x1, x2⟩ := go 32 32 rfl (Or.inl k2)
    refine ⟨b1, x1, fun Q hQ => eq_true ?_⟩
    have s := x2 Q hQ
    unfold w_m_mostByBodies w_m_kindOf
    rw [ix, Int.toNat_natCast, e_gd (by omega) (by omega), e278]
    dsimp only
    rw [e_t (by omega), e_gd (by omega) (by omega), e278, e_t k2]
    simp only [s]
  by_cases k3 : k = 3
  · have e : mL k = [] ++ [33] ++ [30] ++ [31] := (if_neg k2).trans (if_pos k3)
    rw [e]
    obtain ⟨b1, x1, x2⟩ := go 33 33 rfl (Or.inr k3)
    refine ⟨b1, x1, fun Q hQ => eq_true ?_⟩
    have s := x2 Q hQ
    unfold w_m_mostByBodies w_m_kindOf
    rw [ix, Int.toNat_natCast, e_gd (by omega) (by omega), e278]
    dsimp only
    rw [e_t (by omega), e_gd (by omega) (by omega), e278, e_f k2]
    simp only [s]
  · have e : mL k = [] ++ [30] := (if_neg k2).trans (if_neg k3)
    have eh : kMost k m = 255 := if_neg (by omega)
    rw [e]
    obtain ⟨b1, x1, x2⟩ := m_by_U (z := 30) 30 rfl hc (by decide)
    refine ⟨b1, x1, fun Q hQ => eq_true ?_⟩
    rw [eh] at hQ
    have s := x2 255 (fun r11 g12 => Q r11 g12) hQ
    unfold w_m_mostByBodies w_m_kindOf
    rw [ix, Int.toNat_natCast, e_gd (by omega) (by omega), e278]
    dsimp only
    rw [e_f (by omega)]
    simp only [s]
