/-! ===== a CUE begins, on both sides ===== -/
def rU (M n : Int) (b : xB) (s : Nat → Int) : Prop := b 110 0 = s 3766 ∧ 0 ≤ b 110 0 ∧ b 110 0 ≤ M ∧ s 3767 ≤ n
/-- the relation without ENTRIES, LEAVINGS, TICKS, DIGEST; at most M FADES ever -/
def rG (M n : Int) (b : xB) (s : Nat → Int) : Prop := rF b s ∧ rL b s ∧ rR b s ∧ rP b s ∧ rV b s ∧ rQ b s ∧ rY b s ∧ rX b s ∧ rU M n b s
theorem rB_G {n : Nat} {b : xB} {s : Nat → Int} (h : rB n b s) : rG (2592 * (4 * b 108 0 + n)) n b s := by
  obtain ⟨hF, hL, hR, hP, hV, hQ, hY, hE, hX, hT, hW⟩ := h
  exact ⟨hF, hL, hR, hP, hV, hQ, hY, hX, hW⟩
theorem rG_B {n : Nat} {M : Int} {b : xB} {s : Nat → Int} (h : rG M n b s) (hM : M ≤ 2592 * (4 * b 108 0 + n)) (hE : rE b s) (hT : rT b s) : rB n b s := by
  obtain ⟨hF, hL, hR, hP, hV, hQ, hY, hX, w1, w2, w3, w4⟩ := h
  exact ⟨hF, hL, hR, hP, hV, hQ, hY, hE, hX, hT, w1, w2, by omega, w4⟩
/-- what may change when a CUE begins -/
def fGb (b b' : xB) : Prop := ∀ r, r < 10 ∨ (10 < r ∧ r < 23) ∨ (23 < r ∧ r < 47) ∨ (52 < r ∧ r < 110) ∨ (110 < r ∧ r < 170) ∨ (170 < r ∧ r < 285) ∨ 286 < r → b' r = b r
def fGm (g g' : xB) : Prop := mS g g' ∧ ∀ i, i < 1750 ∨ (3766 < i ∧ i ≠ 3775) → g' 71 i = g 71 i
theorem fGb_tr {b b' b'' : xB} (h : fGb b b') (h' : fGb b' b'') : fGb b b'' := fun r hr => (h' r hr).trans (h r hr)
theorem fGm_tr {b b' b'' : xB} (h : fGm b b') (h' : fGm b' b'') : fGm b b'' := ⟨mS_tr h.1 h'.1, fun i hi => (h'.2 i hi).trans (h.2 i hi)⟩
theorem fGm_rf {g : xB} : fGm g g := ⟨mS_rf, fun _ _ => rfl⟩
theorem fGb_rf {g : xB} : fGb g g := fun _ _ => rfl
theorem cHas_one {b b' : xB} {p i : Nat} : ∀ m, i < m → (∀ j, j < m → j ≠ i → b' 48 (p * 72 + j) = b 48 (p * 72 + j)) → cHas b' p m + (if b 48 (p * 72 + i) = 0 then 0 else 1) = cHas b p m + (if b' 48 (p * 72 + i) = 0 then 0 else 1)
  | 0, h, _ => absurd h (Nat.not_lt_zero i)
  | m + 1, h, he => by
    show cHas b' p m + (if b' 48 (p * 72 + m) = 0 then 0 else 1) + _ = cHas b p m + (if b 48 (p * 72 + m) = 0 then 0 else 1) + _
    by_cases e : i = m
    · subst e
      rw [cHas_c (b := b) (b' := b') (fun j hj => he j (by omega) (by omega))]
      omega
    · have := cHas_one m (by omega) (fun j hj => he j (by omega))
      rw [he m (by omega) (by omega)]
      omega
theorem cFad_one {b b' : xB} {p i : Nat} : ∀ m, i < m → (∀ j, j < m → j ≠ i → b' 51 (p * 72 + j) = b 51 (p * 72 + j)) → cFad b' p m + (if 0 < b 51 (p * 72 + i) then 1 else 0) = cFad b p m + (if 0 < b' 51 (p * 72 + i) then 1 else 0)
  | 0, h, _ => absurd h (Nat.not_lt_zero i)
  | m + 1, h, he => by
    show cFad b' p m + (if 0 < b' 51 (p * 72 + m) then 1 else 0) + _ = cFad b p m + (if 0 < b 51 (p * 72 + m) then 1 else 0) + _
    by_cases e : i = m
    · subst e
      rw [cFad_c (b := b) (b' := b') (fun j hj => he j (by omega) (by omega))]
      omega
    · have := cFad_one m (by omega) (fun j hj => he j (by omega))
      rw [he m (by omega) (by omega)]
      omega
/-- one FADE begins: the class's -/
def fdC (b b' : xB) (p i : Nat) (tg t z : Int) : Prop :=
  (∀ r, r < 47 ∨ (52 < r ∧ r < 285) ∨ 286 < r → b' r = b r) ∧ (∀ r j, 47 ≤ r → r ≤ 52 → j ≠ p * 72 + i → b' r j = b r j) ∧ (∀ j, j ≠ p → b' 285 j = b 285 j ∧ b' 286 j = b 286 j) ∧
  b' 48 (p * 72 + i) = z ∧ b' 51 (p * 72 + i) = t ∧ b' 285 p = b 285 p + (if b 48 (p * 72 + i) = 0 then 1 else 0) ∧ b' 286 p = b 286 p - (if 0 < b 51 (p * 72 + i) then 1 else 0) + (if t = 0 then 0 else 1) ∧
  ((t = 0 ∧ b' 47 (p * 72 + i) = tg) ∨ (t ≠ 0 ∧ b' 47 (p * 72 + i) = b 47 (p * 72 + i) ∧ b' 49 (p * 72 + i) = b 47 (p * 72 + i) ∧ b' 50 (p * 72 + i) = tg ∧ b' 52 (p * 72 + i) = 0))
theorem Y_fade_j {b : xB} {p i : Nat} {tg t : Int} (hp : p < 4) (hi : i < 72) (h6 : -100 ≤ b 286 p) (h6' : b 286 p ≤ 100) : ∃ b', ((∀ r, r < 47 ∨ r = 48 ∨ (52 < r ∧ r < 286) ∨ 286 < r → b' r = b r) ∧ (∀ r j, 47 ≤ r → r ≤ 52 → j ≠ p * 72 + i → b' r j = b r j) ∧ (∀ j, j ≠ p → b' 286 j = b 286 j) ∧ b' 51 (p * 72 + i) = t ∧ b' 286 p = b 286 p + (if t = 0 then 0 else 1) ∧
  ((t = 0 ∧ b' 47 (p * 72 + i) = tg) ∨ (t ≠ 0 ∧ b' 47 (p * 72 + i) = b 47 (p * 72 + i) ∧ b' 49 (p * 72 + i) = b 47 (p * 72 + i) ∧ b' 50 (p * 72 + i) = tg ∧ b' 52 (p * 72 + i) = 0))) ∧ ∀ Q : xB → Prop, Q b' → w_Y_startFade_j46 Q b p i tg t := by
  by_cases ht : t = 0
  · refine ⟨x_up (x_up b 51 (p * 72 + i) t) 47 (p * 72 + i) tg, ⟨fun r hr => by rw [upR (by omega), upR (by omega)], fun r j h1 h2 hj => by simp (disch := omega) only [up_eq, up_r, up_i, fil_in, fil_i, fil_r], fun j hj => by simp (disch := omega) only [up_eq, up_r, up_i, fil_in, fil_i, fil_r], by simp (disch := omega) only [up_eq, up_r, up_i, fil_in, fil_i, fil_r], by rw [if_pos ht]; simp (disch := omega) only [up_eq, up_r, up_i, fil_in, fil_i, fil_r]; omega, Or.inl ⟨ht, by simp (disch := omega) only [up_eq, up_r, up_i, fil_in, fil_i, fil_r]⟩⟩, fun Q hQ => ?_⟩
    simp (disch := omega) only [w_Y_startFade_j46, e_T, e_F, e_t, e_f, e_gd, e_bg0, e_bg1, e_nz, Int.toNat_natCast, Int.toNat_add, Int.toNat_mul, xw_al, xw_ar, xw_ml, xw_mr, xw_sl, xw_sr, xw_id, x_sl_c, mc3, mc6, mc8, mc12, mc64, mc72, Nat.add_assoc, Int.reduceToNat, L_isLine_t, L_isLine_f, R_has_t, R_has_f, R_isCh_t, R_isCh_f, V_isCurve_t, V_isCurve_f, Q_isCue_t, Q_isCue_f, Q_isList_t, Q_isList_f, B_isPb_t, B_isPb_f, m_in_t, m_in_f, m_isLine_t, m_isLine_f, m_isPb_t, m_isPb_f, m_isFx_t, m_isFx_f, F_note_e, m_finds_e, Int.reduceToNat, noted_neg, up_eq, up_r, up_i, fil_in, fil_i, fil_r]
    exact hQ
  · refine ⟨x_up (x_up (x_up (x_up (x_up b 51 (p * 72 + i) t) 49 (p * 72 + i) (b 47 (p * 72 + i))) 50 (p * 72 + i) tg) 52 (p * 72 + i) 0) 286 p (b 286 p + 1), ⟨fun r hr => by rw [upR (by omega), upR (by omega), upR (by omega), upR (by omega), upR (by omega)], fun r j h1 h2 hj => by simp (disch := omega) only [up_eq, up_r, up_i, fil_in, fil_i, fil_r], fun j hj => by simp (disch := omega) only [up_eq, up_r, up_i, fil_in, fil_i, fil_r], by simp (disch := omega) only [up_eq, up_r, up_i, fil_in, fil_i, fil_r], by rw [if_neg ht]; simp (disch := omega) only [up_eq, up_r, up_i, fil_in, fil_i, fil_r], Or.inr ⟨ht, by simp (disch := omega) only [up_eq, up_r, up_i, fil_in, fil_i, fil_r], by simp (disch := omega) only [up_eq, up_r, up_i, fil_in, fil_i, fil_r], by simp (disch := omega) only [up_eq, up_r, up_i, fil_in, fil_i, fil_r], by simp (disch := omega) only [up_eq, up_r, up_i, fil_in, fil_i, fil_r]⟩⟩, fun Q hQ => ?_⟩
    simp (disch := omega) only [w_Y_startFade_j46, e_T, e_F, e_t, e_f, e_gd, e_bg0, e_bg1, e_nz, Int.toNat_natCast, Int.toNat_add, Int.toNat_mul, xw_al, xw_ar, xw_ml, xw_mr, xw_sl, xw_sr, xw_id, x_sl_c, mc3, mc6, mc8, mc12, mc64, mc72, Nat.add_assoc, Int.reduceToNat, L_isLine_t, L_isLine_f, R_has_t, R_has_f, R_isCh_t, R_isCh_f, V_isCurve_t, V_isCurve_f, Q_isCue_t, Q_isCue_f, Q_isList_t, Q_isList_f, B_isPb_t, B_isPb_f, m_in_t, m_in_f, m_isLine_t, m_isLine_f, m_isPb_t, m_isPb_f, m_isFx_t, m_isFx_f, F_note_e, m_finds_e, Int.reduceToNat, noted_neg, up_eq, up_r, up_i, fil_in, fil_i, fil_r]
    exact hQ
theorem Y_fade_A {b : xB} {p i : Nat} {tg t z : Int} (hp : p < 4) (hi : i < 72) (h5 : 0 ≤ b 285 p) (h5' : b 285 p ≤ 72) (h6 : 0 ≤ b 286 p) (h6' : b 286 p ≤ 72) : ∃ b', fdC b b' p i tg t z ∧ ∀ Q : xB → Prop, Q b' → w_Y_startFade b p i tg t z Q := by
  have hb : ∃ b1, (∀ r, r ≠ 285 → b1 r = b r) ∧ (∀ j, j ≠ p → b1 285 j = b 285 j) ∧ b1 285 p = b 285 p + (if b 48 (p * 72 + i) = 0 then 1 else 0) ∧ ∀ Q : xB → Prop, w_Y_startFade_j19 Q b1 p i tg t z → w_Y_startFade b p i tg t z Q := by
    by_cases e : b 48 (p * 72 + i) = 0
    · refine ⟨x_up b 285 p (b 285 p + 1), fun r hr => upR hr, fun j hj => by simp (disch := omega) only [up_eq, up_r, up_i, fil_in, fil_i, fil_r], by rw [if_pos e]; simp (disch := omega) only [up_eq, up_r, up_i, fil_in, fil_i, fil_r], fun Q hQ => ?_⟩
      simp (disch := omega) only [w_Y_startFade, e_T, e_F, e_t, e_f, e_gd, e_bg0, e_bg1, e_nz, Int.toNat_natCast, Int.toNat_add, Int.toNat_mul, xw_al, xw_ar, xw_ml, xw_mr, xw_sl, xw_sr, xw_id, x_sl_c, mc3, mc6, mc8, mc12, mc64, mc72, Nat.add_assoc, Int.reduceToNat, L_isLine_t, L_isLine_f, R_has_t, R_has_f, R_isCh_t, R_isCh_f, V_isCurve_t, V_isCurve_f, Q_isCue_t, Q_isCue_f, Q_isList_t, Q_isList_f, B_isPb_t, B_isPb_f, m_in_t, m_in_f, m_isLine_t, m_isLine_f, m_isPb_t, m_isPb_f, m_isFx_t, m_isFx_f, F_note_e, m_finds_e, Int.reduceToNat, noted_neg, up_eq, up_r, up_i, fil_in, fil_i, fil_r]
      exact hQ
    · refine ⟨b, fun _ _ => rfl, fun _ _ => rfl, by rw [if_neg e]; omega, fun Q hQ => ?_⟩
      simp (disch := omega) only [w_Y_startFade, e_T, e_F, e_t, e_f, e_gd, e_bg0, e_bg1, e_nz, Int.toNat_natCast, Int.toNat_add, Int.toNat_mul, xw_al, xw_ar, xw_ml, xw_mr, xw_sl, xw_sr, xw_id, x_sl_c, mc3, mc6, mc8, mc12, mc64, mc72, Nat.add_assoc, Int.reduceToNat, L_isLine_t, L_isLine_f, R_has_t, R_has_f, R_isCh_t, R_isCh_f, V_isCurve_t, V_isCurve_f, Q_isCue_t, Q_isCue_f, Q_isList_t, Q_isList_f, B_isPb_t, B_isPb_f, m_in_t, m_in_f, m_isLine_t, m_isLine_f, m_isPb_t, m_isPb_f, m_isFx_t, m_isFx_f, F_note_e, m_finds_e, Int.reduceToNat, noted_neg, up_eq, up_r, up_i, fil_in, fil_i, fil_r]
      exact hQ
  obtain ⟨b1, a1, a2, a3, a4⟩ := hb
  have e286 : b1 286 p = b 286 p := by rw [a1 286 (by omega)]
  have e51 : b1 51 (p * 72 + i) = b 51 (p * 72 + i) := by rw [a1 51 (by omega)]
  have hb2 : ∃ b2, (∀ r, r ≠ 48 → r ≠ 286 → b2 r = b1 r) ∧ (∀ j, j ≠ p * 72 + i → b2 48 j = b1 48 j) ∧ b2 48 (p * 72 + i) = z ∧ (∀ j, j ≠ p → b2 286 j = b1 286 j) ∧ b2 286 p = b 286 p - (if 0 < b 51 (p * 72 + i) then 1 else 0) ∧ ∀ Q : xB → Prop, w_Y_startFade_j46 Q b2 p i tg t → w_Y_startFade_j19 Q b1 p i tg t z := by
    by_cases e : 0 < b 51 (p * 72 + i)
    · refine ⟨x_up (x_up b1 48 (p * 72 + i) z) 286 p (b 286 p - 1), fun r h1 h2 => by rw [upR h2, upR h1], fun j hj => by simp (disch := omega) only [up_eq, up_r, up_i, fil_in, fil_i, fil_r], by simp (disch := omega) only [up_eq, up_r, up_i, fil_in, fil_i, fil_r], fun j hj => by simp (disch := omega) only [up_eq, up_r, up_i, fil_in, fil_i, fil_r], by rw [if_pos e]; simp (disch := omega) only [up_eq, up_r, up_i, fil_in, fil_i, fil_r], fun Q hQ => ?_⟩
      simp (disch := omega) only [w_Y_startFade_j19, e286, e_T, e_F, e_t, e_f, e_gd, e_bg0, e_bg1, e_nz, Int.toNat_natCast, Int.toNat_add, Int.toNat_mul, xw_al, xw_ar, xw_ml, xw_mr, xw_sl, xw_sr, xw_id, x_sl_c, mc3, mc6, mc8, mc12, mc64, mc72, Nat.add_assoc, Int.reduceToNat, L_isLine_t, L_isLine_f, R_has_t, R_has_f, R_isCh_t, R_isCh_f, V_isCurve_t, V_isCurve_f, Q_isCue_t, Q_isCue_f, Q_isList_t, Q_isList_f, B_isPb_t, B_isPb_f, m_in_t, m_in_f, m_isLine_t, m_isLine_f, m_isPb_t, m_isPb_f, m_isFx_t, m_isFx_f, F_note_e, m_finds_e, Int.reduceToNat, noted_neg, up_eq, up_r, up_i, fil_in, fil_i, fil_r]
      exact hQ
    · refine ⟨x_up b1 48 (p * 72 + i) z, fun r h1 h2 => by rw [upR h1], fun j hj => by simp (disch := omega) only [up_eq, up_r, up_i, fil_in, fil_i, fil_r], by simp (disch := omega) only [up_eq, up_r, up_i, fil_in, fil_i, fil_r], fun j hj => by simp (disch := omega) only [up_eq, up_r, up_i, fil_in, fil_i, fil_r], by rw [if_neg e]; simp (disch := omega) only [up_eq, up_r, up_i, fil_in, fil_i, fil_r]; omega, fun Q hQ => ?_⟩
      simp (disch := omega) only [w_Y_startFade_j19, e_T, e_F, e_t, e_f, e_gd, e_bg0, e_bg1, e_nz, Int.toNat_natCast, Int.toNat_add, Int.toNat_mul, xw_al, xw_ar, xw_ml, xw_mr, xw_sl, xw_sr, xw_id, x_sl_c, mc3, mc6, mc8, mc12, mc64, mc72, Nat.add_assoc, Int.reduceToNat, L_isLine_t, L_isLine_f, R_has_t, R_has_f, R_isCh_t, R_isCh_f, V_isCurve_t, V_isCurve_f, Q_isCue_t, Q_isCue_f, Q_isList_t, Q_isList_f, B_isPb_t, B_isPb_f, m_in_t, m_in_f, m_isLine_t, m_isLine_f, m_isPb_t, m_isPb_f, m_isFx_t, m_isFx_f, F_note_e, m_finds_e, Int.reduceToNat, noted_neg, up_eq, up_r, up_i, fil_in, fil_i, fil_r]
      exact hQ
  obtain ⟨b2, c1, c2, c3, c4, c5, c6⟩ := hb2
  obtain ⟨b', ⟨d1, d2, d3, d4, d5, d6⟩, d7⟩ := Y_fade_j (b := b2) (p := p) (i := i) (tg := tg) (t := t) hp hi (by rw [c5]; split <;> omega) (by rw [c5]; split <;> omega)
  refine ⟨b', ⟨fun r hr => ?_, fun r j h1 h2 hj => ?_, fun j hj => ⟨?_, ?_⟩, ?_, d4, ?_, ?_, ?_⟩, fun Q hQ => a4 Q (c6 Q (d7 Q hQ))⟩
  · rw [d1 r (by omega), c1 r (by omega) (by omega), a1 r (by omega)]
  · rw [d2 r j h1 h2 hj]
    by_cases e : r = 48
    · subst e
      rw [c2 j hj, a1 48 (by omega)]
    · rw [c1 r e (by omega), a1 r (by omega)]
  · rw [d1 285 (by omega), c1 285 (by omega) (by omega), a2 j hj]
  · rw [d3 j hj, c4 j hj, a1 286 (by omega)]
  · rw [d1 48 (by omega), c3]
  · rw [d1 285 (by omega), c1 285 (by omega) (by omega), a3]
  · rw [d5, c5]
  · have e47 : b2 47 (p * 72 + i) = b 47 (p * 72 + i) := by rw [c1 47 (by omega) (by omega), a1 47 (by omega)]
    rw [e47] at d6
    exact d6
/-- one FADE begins: the model's -/
def fdM (g g' : xB) (k : Nat) (tg t z fr : Int) : Prop :=
  (∀ r, r ≠ 71 → g' r = g r) ∧ (∀ i, i ≠ 1750 + k → i ≠ 2038 + k → i ≠ 2326 + k → i ≠ 2614 + k → i ≠ 2902 + k → i ≠ 3190 + k → i ≠ 3478 + k → i ≠ 3766 → g' 71 i = g 71 i) ∧
  g' 71 (1750 + k) = 1 ∧ g' 71 (2902 + k) = t ∧ g' 71 (3478 + k) = z ∧ g' 71 3766 = z ∧ g' 71 (2614 + k) = tg ∧ g' 71 (3190 + k) = 0 ∧ g' 71 (2326 + k) = fr ∧ ((t = 0 ∧ g' 71 (2038 + k) = tg) ∨ (t ≠ 0 ∧ g' 71 (2038 + k) = fr))
theorem m_fade_A {g : xB} {k : Nat} {tg t : Int} (hk : k < 288) (hS0 : 0 ≤ g 71 3766) (hS : g 71 3766 ≤ 1000000000) : ∃ g', fdM g g' k tg t (g 71 3766 + 1) (if g 71 (1750 + k) = 1 then g 71 (2038 + k) else 0) ∧ ∀ Q : xB → Prop, Q g' → w_m_fade_j37 Q g t k tg = True := by
  have key : ∀ fr : Int, ∃ g', fdM g g' k tg t (g 71 3766 + 1) fr ∧ ∀ Q : xB → Prop, Q g' → w_m_fade_j79 Q g t k tg (2326 + k) fr := by
    intro fr
    by_cases ht : t = 0
    · refine ⟨x_up (x_up (x_up (x_up (x_up (x_up (x_up (x_up g 71 (2326 + k) fr) 71 (1750 + k) 1) 71 (2038 + k) tg) 71 (2614 + k) tg) 71 (2902 + k) t) 71 (3190 + k) 0) 71 3766 (g 71 3766 + 1)) 71 (3478 + k) (g 71 3766 + 1), ⟨fun r hr => by rw [upR hr, upR hr, upR hr, upR hr, upR hr, upR hr, upR hr, upR hr], fun i h1 h2 h3 h4 h5 h6 h7 h8 => by simp (disch := omega) only [up_eq, up_r, up_i, fil_in, fil_i, fil_r], by simp (disch := omega) only [up_eq, up_r, up_i, fil_in, fil_i, fil_r], by simp (disch := omega) only [up_eq, up_r, up_i, fil_in, fil_i, fil_r], by simp (disch := omega) only [up_eq, up_r, up_i, fil_in, fil_i, fil_r], by simp (disch := omega) only [up_eq, up_r, up_i, fil_in, fil_i, fil_r], by simp (disch := omega) only [up_eq, up_r, up_i, fil_in, fil_i, fil_r], by simp (disch := omega) only [up_eq, up_r, up_i, fil_in, fil_i, fil_r], by simp (disch := omega) only [up_eq, up_r, up_i, fil_in, fil_i, fil_r], Or.inl ⟨ht, by simp (disch := omega) only [up_eq, up_r, up_i, fil_in, fil_i, fil_r]⟩⟩, fun Q hQ => ?_⟩
      simp (disch := omega) only [w_m_fade_j79, w_m_fade_j123, e_T, e_F, e_t, e_f, e_gd, e_bg0, e_bg1, e_nz, Int.toNat_natCast, Int.toNat_add, Int.toNat_mul, xw_al, xw_ar, xw_ml, xw_mr, xw_sl, xw_sr, xw_id, x_sl_c, mc3, mc6, mc8, mc12, mc64, mc72, Nat.add_assoc, Int.reduceToNat, L_isLine_t, L_isLine_f, R_has_t, R_has_f, R_isCh_t, R_isCh_f, V_isCurve_t, V_isCurve_f, Q_isCue_t, Q_isCue_f, Q_isList_t, Q_isList_f, B_isPb_t, B_isPb_f, m_in_t, m_in_f, m_isLine_t, m_isLine_f, m_isPb_t, m_isPb_f, m_isFx_t, m_isFx_f, F_note_e, m_finds_e, Int.reduceToNat, noted_neg, up_eq, up_r, up_i, fil_in, fil_i, fil_r]
      exact hQ
    · refine ⟨x_up (x_up (x_up (x_up (x_up (x_up (x_up (x_up g 71 (2326 + k) fr) 71 (1750 + k) 1) 71 (2038 + k) fr) 71 (2614 + k) tg) 71 (2902 + k) t) 71 (3190 + k) 0) 71 3766 (g 71 3766 + 1)) 71 (3478 + k) (g 71 3766 + 1), ⟨fun r hr => by rw [upR hr, upR hr, upR hr, upR hr, upR hr, upR hr, upR hr, upR hr], fun i h1 h2 h3 h4 h5 h6 h7 h8 => by simp (disch := omega) only [up_eq, up_r, up_i, fil_in, fil_i, fil_r], by simp (disch := omega) only [up_eq, up_r, up_i, fil_in, fil_i, fil_r], by simp (disch := omega) only [up_eq, up_r, up_i, fil_in, fil_i, fil_r], by simp (disch := omega) only [up_eq, up_r, up_i, fil_in, fil_i, fil_r], by simp (disch := omega) only [up_eq, up_r, up_i, fil_in, fil_i, fil_r], by simp (disch := omega) only [up_eq, up_r, up_i, fil_in, fil_i, fil_r], by simp (disch := omega) only [up_eq, up_r, up_i, fil_in, fil_i, fil_r], by simp (disch := omega) only [up_eq, up_r, up_i, fil_in, fil_i, fil_r], Or.inr ⟨ht, by simp (disch := omega) only [up_eq, up_r, up_i, fil_in, fil_i, fil_r]⟩⟩, fun Q hQ => ?_⟩
      simp (disch := omega) only [w_m_fade_j79, w_m_fade_j123, e_T, e_F, e_t, e_f, e_gd, e_bg0, e_bg1, e_nz, Int.toNat_natCast, Int.toNat_add, Int.toNat_mul, xw_al, xw_ar, xw_ml, xw_mr, xw_sl, xw_sr, xw_id, x_sl_c, mc3, mc6, mc8, mc12, mc64, mc72, Nat.add_assoc, Int.reduceToNat, L_isLine_t, L_isLine_f, R_has_t, R_has_f, R_isCh_t, R_isCh_f, V_isCurve_t, V_isCurve_f, Q_isCue_t, Q_isCue_f, Q_isList_t, Q_isList_f, B_isPb_t, B_isPb_f, m_in_t, m_in_f, m_isLine_t, m_isLine_f, m_isPb_t, m_isPb_f, m_isFx_t, m_isFx_f, F_note_e, m_finds_e, Int.reduceToNat, noted_neg, up_eq, up_r, up_i, fil_in, fil_i, fil_r]
      exact hQ
  by_cases e : g 71 (1750 + k) = 1
  · obtain ⟨g', h1, h2⟩ := key (g 71 (2038 + k))
    rw [if_pos e]
    refine ⟨g', h1, fun Q hQ => eq_true ?_⟩
    simp (disch := omega) only [w_m_fade_j37, e_T, e_F, e_t, e_f, e_gd, e_bg0, e_bg1, e_nz, Int.toNat_natCast, Int.toNat_add, Int.toNat_mul, xw_al, xw_ar, xw_ml, xw_mr, xw_sl, xw_sr, xw_id, x_sl_c, mc3, mc6, mc8, mc12, mc64, mc72, Nat.add_assoc, Int.reduceToNat, L_isLine_t, L_isLine_f, R_has_t, R_has_f, R_isCh_t, R_isCh_f, V_isCurve_t, V_isCurve_f, Q_isCue_t, Q_isCue_f, Q_isList_t, Q_isList_f, B_isPb_t, B_isPb_f, m_in_t, m_in_f, m_isLine_t, m_isLine_f, m_isPb_t, m_isPb_f, m_isFx_t, m_isFx_f, F_note_e, m_finds_e, Int.reduceToNat, noted_neg, up_eq, up_r, up_i, fil_in, fil_i, fil_r]
    exact h2 Q hQ
  · obtain ⟨g', h1, h2⟩ := key 0
    rw [if_neg e]
    refine ⟨g', h1, fun Q hQ => eq_true ?_⟩
    simp (disch := omega) only [w_m_fade_j37, e_T, e_F, e_t, e_f, e_gd, e_bg0, e_bg1, e_nz, Int.toNat_natCast, Int.toNat_add, Int.toNat_mul, xw_al, xw_ar, xw_ml, xw_mr, xw_sl, xw_sr, xw_id, x_sl_c, mc3, mc6, mc8, mc12, mc64, mc72, Nat.add_assoc, Int.reduceToNat, L_isLine_t, L_isLine_f, R_has_t, R_has_f, R_isCh_t, R_isCh_f, V_isCurve_t, V_isCurve_f, Q_isCue_t, Q_isCue_f, Q_isList_t, Q_isList_f, B_isPb_t, B_isPb_f, m_in_t, m_in_f, m_isLine_t, m_isLine_f, m_isPb_t, m_isPb_f, m_isFx_t, m_isFx_f, F_note_e, m_finds_e, Int.reduceToNat, noted_neg, up_eq, up_r, up_i, fil_in, fil_i, fil_r]
    exact h2 Q hQ
/-- both -/
theorem rG_fade {M n : Int} {b b1 b' g g' : xB} {p f c : Nat} {tg t : Int} (h : rG M n b (g 71)) (hp : p < 4) (hf : (f : Int) < b 161 0) (hc : c < kChan (b 17 f)) (hc3 : c < 3) (htg : 0 ≤ tg) (htg' : tg ≤ kTop (b 17 f) c) (ht : 0 ≤ t) (ht' : t ≤ 100) (hb1 : b1 = x_up b 110 0 (b 110 0 + 1)) (hC : fdC b1 b' p (f * 3 + c) tg t (b 110 0 + 1)) (hM : fdM g g' (p * 72 + (f * 3 + c)) tg t (g 71 3766 + 1) (if g 71 (1750 + (p * 72 + (f * 3 + c))) = 1 then g 71 (2038 + (p * 72 + (f * 3 + c))) else 0)) : rG (M + 1) n b' (g' 71) ∧ fGb b b' ∧ fGm g g' := by
  obtain ⟨hF, hL, hR, hP, hV, hQ, hY, hX, u1, u2, u3, u4⟩ := h
  obtain ⟨c1, c2, c3, c4, c5, c6, c7, c8⟩ := hC
  obtain ⟨m1, m2, m3, m4, m5, m6, m7, m8, m9, m10⟩ := hM
  have hf24 : f < 24 := by have := hR.2.2.1; omega
  have B : ∀ r, r < 47 ∨ (52 < r ∧ r < 110) ∨ (110 < r ∧ r < 285) ∨ 286 < r → b' r = b r := fun r hr => by rw [c1 r (by omega), hb1, upR (by omega)]
  have B1 : ∀ r j, r ≠ 110 → b1 r j = b r j := fun r j hr => by rw [hb1, up_r hr]
  have e110 : b' 110 0 = b 110 0 + 1 := by rw [c1 110 (by omega), hb1, up_eq]
  have S : ∀ i, i < 1750 ∨ (3766 < i) → g' 71 i = g 71 i := fun i hi => m2 i (by omega) (by omega) (by omega) (by omega) (by omega) (by omega) (by omega) (by omega)
  refine ⟨⟨rF_c hF (B _ (by omega)) (fun i _ _ => S i (by omega)), rL_c hL (B _ (by omega)) (B _ (by omega)) (B _ (by omega)) (B _ (by omega)) (B _ (by omega)) (B _ (by omega)) (fun i hi => S i (by omega)), rR_c hR (B _ (by omega)) (B _ (by omega)) (B _ (by omega)) (B _ (by omega)) (B _ (by omega)) (B _ (by omega)) (B _ (by omega)) (B _ (by omega)) (B _ (by omega)) (fun i hi => S i (by omega)), rP_c hP (B _ (by omega)) (B _ (by omega)) (B _ (by omega)) (B _ (by omega)) (B _ (by omega)) (B _ (by omega)) (B _ (by omega)) (fun i hi => S i (by omega)), rV_c hV (B _ (by omega)) (B _ (by omega)) (B _ (by omega)) (B _ (by omega)) (B _ (by omega)) (fun i _ hi => S i (by omega)), rQ_c hQ (B _ (by omega)) (B _ (by omega)) (B _ (by omega)) (B _ (by omega)) (B _ (by omega)) (B _ (by omega)) (B _ (by omega)) (B _ (by omega)) (by rw [B 161 (by omega)]; exact Int.le_refl _) (fun i _ hi => S i (by omega)), ?_, rX_c hX (B _ (by omega)) (B _ (by omega)) (B _ (by omega)) (B _ (by omega)) (B _ (by omega)) (by rw [B 161 (by omega)]; exact Int.le_refl _) (fun _ _ => by rw [B 17 (by omega)]) (fun i hi => S i (by omega)), ?_⟩, ?_, ⟨fun r a1 a2 a3 a4 a5 a6 a7 => m1 r a1, fun i hi => S i (by omega)⟩⟩
  · intro k hk
    by_cases e : k = p
    · subst e
      obtain ⟨a1, a2, a3, a4, a5, a6, a7, a8, a9, a12, a13, a14, a15, a16, a17⟩ := hY k hk
      have n48 := cHas_one (b := b) (b' := b') (p := k) (i := f * 3 + c) 72 (by omega) (fun j hj hne => by rw [c2 48 (k * 72 + j) (by omega) (by omega) (by omega), B1 48 _ (by omega)])
      have n51 := cFad_one (b := b) (b' := b') (p := k) (i := f * 3 + c) 72 (by omega) (fun j hj hne => by rw [c2 51 (k * 72 + j) (by omega) (by omega) (by omega), B1 51 _ (by omega)])
      rw [c4, if_neg (c := b 110 0 + 1 = 0) (by omega)] at n48
      rw [c5] at n51
      rw [B1 48 _ (by omega), B1 285 _ (by omega)] at c6
      rw [B1 51 _ (by omega), B1 286 _ (by omega)] at c7
      unfold rY1
      rw [B 280 (by omega), B 281 (by omega), B 282 (by omega), B 287 (by omega), B 288 (by omega), B 108 (by omega), B 39 (by omega), S (1726 + k) (by omega), S (1730 + k) (by omega), S (1734 + k) (by omega), S (1738 + k) (by omega)]
      refine ⟨a1, a2, a3, a4, a5, a6, a7, a8, a9, ?_, ?_, a14, a15, a16, ?_⟩
      · rw [c6, a12]
        by_cases z : b 48 (k * 72 + (f * 3 + c)) = 0
        · rw [if_pos z] at n48 ⊢
          omega
        · rw [if_neg z] at n48 ⊢
          omega
      · rw [c7, a13]
        have hle := cFad_le (b := b) (p := k) 72
        by_cases z : 0 < b 51 (k * 72 + (f * 3 + c))
        · rw [if_pos z] at n51 ⊢
          by_cases z2 : t = 0
          · rw [if_neg (by omega)] at n51
            rw [if_pos z2]
            omega
          · rw [if_pos (by omega)] at n51
            rw [if_neg z2]
            omega
        · rw [if_neg z] at n51 ⊢
          by_cases z2 : t = 0
          · rw [if_neg (by omega)] at n51
            rw [if_pos z2]
            omega
          · rw [if_pos (by omega)] at n51
            rw [if_neg z2]
            omega
      · intro f' hf' c' hc'
        by_cases e : f' = f ∧ c' = c
        · obtain ⟨rfl, rfl⟩ := e
          unfold rC1
          rw [B 161 (by omega), B 17 (by omega), c4, c5, m3, m4, m5, e110]
          have old := a17 f' hf24 c' hc3
          have e47 : b1 47 (k * 72 + (f' * 3 + c')) = b 47 (k * 72 + (f' * 3 + c')) := B1 47 _ (by omega)
          rw [e47] at c8
          have fr : (if g 71 (1750 + (k * 72 + (f' * 3 + c'))) = 1 then g 71 (2038 + (k * 72 + (f' * 3 + c'))) else 0) = b 47 (k * 72 + (f' * 3 + c')) ∧ 0 ≤ b 47 (k * 72 + (f' * 3 + c')) ∧ b 47 (k * 72 + (f' * 3 + c')) ≤ kTop (b 17 f') c' := by
            rcases old with ⟨o0, o1, o2, o3, o4, o5, o6, o7, o8, o9⟩ | ⟨o1, o2, o3, o4, o5⟩
            · rw [if_pos o3]
              exact ⟨o5.symm, o6, o7⟩
            · rw [if_neg (by omega)]
              omega
          obtain ⟨fr1, fr2, fr3⟩ := fr
          rw [fr1] at m9 m10
          refine Or.inl ⟨⟨hf, hc⟩, by omega, by omega, rfl, by omega, ?_, ?_, ?_, rfl, ?_⟩
          · rcases c8 with ⟨t0, v⟩ | ⟨t0, v, -⟩ <;> rcases m10 with ⟨t1, w⟩ | ⟨t1, w⟩ <;> omega
          · rcases c8 with ⟨t0, v⟩ | ⟨t0, v, -⟩ <;> omega
          · rcases c8 with ⟨t0, v⟩ | ⟨t0, v, -⟩ <;> omega
          · rcases c8 with ⟨t0, v⟩ | ⟨t0, v, v2, v3, v4⟩
            · exact Or.inl t0
            · rw [v2, v3, v4, m7, m8, m9]
              exact Or.inr ⟨by omega, ht', rfl, fr2, fr3, rfl, htg, htg', rfl, by omega, by omega⟩
        · have hne : k * 72 + (f' * 3 + c') ≠ k * 72 + (f * 3 + c) := by omega
          exact rC1_c (a17 f' hf' c' hc') (fun i => ⟨by rw [B 161 (by omega), B 17 (by omega)]; exact i, by rw [B 17 (by omega)]⟩) (by rw [c2 47 _ (by omega) (by omega) hne, B1 47 _ (by omega)]) (by rw [c2 48 _ (by omega) (by omega) hne, B1 48 _ (by omega)]) (by rw [c2 49 _ (by omega) (by omega) hne, B1 49 _ (by omega)]) (by rw [c2 50 _ (by omega) (by omega) hne, B1 50 _ (by omega)]) (by rw [c2 51 _ (by omega) (by omega) hne, B1 51 _ (by omega)]) (by rw [c2 52 _ (by omega) (by omega) hne, B1 52 _ (by omega)]) (by omega) (m2 _ (by omega) (by omega) (by omega) (by omega) (by omega) (by omega) (by omega) (by omega)) (m2 _ (by omega) (by omega) (by omega) (by omega) (by omega) (by omega) (by omega) (by omega)) (m2 _ (by omega) (by omega) (by omega) (by omega) (by omega) (by omega) (by omega) (by omega)) (m2 _ (by omega) (by omega) (by omega) (by omega) (by omega) (by omega) (by omega) (by omega)) (m2 _ (by omega) (by omega) (by omega) (by omega) (by omega) (by omega) (by omega) (by omega)) (m2 _ (by omega) (by omega) (by omega) (by omega) (by omega) (by omega) (by omega) (by omega)) (m2 _ (by omega) (by omega) (by omega) (by omega) (by omega) (by omega) (by omega) (by omega))
    · have hne : ∀ j, j < 72 → k * 72 + j ≠ p * 72 + (f * 3 + c) := fun j hj => by omega
      refine rY1_c hk (hY k hk) (fun j hj => by rw [c2 47 _ (by omega) (by omega) (hne j hj), B1 47 _ (by omega)]) (fun j hj => by rw [c2 48 _ (by omega) (by omega) (hne j hj), B1 48 _ (by omega)]) (fun j hj => by rw [c2 49 _ (by omega) (by omega) (hne j hj), B1 49 _ (by omega)]) (fun j hj => by rw [c2 50 _ (by omega) (by omega) (hne j hj), B1 50 _ (by omega)]) (fun j hj => by rw [c2 51 _ (by omega) (by omega) (hne j hj), B1 51 _ (by omega)]) (fun j hj => by rw [c2 52 _ (by omega) (by omega) (hne j hj), B1 52 _ (by omega)]) (by rw [B 280 (by omega)]) (by rw [B 281 (by omega)]) (by rw [B 282 (by omega)]) (by rw [(c3 k e).1, B1 285 _ (by omega)]) (by rw [(c3 k e).2, B1 286 _ (by omega)]) (by rw [B 287 (by omega)]) (by rw [B 288 (by omega)]) (fun i hi => by rw [B 39 (by omega)]; exact Int.le_refl _) (by rw [B 108 (by omega)]; exact Int.le_refl _) (by rw [B 161 (by omega)]; exact Int.le_refl _) (fun _ _ => by rw [B 17 (by omega)]) (by omega) (S _ (by omega)) (S _ (by omega)) (S _ (by omega)) (S _ (by omega)) (fun j hj => ?_)
      have := hne j hj
      exact ⟨m2 _ (by omega) (by omega) (by omega) (by omega) (by omega) (by omega) (by omega) (by omega), m2 _ (by omega) (by omega) (by omega) (by omega) (by omega) (by omega) (by omega) (by omega), m2 _ (by omega) (by omega) (by omega) (by omega) (by omega) (by omega) (by omega) (by omega), m2 _ (by omega) (by omega) (by omega) (by omega) (by omega) (by omega) (by omega) (by omega), m2 _ (by omega) (by omega) (by omega) (by omega) (by omega) (by omega) (by omega) (by omega), m2 _ (by omega) (by omega) (by omega) (by omega) (by omega) (by omega) (by omega) (by omega), m2 _ (by omega) (by omega) (by omega) (by omega) (by omega) (by omega) (by omega) (by omega)⟩
  · exact ⟨by omega, by omega, by omega, by rw [S 3767 (by omega)]; exact u4⟩
  · intro r hr
    exact B r (by omega)
