/-! ===== acts: stop, release ===== -/
section
variable {n : Nat} {b g : xB}
theorem cFad_le {p : Nat} : ∀ m, cFad b p m ≤ m
  | 0 => Nat.le_refl 0
  | m + 1 => by
    have := cFad_le (p := p) m
    show cFad b p m + (if 0 < b 51 (p * 72 + m) then 1 else 0) ≤ m + 1
    split <;> omega
theorem cHas_le {p : Nat} : ∀ m, cHas b p m ≤ m
  | 0 => Nat.le_refl 0
  | m + 1 => by
    have := cHas_le (p := p) m
    show cHas b p m + (if b 48 (p * 72 + m) = 0 then 0 else 1) ≤ m + 1
    split <;> omega
theorem cFad_0 {p : Nat} : ∀ m, (∀ i, i < m → b 51 (p * 72 + i) = 0) → cFad b p m = 0
  | 0, _ => rfl
  | m + 1, h => by
    show cFad b p m + (if 0 < b 51 (p * 72 + m) then 1 else 0) = 0
    rw [cFad_0 m (fun i hi => h i (by omega)), if_neg (by rw [h m (by omega)]; decide)]
theorem cHas_0 {p : Nat} : ∀ m, (∀ i, i < m → b 48 (p * 72 + i) = 0) → cHas b p m = 0
  | 0, _ => rfl
  | m + 1, h => by
    show cHas b p m + (if b 48 (p * 72 + m) = 0 then 0 else 1) = 0
    rw [cHas_0 m (fun i hi => h i (by omega)), if_pos (h m (by omega))]
theorem rC_at {s : Nat → Int} {p i : Nat} (h : rC b s p) (hi : i < 72) : ∃ is m, rC1 b s is m (p * 72 + i) := by
  have := h (i / 3) (by omega) (i % 3) (by omega)
  rw [show i / 3 * 3 + i % 3 = i by omega] at this
  exact ⟨_, _, this⟩
theorem m_fades_k {p : Nat} (hp : p < 4) (hC : rC b (g 71) p) {Q : Int → xB → Prop} {K : xB → Int → Prop} (hK : K g (cFad b p 72 : Int)) : ∀ k i, i + k = 72 → w_m_fades_h7 Q K (k + 1) g p (cFad b p i : Int) ((p * 72 + i : Nat) : Int)
  | 0, i, h => by
    have : i = 72 := by omega
    subst this
    rw [w_m_fades_h7_s]
    simp (disch := omega) only [e_T, e_F, e_t, e_f, e_gd, e_bg0, e_bg1, e_nz, Int.toNat_natCast, Int.toNat_add, Int.toNat_mul, xw_al, xw_ar, xw_ml, xw_mr, xw_sl, xw_sr, xw_id, x_sl_c, mc3, mc6, mc8, mc12, mc64, mc72, Nat.add_assoc, Int.reduceToNat, L_isLine_t, L_isLine_f, R_has_t, R_has_f, R_isCh_t, R_isCh_f, V_isCurve_t, V_isCurve_f, Q_isCue_t, Q_isCue_f, Q_isList_t, Q_isList_f, B_isPb_t, B_isPb_f, m_in_t, m_in_f, m_isLine_t, m_isLine_f, m_isPb_t, m_isPb_f, m_isFx_t, m_isFx_f, F_note_e, m_finds_e, Int.reduceToNat, noted_neg, up_eq, up_r, up_i, fil_in, fil_i, fil_r]
    exact hK
  | k + 1, i, h => by
    have ih := m_fades_k hp hC (Q := Q) hK k (i + 1) (by omega)
    have hle := cFad_le (b := b) (p := p) i
    have hs : (cFad b p (i + 1) : Int) = (cFad b p i : Int) + (if 0 < b 51 (p * 72 + i) then 1 else 0) := by
      show ((cFad b p i + (if 0 < b 51 (p * 72 + i) then 1 else 0) : Nat) : Int) = _
      split <;> omega
    have e1 : ((p * 72 + i : Nat) : Int) + 1 = ((p * 72 + (i + 1) : Nat) : Int) := by omega
    obtain ⟨is, m, q⟩ := rC_at hC (show i < 72 by omega)
    rw [w_m_fades_h7_s]
    rcases q with ⟨-, c1, c2, c3, c4, c5, c6, c7, c8, c9⟩ | ⟨c1, c2, c3, c4, c5⟩
    · by_cases e : 0 < b 51 (p * 72 + i)
      · rw [if_pos e] at hs
        simp (disch := omega) only [w_m_fades_j51, e_T, e_F, e_t, e_f, e_gd, e_bg0, e_bg1, e_nz, Int.toNat_natCast, Int.toNat_add, Int.toNat_mul, xw_al, xw_ar, xw_ml, xw_mr, xw_sl, xw_sr, xw_id, x_sl_c, mc3, mc6, mc8, mc12, mc64, mc72, Nat.add_assoc, Int.reduceToNat, L_isLine_t, L_isLine_f, R_has_t, R_has_f, R_isCh_t, R_isCh_f, V_isCurve_t, V_isCurve_f, Q_isCue_t, Q_isCue_f, Q_isList_t, Q_isList_f, B_isPb_t, B_isPb_f, m_in_t, m_in_f, m_isLine_t, m_isLine_f, m_isPb_t, m_isPb_f, m_isFx_t, m_isFx_f, F_note_e, m_finds_e, Int.reduceToNat, noted_neg, up_eq, up_r, up_i, fil_in, fil_i, fil_r]
        rw [e1, ← hs]
        exact ih
      · rw [if_neg e] at hs
        simp (disch := omega) only [w_m_fades_j51, w_m_fades_j50, e_T, e_F, e_t, e_f, e_gd, e_bg0, e_bg1, e_nz, Int.toNat_natCast, Int.toNat_add, Int.toNat_mul, xw_al, xw_ar, xw_ml, xw_mr, xw_sl, xw_sr, xw_id, x_sl_c, mc3, mc6, mc8, mc12, mc64, mc72, Nat.add_assoc, Int.reduceToNat, L_isLine_t, L_isLine_f, R_has_t, R_has_f, R_isCh_t, R_isCh_f, V_isCurve_t, V_isCurve_f, Q_isCue_t, Q_isCue_f, Q_isList_t, Q_isList_f, B_isPb_t, B_isPb_f, m_in_t, m_in_f, m_isLine_t, m_isLine_f, m_isPb_t, m_isPb_f, m_isFx_t, m_isFx_f, F_note_e, m_finds_e, Int.reduceToNat, noted_neg, up_eq, up_r, up_i, fil_in, fil_i, fil_r]
        rw [e1, ← hs]
        exact ih
    · rw [if_neg (by omega)] at hs
      simp (disch := omega) only [w_m_fades_j51, w_m_fades_j50, e_T, e_F, e_t, e_f, e_gd, e_bg0, e_bg1, e_nz, Int.toNat_natCast, Int.toNat_add, Int.toNat_mul, xw_al, xw_ar, xw_ml, xw_mr, xw_sl, xw_sr, xw_id, x_sl_c, mc3, mc6, mc8, mc12, mc64, mc72, Nat.add_assoc, Int.reduceToNat, L_isLine_t, L_isLine_f, R_has_t, R_has_f, R_isCh_t, R_isCh_f, V_isCurve_t, V_isCurve_f, Q_isCue_t, Q_isCue_f, Q_isList_t, Q_isList_f, B_isPb_t, B_isPb_f, m_in_t, m_in_f, m_isLine_t, m_isLine_f, m_isPb_t, m_isPb_f, m_isFx_t, m_isFx_f, F_note_e, m_finds_e, Int.reduceToNat, noted_neg, up_eq, up_r, up_i, fil_in, fil_i, fil_r]
      rw [e1, ← hs]
      exact ih
theorem m_fades_i {p : Nat} (hp : p < 4) (hC : rC b (g 71) p) {Q : Int → xB → Prop} (hQ : Q (cFad b p 72 : Int) g) : w_m_fades g p Q := by
  refine ⟨72 + 1, ?_⟩
  have := m_fades_k hp hC (Q := Q) (K := fun g2 v2 => Q v2 g2) hQ 72 0 rfl
  rw [xw_id (by omega) (by omega), show (72 : Int) * (p : Int) = ((p * 72 + 0 : Nat) : Int) by omega]
  exact this
theorem m_channels_k {p : Nat} (hp : p < 4) (hC : rC b (g 71) p) {Q : Int → xB → Prop} {K : xB → Int → Prop} (hK : K g (cHas b p 72 : Int)) : ∀ k i, i + k = 72 → w_m_channels_h7 Q K (k + 1) g p (cHas b p i : Int) ((p * 72 + i : Nat) : Int)
  | 0, i, h => by
    have : i = 72 := by omega
    subst this
    rw [w_m_channels_h7_s]
    simp (disch := omega) only [e_T, e_F, e_t, e_f, e_gd, e_bg0, e_bg1, e_nz, Int.toNat_natCast, Int.toNat_add, Int.toNat_mul, xw_al, xw_ar, xw_ml, xw_mr, xw_sl, xw_sr, xw_id, x_sl_c, mc3, mc6, mc8, mc12, mc64, mc72, Nat.add_assoc, Int.reduceToNat, L_isLine_t, L_isLine_f, R_has_t, R_has_f, R_isCh_t, R_isCh_f, V_isCurve_t, V_isCurve_f, Q_isCue_t, Q_isCue_f, Q_isList_t, Q_isList_f, B_isPb_t, B_isPb_f, m_in_t, m_in_f, m_isLine_t, m_isLine_f, m_isPb_t, m_isPb_f, m_isFx_t, m_isFx_f, F_note_e, m_finds_e, Int.reduceToNat, noted_neg, up_eq, up_r, up_i, fil_in, fil_i, fil_r]
    exact hK
  | k + 1, i, h => by
    have ih := m_channels_k hp hC (Q := Q) hK k (i + 1) (by omega)
    have hle := cHas_le (b := b) (p := p) i
    have hs : (cHas b p (i + 1) : Int) = (cHas b p i : Int) + (if b 48 (p * 72 + i) = 0 then 0 else 1) := by
      show ((cHas b p i + (if b 48 (p * 72 + i) = 0 then 0 else 1) : Nat) : Int) = _
      split <;> omega
    have e1 : ((p * 72 + i : Nat) : Int) + 1 = ((p * 72 + (i + 1) : Nat) : Int) := by omega
    obtain ⟨is, m, q⟩ := rC_at hC (show i < 72 by omega)
    rw [w_m_channels_h7_s]
    rcases q with ⟨-, c1, c2, c3, c4, c5, c6, c7, c8, c9⟩ | ⟨c1, c2, c3, c4, c5⟩
    · rw [if_neg (by omega)] at hs
      simp (disch := omega) only [c3, e_T, e_F, e_t, e_f, e_gd, e_bg0, e_bg1, e_nz, Int.toNat_natCast, Int.toNat_add, Int.toNat_mul, xw_al, xw_ar, xw_ml, xw_mr, xw_sl, xw_sr, xw_id, x_sl_c, mc3, mc6, mc8, mc12, mc64, mc72, Nat.add_assoc, Int.reduceToNat, L_isLine_t, L_isLine_f, R_has_t, R_has_f, R_isCh_t, R_isCh_f, V_isCurve_t, V_isCurve_f, Q_isCue_t, Q_isCue_f, Q_isList_t, Q_isList_f, B_isPb_t, B_isPb_f, m_in_t, m_in_f, m_isLine_t, m_isLine_f, m_isPb_t, m_isPb_f, m_isFx_t, m_isFx_f, F_note_e, m_finds_e, Int.reduceToNat, noted_neg, up_eq, up_r, up_i, fil_in, fil_i, fil_r]
      rw [e1, ← hs]
      exact ih
    · rw [if_pos c1] at hs
      simp (disch := omega) only [c2, e_T, e_F, e_t, e_f, e_gd, e_bg0, e_bg1, e_nz, Int.toNat_natCast, Int.toNat_add, Int.toNat_mul, xw_al, xw_ar, xw_ml, xw_mr, xw_sl, xw_sr, xw_id, x_sl_c, mc3, mc6, mc8, mc12, mc64, mc72, Nat.add_assoc, Int.reduceToNat, L_isLine_t, L_isLine_f, R_has_t, R_has_f, R_isCh_t, R_isCh_f, V_isCurve_t, V_isCurve_f, Q_isCue_t, Q_isCue_f, Q_isList_t, Q_isList_f, B_isPb_t, B_isPb_f, m_in_t, m_in_f, m_isLine_t, m_isLine_f, m_isPb_t, m_isPb_f, m_isFx_t, m_isFx_f, F_note_e, m_finds_e, Int.reduceToNat, noted_neg, up_eq, up_r, up_i, fil_in, fil_i, fil_r]
      rw [e1, ← hs]
      exact ih
theorem m_channels_i {p : Nat} (hp : p < 4) (hC : rC b (g 71) p) {Q : Int → xB → Prop} (hQ : Q (cHas b p 72 : Int) g) : w_m_channels g p Q := by
  refine ⟨72 + 1, ?_⟩
  have := m_channels_k hp hC (Q := Q) (K := fun g2 v2 => Q v2 g2) hQ 72 0 rfl
  rw [xw_id (by omega) (by omega), show (72 : Int) * (p : Int) = ((p * 72 + 0 : Nat) : Int) by omega]
  exact this
theorem m_stop_k {p : Nat} (hp : p < 4) {r : Int} {Q : Int → xB → Prop} {K : xB → Int → Int → Prop} : ∀ k i (g : xB), i + k = 72 → K (x_fil g 71 (2902 + (p * 72 + i)) k 0) p r → w_m_stop_h21 Q K (k + 1) g p r ((p * 72 + i : Nat) : Int)
  | 0, i, g, h, hK => by
    rw [w_m_stop_h21_s]
    simp (disch := omega) only [e_T, e_F, e_t, e_f, e_gd, e_bg0, e_bg1, e_nz, Int.toNat_natCast, Int.toNat_add, Int.toNat_mul, xw_al, xw_ar, xw_ml, xw_mr, xw_sl, xw_sr, xw_id, x_sl_c, mc3, mc6, mc8, mc12, mc64, mc72, Nat.add_assoc, Int.reduceToNat, L_isLine_t, L_isLine_f, R_has_t, R_has_f, R_isCh_t, R_isCh_f, V_isCurve_t, V_isCurve_f, Q_isCue_t, Q_isCue_f, Q_isList_t, Q_isList_f, B_isPb_t, B_isPb_f, m_in_t, m_in_f, m_isLine_t, m_isLine_f, m_isPb_t, m_isPb_f, m_isFx_t, m_isFx_f, F_note_e, m_finds_e, Int.reduceToNat, noted_neg, up_eq, up_r, up_i, fil_in, fil_i, fil_r]
    rw [fil0] at hK
    exact hK
  | k + 1, i, g, h, hK => by
    have e1 : ((p * 72 + i : Nat) : Int) + 1 = ((p * 72 + (i + 1) : Nat) : Int) := by omega
    rw [w_m_stop_h21_s]
    simp (disch := omega) only [e_T, e_F, e_t, e_f, e_gd, e_bg0, e_bg1, e_nz, Int.toNat_natCast, Int.toNat_add, Int.toNat_mul, xw_al, xw_ar, xw_ml, xw_mr, xw_sl, xw_sr, xw_id, x_sl_c, mc3, mc6, mc8, mc12, mc64, mc72, Nat.add_assoc, Int.reduceToNat, L_isLine_t, L_isLine_f, R_has_t, R_has_f, R_isCh_t, R_isCh_f, V_isCurve_t, V_isCurve_f, Q_isCue_t, Q_isCue_f, Q_isList_t, Q_isList_f, B_isPb_t, B_isPb_f, m_in_t, m_in_f, m_isLine_t, m_isLine_f, m_isPb_t, m_isPb_f, m_isFx_t, m_isFx_f, F_note_e, m_finds_e, Int.reduceToNat, noted_neg, up_eq, up_r, up_i, fil_in, fil_i, fil_r]
    rw [e1]
    exact m_stop_k hp k (i + 1) _ (by omega) (by rw [show 2902 + (p * 72 + (i + 1)) = 2902 + (p * 72 + i) + 1 by omega, fil_s]; exact hK)
theorem fil_s2 {b : xB} {o i j k : Nat} : x_fil (x_fil (x_up (x_up b o i 0) o j 0) o (i + 1) k 0) o (j + 1) k 0 = x_fil (x_fil b o i (k + 1) 0) o j (k + 1) 0 := by
  funext r x
  unfold x_fil x_up
  repeat' split
  all_goals first | rfl | omega
theorem m_release_k {p : Nat} (hp : p < 4) {r : Int} {Q : Int → xB → Prop} {K : xB → Int → Int → Prop} : ∀ k i (g : xB), i + k = 72 → K (x_fil (x_fil g 71 (1750 + (p * 72 + i)) k 0) 71 (2902 + (p * 72 + i)) k 0) p r → w_m_release_h21 Q K (k + 1) g p r ((p * 72 + i : Nat) : Int)
  | 0, i, g, h, hK => by
    rw [w_m_release_h21_s]
    simp (disch := omega) only [e_T, e_F, e_t, e_f, e_gd, e_bg0, e_bg1, e_nz, Int.toNat_natCast, Int.toNat_add, Int.toNat_mul, xw_al, xw_ar, xw_ml, xw_mr, xw_sl, xw_sr, xw_id, x_sl_c, mc3, mc6, mc8, mc12, mc64, mc72, Nat.add_assoc, Int.reduceToNat, L_isLine_t, L_isLine_f, R_has_t, R_has_f, R_isCh_t, R_isCh_f, V_isCurve_t, V_isCurve_f, Q_isCue_t, Q_isCue_f, Q_isList_t, Q_isList_f, B_isPb_t, B_isPb_f, m_in_t, m_in_f, m_isLine_t, m_isLine_f, m_isPb_t, m_isPb_f, m_isFx_t, m_isFx_f, F_note_e, m_finds_e, Int.reduceToNat, noted_neg, up_eq, up_r, up_i, fil_in, fil_i, fil_r]
    rw [fil0, fil0] at hK
    exact hK
  | k + 1, i, g, h, hK => by
    have e1 : ((p * 72 + i : Nat) : Int) + 1 = ((p * 72 + (i + 1) : Nat) : Int) := by omega
    rw [w_m_release_h21_s]
    simp (disch := omega) only [e_T, e_F, e_t, e_f, e_gd, e_bg0, e_bg1, e_nz, Int.toNat_natCast, Int.toNat_add, Int.toNat_mul, xw_al, xw_ar, xw_ml, xw_mr, xw_sl, xw_sr, xw_id, x_sl_c, mc3, mc6, mc8, mc12, mc64, mc72, Nat.add_assoc, Int.reduceToNat, L_isLine_t, L_isLine_f, R_has_t, R_has_f, R_isCh_t, R_isCh_f, V_isCurve_t, V_isCurve_f, Q_isCue_t, Q_isCue_f, Q_isList_t, Q_isList_f, B_isPb_t, B_isPb_f, m_in_t, m_in_f, m_isLine_t, m_isLine_f, m_isPb_t, m_isPb_f, m_isFx_t, m_isFx_f, F_note_e, m_finds_e, Int.reduceToNat, noted_neg, up_eq, up_r, up_i, fil_in, fil_i, fil_r]
    rw [e1]
    exact m_release_k hp k (i + 1) _ (by omega) (by rw [show 2902 + (p * 72 + (i + 1)) = 2902 + (p * 72 + i) + 1 by omega, show 1750 + (p * 72 + (i + 1)) = 1750 + (p * 72 + i) + 1 by omega, fil_s2]; exact hK)
theorem a_stop {p : Int} (h : rB n b (g 71)) : aC n b g (w_B_stopFades b p) (w_m_stop g p) 15 p 0 0 0 0 := by
  by_cases hp' : 0 ≤ p ∧ p < 4
  · obtain ⟨P, rfl⟩ := nat_of hp'.1
    have hYP := h.2.2.2.2.2.2.1 P (by omega)
    have hC := hYP.2.2.2.2.2.2.2.2.2.2.2.2.2.2
    have hfc : b 286 P = (cFad b P 72 : Int) := hYP.2.2.2.2.2.2.2.2.2.2.1
    refine ⟨b 286 P, x_up (x_up (x_fil b 51 (P * 72) 72 0) 286 P 0) 288 P 0, x_up (x_fil g 71 (2902 + P * 72) 72 0) 71 (1738 + P) (-1), fun Q hQ => ?_, fun Q hQ => ?_, ⟨rB_le (Nat.le_succ n) ?_, mS_up (mS_fil mS_rf), rfl, rfl⟩, rfl⟩
    · simp (disch := omega) only [w_B_stopFades, w_Y_halt, Nat.add_zero, e_T, e_F, e_t, e_f, e_gd, e_bg0, e_bg1, e_nz, Int.toNat_natCast, Int.toNat_add, Int.toNat_mul, xw_al, xw_ar, xw_ml, xw_mr, xw_sl, xw_sr, xw_id, x_sl_c, mc3, mc6, mc8, mc12, mc64, mc72, Nat.add_assoc, Int.reduceToNat, L_isLine_t, L_isLine_f, R_has_t, R_has_f, R_isCh_t, R_isCh_f, V_isCurve_t, V_isCurve_f, Q_isCue_t, Q_isCue_f, Q_isList_t, Q_isList_f, B_isPb_t, B_isPb_f, m_in_t, m_in_f, m_isLine_t, m_isLine_f, m_isPb_t, m_isPb_f, m_isFx_t, m_isFx_f, F_note_e, m_finds_e, Int.reduceToNat, noted_neg, up_eq, up_r, up_i, fil_in, fil_i, fil_r]
      exact hQ
    · simp (disch := omega) only [w_m_stop, e_T, e_F, e_t, e_f, e_gd, e_bg0, e_bg1, e_nz, Int.toNat_natCast, Int.toNat_add, Int.toNat_mul, xw_al, xw_ar, xw_ml, xw_mr, xw_sl, xw_sr, xw_id, x_sl_c, mc3, mc6, mc8, mc12, mc64, mc72, Nat.add_assoc, Int.reduceToNat, L_isLine_t, L_isLine_f, R_has_t, R_has_f, R_isCh_t, R_isCh_f, V_isCurve_t, V_isCurve_f, Q_isCue_t, Q_isCue_f, Q_isList_t, Q_isList_f, B_isPb_t, B_isPb_f, m_in_t, m_in_f, m_isLine_t, m_isLine_f, m_isPb_t, m_isPb_f, m_isFx_t, m_isFx_f, F_note_e, m_finds_e, Int.reduceToNat, noted_neg, up_eq, up_r, up_i, fil_in, fil_i, fil_r]
      refine m_fades_i (by omega) hC ⟨72 + 1, ?_⟩
      rw [show (72 : Int) * (P : Int) = ((P * 72 + 0 : Nat) : Int) by omega]
      refine m_stop_k (by omega) 72 0 g rfl ?_
      rw [hfc] at hQ
      simp (disch := omega) only [Nat.add_zero, e_T, e_F, e_t, e_f, e_gd, e_bg0, e_bg1, e_nz, Int.toNat_natCast, Int.toNat_add, Int.toNat_mul, xw_al, xw_ar, xw_ml, xw_mr, xw_sl, xw_sr, xw_id, x_sl_c, mc3, mc6, mc8, mc12, mc64, mc72, Nat.add_assoc, Int.reduceToNat, L_isLine_t, L_isLine_f, R_has_t, R_has_f, R_isCh_t, R_isCh_f, V_isCurve_t, V_isCurve_f, Q_isCue_t, Q_isCue_f, Q_isList_t, Q_isList_f, B_isPb_t, B_isPb_f, m_in_t, m_in_f, m_isLine_t, m_isLine_f, m_isPb_t, m_isPb_f, m_isFx_t, m_isFx_f, F_note_e, m_finds_e, Int.reduceToNat, noted_neg, up_eq, up_r, up_i, fil_in, fil_i, fil_r]
      exact hQ
    · obtain ⟨hF, hL, hR, hP, hV, hQ, hY, hE, hX, hT, hW⟩ := h
      refine ⟨rF_c hF rfl (fun i _ _ => by simp (disch := omega) only [up_i, fil_i]), rL_c hL rfl rfl rfl rfl rfl rfl (fun i hi => by simp (disch := omega) only [up_i, fil_i]), rR_c hR rfl rfl rfl rfl rfl rfl rfl rfl rfl (fun i hi => by simp (disch := omega) only [up_i, fil_i]), rP_c hP rfl rfl rfl rfl rfl rfl rfl (fun i hi => by simp (disch := omega) only [up_i, fil_i]), rV_c hV rfl rfl rfl rfl rfl (fun i _ hi => by simp (disch := omega) only [up_i, fil_i]), rQ_c hQ rfl rfl rfl rfl rfl rfl rfl rfl (Int.le_refl _) (fun i _ hi => by simp (disch := omega) only [up_i, fil_i]), ?_, rE_c hE rfl rfl (fun i _ hi => by simp (disch := omega) only [up_i, fil_i]), rX_c hX rfl rfl rfl rfl rfl (Int.le_refl _) (fun _ _ => rfl) (fun i hi => by simp (disch := omega) only [up_i, fil_i]), rT_c hT rfl rfl (by simp (disch := omega) only [up_i, fil_i]) (by simp (disch := omega) only [up_i, fil_i]), rW_c hW (Int.le_refl _) (Int.le_refl _) rfl (by simp (disch := omega) only [up_i, fil_i]) (by simp (disch := omega) only [up_i, fil_i])⟩
      intro k hk
      by_cases e : k = P
      · subst e
        obtain ⟨a1, a2, a3, a4, a5, a6, a7, a8, a9, a12, a13, a14, a15, a16, a17⟩ := hY k hk
        refine ⟨by simp (disch := omega) only [up_eq, up_r, up_i, fil_in, fil_i, fil_r]; exact a1, a2, a3, by simp (disch := omega) only [up_eq, up_r, up_i, fil_in, fil_i, fil_r]; exact a4, a5, a6, by simp (disch := omega) only [up_eq, up_r, up_i, fil_in, fil_i, fil_r]; exact a7, a8, a9, by rw [cHas_c (b := b) (fun i hi => by simp (disch := omega) only [up_eq, up_r, up_i, fil_in, fil_i, fil_r])]; exact a12, by rw [cFad_0 72 (fun i hi => by simp (disch := omega) only [up_eq, up_r, up_i, fil_in, fil_i, fil_r])]; simp (disch := omega) only [up_eq, up_r, up_i, fil_in, fil_i, fil_r]; rfl, a14, a15, Or.inr ⟨by simp (disch := omega) only [up_eq, up_r, up_i, fil_in, fil_i, fil_r], by simp (disch := omega) only [up_eq, up_r, up_i, fil_in, fil_i, fil_r]⟩, fun f hf c hc => ?_⟩
        unfold rC1
        rcases a17 f hf c hc with ⟨c0, c1, c2, c3, c4, c5, c6, c7, c8, c9⟩ | ⟨c1, c2, c3, c4, c5⟩
        · exact Or.inl ⟨c0, c1, c2, by simp (disch := omega) only [up_eq, up_r, up_i, fil_in, fil_i, fil_r]; exact c3, by simp (disch := omega) only [up_eq, up_r, up_i, fil_in, fil_i, fil_r]; exact c4, by simp (disch := omega) only [up_eq, up_r, up_i, fil_in, fil_i, fil_r]; exact c5, c6, c7, by simp (disch := omega) only [up_eq, up_r, up_i, fil_in, fil_i, fil_r], Or.inl (by simp (disch := omega) only [up_eq, up_r, up_i, fil_in, fil_i, fil_r])⟩
        · exact Or.inr ⟨c1, by simp (disch := omega) only [up_eq, up_r, up_i, fil_in, fil_i, fil_r]; exact c2, c3, by simp (disch := omega) only [up_eq, up_r, up_i, fil_in, fil_i, fil_r], by simp (disch := omega) only [up_eq, up_r, up_i, fil_in, fil_i, fil_r]⟩
      · exact rY1_c hk (hY k hk) (fun _ _ => rfl) (fun _ _ => rfl) (fun _ _ => rfl) (fun _ _ => rfl) (fun _ _ => by simp (disch := omega) only [up_eq, up_r, up_i, fil_in, fil_i, fil_r]) (fun _ _ => rfl) rfl rfl rfl rfl (by simp (disch := omega) only [up_eq, up_r, up_i, fil_in, fil_i, fil_r]) rfl (by simp (disch := omega) only [up_eq, up_r, up_i, fil_in, fil_i, fil_r]) (fun _ _ => Int.le_refl _) (Int.le_refl _) (Int.le_refl _) (fun _ _ => rfl) (Int.le_refl _) (by simp (disch := omega) only [up_eq, up_r, up_i, fil_in, fil_i, fil_r]) (by simp (disch := omega) only [up_eq, up_r, up_i, fil_in, fil_i, fil_r]) (by simp (disch := omega) only [up_eq, up_r, up_i, fil_in, fil_i, fil_r]) (by simp (disch := omega) only [up_eq, up_r, up_i, fil_in, fil_i, fil_r]) (fun i hi => ⟨by simp (disch := omega) only [up_eq, up_r, up_i, fil_in, fil_i, fil_r], by simp (disch := omega) only [up_eq, up_r, up_i, fil_in, fil_i, fil_r], by simp (disch := omega) only [up_eq, up_r, up_i, fil_in, fil_i, fil_r], by simp (disch := omega) only [up_eq, up_r, up_i, fil_in, fil_i, fil_r], by simp (disch := omega) only [up_eq, up_r, up_i, fil_in, fil_i, fil_r], by simp (disch := omega) only [up_eq, up_r, up_i, fil_in, fil_i, fil_r], by simp (disch := omega) only [up_eq, up_r, up_i, fil_in, fil_i, fil_r]⟩)
  · exact aC_bad h (-2) (fun Q hQ => by simp (disch := omega) only [w_B_stopFades, e_T, e_F, e_t, e_f, e_gd, e_bg0, e_bg1, e_nz, Int.toNat_natCast, Int.toNat_add, Int.toNat_mul, xw_al, xw_ar, xw_ml, xw_mr, xw_sl, xw_sr, xw_id, x_sl_c, mc3, mc6, mc8, mc12, mc64, mc72, Nat.add_assoc, Int.reduceToNat, L_isLine_t, L_isLine_f, R_has_t, R_has_f, R_isCh_t, R_isCh_f, V_isCurve_t, V_isCurve_f, Q_isCue_t, Q_isCue_f, Q_isList_t, Q_isList_f, B_isPb_t, B_isPb_f, m_in_t, m_in_f, m_isLine_t, m_isLine_f, m_isPb_t, m_isPb_f, m_isFx_t, m_isFx_f, F_note_e, m_finds_e, Int.reduceToNat, noted_neg]; exact hQ) (fun Q hQ => by simp (disch := omega) only [w_m_stop, e_T, e_F, e_t, e_f, e_gd, e_bg0, e_bg1, e_nz, Int.toNat_natCast, Int.toNat_add, Int.toNat_mul, xw_al, xw_ar, xw_ml, xw_mr, xw_sl, xw_sr, xw_id, x_sl_c, mc3, mc6, mc8, mc12, mc64, mc72, Nat.add_assoc, Int.reduceToNat, L_isLine_t, L_isLine_f, R_has_t, R_has_f, R_isCh_t, R_isCh_f, V_isCurve_t, V_isCurve_f, Q_isCue_t, Q_isCue_f, Q_isList_t, Q_isList_f, B_isPb_t, B_isPb_f, m_in_t, m_in_f, m_isLine_t, m_isLine_f, m_isPb_t, m_isPb_f, m_isFx_t, m_isFx_f, F_note_e, m_finds_e, Int.reduceToNat, noted_neg] at hQ ⊢; exact hQ)
theorem a_release {p : Int} (h : rB n b (g 71)) : aC n b g (w_B_letGo b p) (w_m_release g p) 16 p 0 0 0 0 := by
  by_cases hp' : 0 ≤ p ∧ p < 4
  · obtain ⟨P, rfl⟩ := nat_of hp'.1
    have hYP := h.2.2.2.2.2.2.1 P (by omega)
    have hC := hYP.2.2.2.2.2.2.2.2.2.2.2.2.2.2
    have hhc : b 285 P = (cHas b P 72 : Int) := hYP.2.2.2.2.2.2.2.2.2.1
    refine ⟨b 285 P, x_up (x_up (x_up (x_up (x_up (x_fil (x_fil (x_fil b 47 (P * 72) 72 0) 48 (P * 72) 72 0) 51 (P * 72) 72 0) 285 P 0) 286 P 0) 281 P (-1)) 287 P 0) 288 P 0, x_up (x_up (x_fil (x_fil g 71 (1750 + P * 72) 72 0) 71 (2902 + P * 72) 72 0) 71 (1730 + P) (-1)) 71 (1738 + P) (-1), fun Q hQ => ?_, fun Q hQ => ?_, ⟨rB_le (Nat.le_succ n) ?_, mS_up (mS_up (mS_fil (mS_fil mS_rf))), rfl, rfl⟩, rfl⟩
    · simp (disch := omega) only [w_B_letGo, w_Y_dropChannels, w_Y_rewind, Nat.add_zero, e_T, e_F, e_t, e_f, e_gd, e_bg0, e_bg1, e_nz, Int.toNat_natCast, Int.toNat_add, Int.toNat_mul, xw_al, xw_ar, xw_ml, xw_mr, xw_sl, xw_sr, xw_id, x_sl_c, mc3, mc6, mc8, mc12, mc64, mc72, Nat.add_assoc, Int.reduceToNat, L_isLine_t, L_isLine_f, R_has_t, R_has_f, R_isCh_t, R_isCh_f, V_isCurve_t, V_isCurve_f, Q_isCue_t, Q_isCue_f, Q_isList_t, Q_isList_f, B_isPb_t, B_isPb_f, m_in_t, m_in_f, m_isLine_t, m_isLine_f, m_isPb_t, m_isPb_f, m_isFx_t, m_isFx_f, F_note_e, m_finds_e, Int.reduceToNat, noted_neg, up_eq, up_r, up_i, fil_in, fil_i, fil_r]
      exact hQ
    · simp (disch := omega) only [w_m_release, e_T, e_F, e_t, e_f, e_gd, e_bg0, e_bg1, e_nz, Int.toNat_natCast, Int.toNat_add, Int.toNat_mul, xw_al, xw_ar, xw_ml, xw_mr, xw_sl, xw_sr, xw_id, x_sl_c, mc3, mc6, mc8, mc12, mc64, mc72, Nat.add_assoc, Int.reduceToNat, L_isLine_t, L_isLine_f, R_has_t, R_has_f, R_isCh_t, R_isCh_f, V_isCurve_t, V_isCurve_f, Q_isCue_t, Q_isCue_f, Q_isList_t, Q_isList_f, B_isPb_t, B_isPb_f, m_in_t, m_in_f, m_isLine_t, m_isLine_f, m_isPb_t, m_isPb_f, m_isFx_t, m_isFx_f, F_note_e, m_finds_e, Int.reduceToNat, noted_neg, up_eq, up_r, up_i, fil_in, fil_i, fil_r]
      refine m_channels_i (by omega) hC ⟨72 + 1, ?_⟩
      rw [show (72 : Int) * (P : Int) = ((P * 72 + 0 : Nat) : Int) by omega]
      refine m_release_k (by omega) 72 0 g rfl ?_
      rw [hhc] at hQ
      simp (disch := omega) only [Nat.add_zero, e_T, e_F, e_t, e_f, e_gd, e_bg0, e_bg1, e_nz, Int.toNat_natCast, Int.toNat_add, Int.toNat_mul, xw_al, xw_ar, xw_ml, xw_mr, xw_sl, xw_sr, xw_id, x_sl_c, mc3, mc6, mc8, mc12, mc64, mc72, Nat.add_assoc, Int.reduceToNat, L_isLine_t, L_isLine_f, R_has_t, R_has_f, R_isCh_t, R_isCh_f, V_isCurve_t, V_isCurve_f, Q_isCue_t, Q_isCue_f, Q_isList_t, Q_isList_f, B_isPb_t, B_isPb_f, m_in_t, m_in_f, m_isLine_t, m_isLine_f, m_isPb_t, m_isPb_f, m_isFx_t, m_isFx_f, F_note_e, m_finds_e, Int.reduceToNat, noted_neg, up_eq, up_r, up_i, fil_in, fil_i, fil_r]
      exact hQ
    · obtain ⟨hF, hL, hR, hP, hV, hQ, hY, hE, hX, hT, hW⟩ := h
      refine ⟨rF_c hF rfl (fun i _ _ => by simp (disch := omega) only [up_i, fil_i]), rL_c hL rfl rfl rfl rfl rfl rfl (fun i hi => by simp (disch := omega) only [up_i, fil_i]), rR_c hR rfl rfl rfl rfl rfl rfl rfl rfl rfl (fun i hi => by simp (disch := omega) only [up_i, fil_i]), rP_c hP rfl rfl rfl rfl rfl rfl rfl (fun i hi => by simp (disch := omega) only [up_i, fil_i]), rV_c hV rfl rfl rfl rfl rfl (fun i _ hi => by simp (disch := omega) only [up_i, fil_i]), rQ_c hQ rfl rfl rfl rfl rfl rfl rfl rfl (Int.le_refl _) (fun i _ hi => by simp (disch := omega) only [up_i, fil_i]), ?_, rE_c hE rfl rfl (fun i _ hi => by simp (disch := omega) only [up_i, fil_i]), rX_c hX rfl rfl rfl rfl rfl (Int.le_refl _) (fun _ _ => rfl) (fun i hi => by simp (disch := omega) only [up_i, fil_i]), rT_c hT rfl rfl (by simp (disch := omega) only [up_i, fil_i]) (by simp (disch := omega) only [up_i, fil_i]), rW_c hW (Int.le_refl _) (Int.le_refl _) rfl (by simp (disch := omega) only [up_i, fil_i]) (by simp (disch := omega) only [up_i, fil_i])⟩
      intro k hk
      by_cases e : k = P
      · subst e
        obtain ⟨a1, a2, a3, a4, a5, a6, a7, a8, a9, a12, a13, a14, a15, a16, a17⟩ := hY k hk
        refine ⟨by simp (disch := omega) only [up_eq, up_r, up_i, fil_in, fil_i, fil_r]; exact a1, a2, a3, by simp (disch := omega) only [up_eq, up_r, up_i, fil_in, fil_i, fil_r], by simp (disch := omega) only [up_eq, up_r, up_i, fil_in, fil_i, fil_r]; omega, by simp (disch := omega) only [up_eq, up_r, up_i, fil_in, fil_i, fil_r]; omega, by simp (disch := omega) only [up_eq, up_r, up_i, fil_in, fil_i, fil_r]; exact a7, a8, a9, by rw [cHas_0 72 (fun i hi => by simp (disch := omega) only [up_eq, up_r, up_i, fil_in, fil_i, fil_r])]; simp (disch := omega) only [up_eq, up_r, up_i, fil_in, fil_i, fil_r]; rfl, by rw [cFad_0 72 (fun i hi => by simp (disch := omega) only [up_eq, up_r, up_i, fil_in, fil_i, fil_r])]; simp (disch := omega) only [up_eq, up_r, up_i, fil_in, fil_i, fil_r]; rfl, by simp (disch := omega) only [up_eq, up_r, up_i, fil_in, fil_i, fil_r]; omega, by simp (disch := omega) only [up_eq, up_r, up_i, fil_in, fil_i, fil_r]; exact hT.2.1, Or.inr ⟨by simp (disch := omega) only [up_eq, up_r, up_i, fil_in, fil_i, fil_r], by simp (disch := omega) only [up_eq, up_r, up_i, fil_in, fil_i, fil_r]⟩, fun f hf c hc => Or.inr ⟨by simp (disch := omega) only [up_eq, up_r, up_i, fil_in, fil_i, fil_r], by simp (disch := omega) only [up_eq, up_r, up_i, fil_in, fil_i, fil_r], by simp (disch := omega) only [up_eq, up_r, up_i, fil_in, fil_i, fil_r], by simp (disch := omega) only [up_eq, up_r, up_i, fil_in, fil_i, fil_r], by simp (disch := omega) only [up_eq, up_r, up_i, fil_in, fil_i, fil_r]⟩⟩
      · exact rY1_c hk (hY k hk) (fun _ _ => by simp (disch := omega) only [up_eq, up_r, up_i, fil_in, fil_i, fil_r]) (fun _ _ => by simp (disch := omega) only [up_eq, up_r, up_i, fil_in, fil_i, fil_r]) (fun _ _ => rfl) (fun _ _ => rfl) (fun _ _ => by simp (disch := omega) only [up_eq, up_r, up_i, fil_in, fil_i, fil_r]) (fun _ _ => rfl) rfl (by simp (disch := omega) only [up_eq, up_r, up_i, fil_in, fil_i, fil_r]) rfl (by simp (disch := omega) only [up_eq, up_r, up_i, fil_in, fil_i, fil_r]) (by simp (disch := omega) only [up_eq, up_r, up_i, fil_in, fil_i, fil_r]) (by simp (disch := omega) only [up_eq, up_r, up_i, fil_in, fil_i, fil_r]) (by simp (disch := omega) only [up_eq, up_r, up_i, fil_in, fil_i, fil_r]) (fun _ _ => Int.le_refl _) (Int.le_refl _) (Int.le_refl _) (fun _ _ => rfl) (Int.le_refl _) (by simp (disch := omega) only [up_eq, up_r, up_i, fil_in, fil_i, fil_r]) (by simp (disch := omega) only [up_eq, up_r, up_i, fil_in, fil_i, fil_r]) (by simp (disch := omega) only [up_eq, up_r, up_i, fil_in, fil_i, fil_r]) (by simp (disch := omega) only [up_eq, up_r, up_i, fil_in, fil_i, fil_r]) (fun i hi => ⟨by simp (disch := omega) only [up_eq, up_r, up_i, fil_in, fil_i, fil_r], by simp (disch := omega) only [up_eq, up_r, up_i, fil_in, fil_i, fil_r], by simp (disch := omega) only [up_eq, up_r, up_i, fil_in, fil_i, fil_r], by simp (disch := omega) only [up_eq, up_r, up_i, fil_in, fil_i, fil_r], by simp (disch := omega) only [up_eq, up_r, up_i, fil_in, fil_i, fil_r], by simp (disch := omega) only [up_eq, up_r, up_i, fil_in, fil_i, fil_r], by simp (disch := omega) only [up_eq, up_r, up_i, fil_in, fil_i, fil_r]⟩)
  · exact aC_bad h (-2) (fun Q hQ => by simp (disch := omega) only [w_B_letGo, e_T, e_F, e_t, e_f, e_gd, e_bg0, e_bg1, e_nz, Int.toNat_natCast, Int.toNat_add, Int.toNat_mul, xw_al, xw_ar, xw_ml, xw_mr, xw_sl, xw_sr, xw_id, x_sl_c, mc3, mc6, mc8, mc12, mc64, mc72, Nat.add_assoc, Int.reduceToNat, L_isLine_t, L_isLine_f, R_has_t, R_has_f, R_isCh_t, R_isCh_f, V_isCurve_t, V_isCurve_f, Q_isCue_t, Q_isCue_f, Q_isList_t, Q_isList_f, B_isPb_t, B_isPb_f, m_in_t, m_in_f, m_isLine_t, m_isLine_f, m_isPb_t, m_isPb_f, m_isFx_t, m_isFx_f, F_note_e, m_finds_e, Int.reduceToNat, noted_neg]; exact hQ) (fun Q hQ => by simp (disch := omega) only [w_m_release, e_T, e_F, e_t, e_f, e_gd, e_bg0, e_bg1, e_nz, Int.toNat_natCast, Int.toNat_add, Int.toNat_mul, xw_al, xw_ar, xw_ml, xw_mr, xw_sl, xw_sr, xw_id, x_sl_c, mc3, mc6, mc8, mc12, mc64, mc72, Nat.add_assoc, Int.reduceToNat, L_isLine_t, L_isLine_f, R_has_t, R_has_f, R_isCh_t, R_isCh_f, V_isCurve_t, V_isCurve_f, Q_isCue_t, Q_isCue_f, Q_isList_t, Q_isList_f, B_isPb_t, B_isPb_f, m_in_t, m_in_f, m_isLine_t, m_isLine_f, m_isPb_t, m_isPb_f, m_isFx_t, m_isFx_f, F_note_e, m_finds_e, Int.reduceToNat, noted_neg] at hQ ⊢; exact hQ)
end
