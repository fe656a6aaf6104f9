/-! ===== a board cleared ===== -/
theorem clL : ∀ (k v : Nat) (b : xB), v + k = 4 → ∃ b', (∀ r, r ≠ 13 → r ≠ 16 → b' r = b r) ∧ (∀ i, i < 4 → (v ≤ i → b' 13 i = 0 ∧ b' 16 i = 0) ∧ (i < v → b' 13 i = b 13 i ∧ b' 16 i = b 16 i)) ∧ ∀ Q K : xB → Prop, K b' → w_L_clear_h35 Q K (k + 1) b v
  | 0, v, b, hv => by
    refine ⟨b, fun _ _ _ => rfl, fun i hi => ⟨fun _ => by omega, fun _ => ⟨rfl, rfl⟩⟩, fun Q K hK => ?_⟩
    rw [w_L_clear_h35_s, e_f (by omega)]
    exact hK
  | k + 1, v, b, hv => by
    obtain ⟨b', z1, z2, z3⟩ := clL k (v + 1) (x_up (x_up b 13 v 0) 16 v 0) (by omega)
    refine ⟨b', fun r h1 h2 => by rw [z1 r h1 h2, upR h2, upR h1], fun i hi => ⟨fun h => ?_, fun h => ?_⟩, fun Q K hK => ?_⟩
    · by_cases e : i = v
      · subst e
        obtain ⟨y1, y2⟩ := (z2 i hi).2 (by omega)
        rw [y1, y2]
        exact ⟨by simp (disch := omega) only [up_eq, up_r, up_i, fil_in, fil_i, fil_r], by simp (disch := omega) only [up_eq, up_r, up_i, fil_in, fil_i, fil_r]⟩
      · exact (z2 i hi).1 (by omega)
    · obtain ⟨y1, y2⟩ := (z2 i hi).2 (by omega)
      rw [y1, y2]
      exact ⟨by simp (disch := omega) only [up_eq, up_r, up_i, fil_in, fil_i, fil_r], by simp (disch := omega) only [up_eq, up_r, up_i, fil_in, fil_i, fil_r]⟩
    · rw [w_L_clear_h35_s, e_t (by omega), e_gd (by omega) (by omega), e_gd (by omega) (by omega), Int.toNat_natCast, xw_id (by omega) (by omega), show (v : Int) + 1 = ((v + 1 : Nat) : Int) by omega]
      exact z3 Q K hK
theorem clP : ∀ (k v : Nat) (b : xB), v + k = 24 → ∀ Q K : xB → Prop, K (x_fil b 27 v k 0) → w_P_clear_h18 Q K (k + 1) b v
  | 0, v, b, hv, Q, K, hK => by
    rw [fil0] at hK
    rw [w_P_clear_h18_s, e_f (by omega)]
    exact hK
  | k + 1, v, b, hv, Q, K, hK => by
    rw [w_P_clear_h18_s, e_t (by omega), e_gd (by omega) (by omega), Int.toNat_natCast, xw_id (by omega) (by omega), show (v : Int) + 1 = ((v + 1 : Nat) : Int) by omega]
    exact clP k (v + 1) _ (by omega) Q K (by rw [fil_s]; exact hK)
theorem clX : ∀ (k v : Nat) (b : xB), v + k = 72 → ∃ b', (∀ r, r ≠ 44 → r ≠ 46 → b' r = b r) ∧ (∀ i, i < 72 → (v ≤ i → b' 44 i = 0) ∧ (i < v → b' 44 i = b 44 i)) ∧ ∀ Q K : xB → Prop, K b' → w_X_clear_h26 Q K (k + 1) b v
  | 0, v, b, hv => by
    refine ⟨b, fun _ _ _ => rfl, fun i hi => ⟨fun _ => by omega, fun _ => rfl⟩, fun Q K hK => ?_⟩
    rw [w_X_clear_h26_s, e_f (by omega)]
    exact hK
  | k + 1, v, b, hv => by
    obtain ⟨b', z1, z2, z3⟩ := clX k (v + 1) (x_up (x_up b 44 v 0) 46 v 0) (by omega)
    refine ⟨b', fun r h1 h2 => by rw [z1 r h1 h2, upR h2, upR h1], fun i hi => ⟨fun h => ?_, fun h => ?_⟩, fun Q K hK => ?_⟩
    · by_cases e : i = v
      · subst e
        rw [(z2 i hi).2 (by omega)]
        simp (disch := omega) only [up_eq, up_r, up_i, fil_in, fil_i, fil_r]
      · exact (z2 i hi).1 (by omega)
    · rw [(z2 i hi).2 (by omega)]
      simp (disch := omega) only [up_eq, up_r, up_i, fil_in, fil_i, fil_r]
    · rw [w_X_clear_h26_s, e_t (by omega), e_gd (by omega) (by omega), e_gd (by omega) (by omega), Int.toNat_natCast, xw_id (by omega) (by omega), show (v : Int) + 1 = ((v + 1 : Nat) : Int) by omega]
      exact z3 Q K hK
/-- one PLAYBACK cleared -/
def cY (b : xB) (p : Nat) : Prop := b 280 p = -1 ∧ b 281 p = -1 ∧ b 282 p = 100 ∧ b 283 p = 0 ∧ b 284 p = 0 ∧ b 285 p = 0 ∧ b 286 p = 0 ∧ b 287 p = 0 ∧ b 288 p = 0 ∧ ∀ i, i < 72 → b 47 (p * 72 + i) = 0 ∧ b 48 (p * 72 + i) = 0 ∧ b 51 (p * 72 + i) = 0
theorem clY : ∀ (k v : Nat) (b : xB), v + k = 4 → (∀ p, p < v → cY b p) → ∃ b', (∀ r, r ≠ 47 ∧ r ≠ 48 ∧ r ≠ 51 ∧ (r < 280 ∨ 288 < r) → b' r = b r) ∧ (∀ p, p < 4 → cY b' p) ∧ ∀ Q K : xB → Prop, K b' → w_B_clear_h51 Q K (k + 1) b v
  | 0, v, b, hv, h => by
    refine ⟨b, fun _ _ => rfl, fun p hp => h p (by omega), fun Q K hK => ?_⟩
    rw [w_B_clear_h51_s, e_f (by omega)]
    exact hK
  | k + 1, v, b, hv, h => by
    obtain ⟨b1, hb1⟩ : ∃ b1, b1 = x_up (x_up (x_up (x_up (x_up (x_fil (x_fil (x_fil (x_up (x_up (x_up (x_up b 280 v (-1)) 281 v (-1)) 287 v 0) 288 v 0) 47 (v * 72) 72 0) 48 (v * 72) 72 0) 51 (v * 72) 72 0) 285 v 0) 286 v 0) 282 v 100) 283 v 0) 284 v 0 := ⟨_, rfl⟩
    obtain ⟨b', z1, z2, z3⟩ := clY k (v + 1) b1 (by omega) (fun p hp => by
      rw [hb1]
      by_cases e : p = v
      · subst e
        refine ⟨by simp (disch := omega) only [up_eq, up_r, up_i, fil_in, fil_i, fil_r], by simp (disch := omega) only [up_eq, up_r, up_i, fil_in, fil_i, fil_r], by simp (disch := omega) only [up_eq, up_r, up_i, fil_in, fil_i, fil_r], by simp (disch := omega) only [up_eq, up_r, up_i, fil_in, fil_i, fil_r], by simp (disch := omega) only [up_eq, up_r, up_i, fil_in, fil_i, fil_r], by simp (disch := omega) only [up_eq, up_r, up_i, fil_in, fil_i, fil_r], by simp (disch := omega) only [up_eq, up_r, up_i, fil_in, fil_i, fil_r], by simp (disch := omega) only [up_eq, up_r, up_i, fil_in, fil_i, fil_r], by simp (disch := omega) only [up_eq, up_r, up_i, fil_in, fil_i, fil_r], fun i hi => ⟨by simp (disch := omega) only [up_eq, up_r, up_i, fil_in, fil_i, fil_r], by simp (disch := omega) only [up_eq, up_r, up_i, fil_in, fil_i, fil_r], by simp (disch := omega) only [up_eq, up_r, up_i, fil_in, fil_i, fil_r]⟩⟩
      · obtain ⟨y1, y2, y3, y4, y5, y6, y7, y8, y9, y10⟩ := h p (by omega)
        refine ⟨by simp (disch := omega) only [up_eq, up_r, up_i, fil_in, fil_i, fil_r]; exact y1, by simp (disch := omega) only [up_eq, up_r, up_i, fil_in, fil_i, fil_r]; exact y2, by simp (disch := omega) only [up_eq, up_r, up_i, fil_in, fil_i, fil_r]; exact y3, by simp (disch := omega) only [up_eq, up_r, up_i, fil_in, fil_i, fil_r]; exact y4, by simp (disch := omega) only [up_eq, up_r, up_i, fil_in, fil_i, fil_r]; exact y5, by simp (disch := omega) only [up_eq, up_r, up_i, fil_in, fil_i, fil_r]; exact y6, by simp (disch := omega) only [up_eq, up_r, up_i, fil_in, fil_i, fil_r]; exact y7, by simp (disch := omega) only [up_eq, up_r, up_i, fil_in, fil_i, fil_r]; exact y8, by simp (disch := omega) only [up_eq, up_r, up_i, fil_in, fil_i, fil_r]; exact y9, fun i hi => ?_⟩
        obtain ⟨w1, w2, w3⟩ := y10 i hi
        exact ⟨by simp (disch := omega) only [up_eq, up_r, up_i, fil_in, fil_i, fil_r]; exact w1, by simp (disch := omega) only [up_eq, up_r, up_i, fil_in, fil_i, fil_r]; exact w2, by simp (disch := omega) only [up_eq, up_r, up_i, fil_in, fil_i, fil_r]; exact w3⟩)
    refine ⟨b', fun r hr => ?_, z2, fun Q K hK => ?_⟩
    · rw [z1 r hr, hb1, upR (by omega), upR (by omega), upR (by omega), upR (by omega), upR (by omega), filR (by omega), filR (by omega), filR (by omega), upR (by omega), upR (by omega), upR (by omega), upR (by omega)]
    · have z3 := z3 Q K hK
      rw [hb1] at z3
      rw [w_B_clear_h51_s, e_t (by omega), e_gd (by omega) (by omega), Int.toNat_natCast, xw_id (by omega) (by omega), show (v : Int) + 1 = ((v + 1 : Nat) : Int) by omega]
      simp (disch := omega) only [w_Y_clear, w_Y_takeList, w_Y_dropChannels, w_Y_rewind, e_T, e_F, e_t, e_f, e_gd, e_bg0, e_bg1, e_nz, Int.toNat_natCast, Int.toNat_add, Int.toNat_mul, xw_al, xw_ar, xw_ml, xw_mr, xw_sl, xw_sr, xw_id, x_sl_c, mc3, mc6, mc8, mc12, mc64, mc72, Nat.add_assoc, Int.reduceToNat, L_isLine_t, L_isLine_f, R_has_t, R_has_f, R_isCh_t, R_isCh_f, V_isCurve_t, V_isCurve_f, Q_isCue_t, Q_isCue_f, Q_isList_t, Q_isList_f, B_isPb_t, B_isPb_f, m_in_t, m_in_f, m_isLine_t, m_isLine_f, m_isPb_t, m_isPb_f, m_isFx_t, m_isFx_f, F_note_e, m_finds_e, Int.reduceToNat, noted_neg, up_eq, up_r, up_i, fil_in, fil_i, fil_r]
      exact z3
