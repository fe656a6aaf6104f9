/-! ===== a TICK: a PLAYBACK ===== -/
theorem cFad_z {b : xB} {p i : Nat} : ∀ m, cFad b p m = 0 → i < m → ¬ 0 < b 51 (p * 72 + i)
  | 0, _, h => absurd h (Nat.not_lt_zero i)
  | m + 1, h, hi => by
    have h : cFad b p m + (if 0 < b 51 (p * 72 + m) then 1 else 0) = 0 := h
    by_cases e : i = m
    · subst e
      intro z
      rw [if_pos z] at h
      omega
    · exact cFad_z m (by omega) (by omega)
/-- no FADE goes: the model's round leaves all -/
theorem m_play_0 {b g : xB} {p : Nat} (hp : p < 4) (hC : rC b (g 71) p) (h0 : cFad b p 72 = 0) {Q : xB → Prop} {K : xB → Int → Prop} (hK : K g p) : ∀ k i : Nat, i + k = 72 → w_m_play_h33 Q K (k + 1) g p ((p * 72 + i : Nat) : Int)
  | 0, i, hi => by
    rw [w_m_play_h33_s]
    simp (disch := omega) only [e_T, e_F, e_t, e_f, e_gd, e_bg0, e_bg1, e_nz, Int.toNat_natCast, Int.toNat_add, Int.toNat_mul, xw_al, xw_ar, xw_ml, xw_mr, xw_sl, xw_sr, xw_id, x_sl_c, mc3, mc6, mc8, mc12, mc64, mc72, Nat.add_assoc, Int.reduceToNat, L_isLine_t, L_isLine_f, R_has_t, R_has_f, R_isCh_t, R_isCh_f, V_isCurve_t, V_isCurve_f, Q_isCue_t, Q_isCue_f, Q_isList_t, Q_isList_f, B_isPb_t, B_isPb_f, m_in_t, m_in_f, m_isLine_t, m_isLine_f, m_isPb_t, m_isPb_f, m_isFx_t, m_isFx_f, F_note_e, m_finds_e, Int.reduceToNat, noted_neg, up_eq, up_r, up_i, fil_in, fil_i, fil_r]
    exact hK
  | k + 1, i, hi => by
    have ei2 : ((p * 72 + i : Nat) : Int) + 1 = ((p * 72 + (i + 1) : Nat) : Int) := by omega
    have ih := m_play_0 hp hC h0 (Q := Q) hK k (i + 1) (by omega)
    have hz := cFad_z (i := i) 72 h0 (by omega)
    obtain ⟨is, m, q⟩ := rC_at hC (show i < 72 by omega)
    rcases q with ⟨o0, o1, o2, o3, o4, o5, o6, o7, o8, o9⟩ | ⟨o1, o2, o3, o4, o5⟩
    · rw [w_m_play_h33_s]
      simp (disch := omega) only [e_T, e_F, e_t, e_f, e_gd, e_bg0, e_bg1, e_nz, Int.toNat_natCast, Int.toNat_add, Int.toNat_mul, xw_al, xw_ar, xw_ml, xw_mr, xw_sl, xw_sr, xw_id, x_sl_c, mc3, mc6, mc8, mc12, mc64, mc72, Nat.add_assoc, Int.reduceToNat, L_isLine_t, L_isLine_f, R_has_t, R_has_f, R_isCh_t, R_isCh_f, V_isCurve_t, V_isCurve_f, Q_isCue_t, Q_isCue_f, Q_isList_t, Q_isList_f, B_isPb_t, B_isPb_f, m_in_t, m_in_f, m_isLine_t, m_isLine_f, m_isPb_t, m_isPb_f, m_isFx_t, m_isFx_f, F_note_e, m_finds_e, Int.reduceToNat, noted_neg, up_eq, up_r, up_i, fil_in, fil_i, fil_r]
      rw [ei2]
      exact ih
    · rw [w_m_play_h33_s]
      simp (disch := omega) only [e_T, e_F, e_t, e_f, e_gd, e_bg0, e_bg1, e_nz, Int.toNat_natCast, Int.toNat_add, Int.toNat_mul, xw_al, xw_ar, xw_ml, xw_mr, xw_sl, xw_sr, xw_id, x_sl_c, mc3, mc6, mc8, mc12, mc64, mc72, Nat.add_assoc, Int.reduceToNat, L_isLine_t, L_isLine_f, R_has_t, R_has_f, R_isCh_t, R_isCh_f, V_isCurve_t, V_isCurve_f, Q_isCue_t, Q_isCue_f, Q_isList_t, Q_isList_f, B_isPb_t, B_isPb_f, m_in_t, m_in_f, m_isLine_t, m_isLine_f, m_isPb_t, m_isPb_f, m_isFx_t, m_isFx_f, F_note_e, m_finds_e, Int.reduceToNat, noted_neg, up_eq, up_r, up_i, fil_in, fil_i, fil_r]
      rw [ei2]
      exact ih
/-- the FADES of one PLAYBACK, both -/
theorem fades_A {M n : Int} {p : Nat} {b g : xB} (hp : p < 4) (h : rG M n b (g 71)) : ∃ b' g', rG M n b' (g' 71) ∧ fSb b b' ∧ fSm g g' ∧ (∀ Q : xB → Prop, Q b' → w_Y_stepFades b p Q) ∧ (∀ (Q : xB → Prop) (K : xB → Int → Prop), K g' p → ∃ m, w_m_play_h33 Q K m g p ((p * 72 + 0 : Nat) : Int)) := by
  have hYp := h.2.2.2.2.2.2.1 p hp
  have hC := hYp.2.2.2.2.2.2.2.2.2.2.2.2.2.2
  have y6 := hYp.2.2.2.2.2.2.2.2.2.2.1
  by_cases h0 : cFad b p 72 = 0
  · refine ⟨b, g, h, fun _ _ => rfl, ⟨fun _ _ => rfl, fun _ _ => rfl⟩, fun Q hQ => ?_, fun Q K hK => ⟨72 + 1, m_play_0 hp hC h0 hK 72 0 rfl⟩⟩
    simp (disch := omega) only [w_Y_stepFades, e_T, e_F, e_t, e_f, e_gd, e_bg0, e_bg1, e_nz, Int.toNat_natCast, Int.toNat_add, Int.toNat_mul, xw_al, xw_ar, xw_ml, xw_mr, xw_sl, xw_sr, xw_id, x_sl_c, mc3, mc6, mc8, mc12, mc64, mc72, Nat.add_assoc, Int.reduceToNat, L_isLine_t, L_isLine_f, R_has_t, R_has_f, R_isCh_t, R_isCh_f, V_isCurve_t, V_isCurve_f, Q_isCue_t, Q_isCue_f, Q_isList_t, Q_isList_f, B_isPb_t, B_isPb_f, m_in_t, m_in_f, m_isLine_t, m_isLine_f, m_isPb_t, m_isPb_f, m_isFx_t, m_isFx_f, F_note_e, m_finds_e, Int.reduceToNat, noted_neg, up_eq, up_r, up_i, fil_in, fil_i, fil_r]
    exact hQ
  · obtain ⟨b', g', z1, z2, z3, z4, z5⟩ := step_A hp 72 0 b g rfl h
    refine ⟨b', g', z1, z2, z3, fun Q hQ => ?_, fun Q K hK => ⟨72 + 1, z5 Q K hK⟩⟩
    simp (disch := omega) only [w_Y_stepFades, e_T, e_F, e_t, e_f, e_gd, e_bg0, e_bg1, e_nz, Int.toNat_natCast, Int.toNat_add, Int.toNat_mul, xw_al, xw_ar, xw_ml, xw_mr, xw_sl, xw_sr, xw_id, x_sl_c, mc3, mc6, mc8, mc12, mc64, mc72, Nat.add_assoc, Int.reduceToNat, L_isLine_t, L_isLine_f, R_has_t, R_has_f, R_isCh_t, R_isCh_f, V_isCurve_t, V_isCurve_f, Q_isCue_t, Q_isCue_f, Q_isList_t, Q_isList_f, B_isPb_t, B_isPb_f, m_in_t, m_in_f, m_isLine_t, m_isLine_f, m_isPb_t, m_isPb_f, m_isFx_t, m_isFx_f, F_note_e, m_finds_e, Int.reduceToNat, noted_neg, up_eq, up_r, up_i, fil_in, fil_i, fil_r]
    exact ⟨72 + 1, z4 Q Q hQ⟩
def pF (b b' : xB) : Prop := ∀ r, r < 10 ∨ (10 < r ∧ r < 23) ∨ (23 < r ∧ r < 47) ∨ (52 < r ∧ r < 110) ∨ (110 < r ∧ r < 170) ∨ (170 < r ∧ r < 281) ∨ (281 < r ∧ r < 285) ∨ 288 < r → b' r = b r
def pM (p : Nat) (g g' : xB) : Prop := mS g g' ∧ (∀ i, i < 1730 ∨ (3766 < i ∧ i ≠ 3775) → g' 71 i = g 71 i) ∧ (∀ k, k < 4 → k ≠ p → g' 71 (1742 + k) = g 71 (1742 + k) ∧ g' 71 (1746 + k) = g 71 (1746 + k)) ∧ g' 71 (1742 + p) = xw (g 71 (1742 + p) + 1) ∧ g' 71 (1746 + p) = xw (g 71 (1746 + p) + 1)
/-- since one more -/
theorem rG_since {M n : Int} {b g : xB} {p : Nat} (h : rG M n b (g 71)) (hp : p < 4) (hs : b 287 p + 1 ≤ b 108 0) (hm : b 288 p = 0) : rG M n (x_up b 287 p (b 287 p + 1)) (g 71) := by
  obtain ⟨hF, hL, hR, hP, hV, hQ, hY, hX, u1, u2, u3, u4⟩ := h
  refine ⟨rF_c hF rfl (fun i _ _ => rfl), rL_c hL rfl rfl rfl rfl rfl rfl (fun i hi => rfl), rR_c hR rfl rfl rfl rfl rfl rfl rfl rfl rfl (fun i hi => rfl), rP_c hP rfl rfl rfl rfl rfl rfl rfl (fun i hi => rfl), rV_c hV rfl rfl rfl rfl rfl (fun i _ hi => rfl), rQ_c hQ rfl rfl rfl rfl rfl rfl rfl rfl (Int.le_refl _) (fun i _ hi => rfl), ?_, rX_c hX rfl rfl rfl rfl rfl (Int.le_refl _) (fun _ _ => rfl) (fun i hi => rfl), u1, u2, u3, u4⟩
  intro k hk
  by_cases e : k = p
  · subst e
    obtain ⟨a1, a2, a3, a4, a5, a6, a7, a8, a9, a12, a13, a14, a15, a16, a17⟩ := hY k hk
    refine ⟨by simp (disch := omega) only [up_eq, up_r, up_i, fil_in, fil_i, fil_r]; exact a1, by simp (disch := omega) only [up_eq, up_r, up_i, fil_in, fil_i, fil_r]; exact a2, by simp (disch := omega) only [up_eq, up_r, up_i, fil_in, fil_i, fil_r]; exact a3, by simp (disch := omega) only [up_eq, up_r, up_i, fil_in, fil_i, fil_r]; exact a4, by simp (disch := omega) only [up_eq, up_r, up_i, fil_in, fil_i, fil_r]; exact a5, by simp (disch := omega) only [up_eq, up_r, up_i, fil_in, fil_i, fil_r]; exact a6, by simp (disch := omega) only [up_eq, up_r, up_i, fil_in, fil_i, fil_r]; exact a7, by simp (disch := omega) only [up_eq, up_r, up_i, fil_in, fil_i, fil_r]; exact a8, by simp (disch := omega) only [up_eq, up_r, up_i, fil_in, fil_i, fil_r]; exact a9, by rw [cHas_c (b := b) (fun i hi => by simp (disch := omega) only [up_eq, up_r, up_i, fil_in, fil_i, fil_r])]; simp (disch := omega) only [up_eq, up_r, up_i, fil_in, fil_i, fil_r]; exact a12, by rw [cFad_c (b := b) (fun i hi => by simp (disch := omega) only [up_eq, up_r, up_i, fil_in, fil_i, fil_r])]; simp (disch := omega) only [up_eq, up_r, up_i, fil_in, fil_i, fil_r]; exact a13, by simp (disch := omega) only [up_eq, up_r, up_i, fil_in, fil_i, fil_r]; omega, by simp (disch := omega) only [up_eq, up_r, up_i, fil_in, fil_i, fil_r]; exact hs, ?_, rC_c hk a17 (fun _ _ => rfl) (fun _ _ => rfl) (fun _ _ => rfl) (fun _ _ => rfl) (fun _ _ => rfl) (fun _ _ => rfl) (Int.le_refl _) (fun _ _ => rfl) (Int.le_refl _) (fun i hi => ⟨rfl, rfl, rfl, rfl, rfl, rfl, rfl⟩)⟩
    rcases a16 with ⟨c1, -⟩ | ⟨c1, c2⟩
    · omega
    · exact Or.inr ⟨by simp (disch := omega) only [up_eq, up_r, up_i, fil_in, fil_i, fil_r]; exact c1, c2⟩
  · exact rY1_c hk (hY k hk) (fun _ _ => rfl) (fun _ _ => rfl) (fun _ _ => rfl) (fun _ _ => rfl) (fun _ _ => rfl) (fun _ _ => rfl) (by simp (disch := omega) only [up_eq, up_r, up_i, fil_in, fil_i, fil_r]) (by simp (disch := omega) only [up_eq, up_r, up_i, fil_in, fil_i, fil_r]) (by simp (disch := omega) only [up_eq, up_r, up_i, fil_in, fil_i, fil_r]) (by simp (disch := omega) only [up_eq, up_r, up_i, fil_in, fil_i, fil_r]) (by simp (disch := omega) only [up_eq, up_r, up_i, fil_in, fil_i, fil_r]) (by simp (disch := omega) only [up_eq, up_r, up_i, fil_in, fil_i, fil_r]) (by simp (disch := omega) only [up_eq, up_r, up_i, fil_in, fil_i, fil_r]) (fun _ _ => Int.le_refl _) (Int.le_refl _) (Int.le_refl _) (fun _ _ => rfl) (Int.le_refl _) rfl rfl rfl rfl (fun i hi => ⟨rfl, rfl, rfl, rfl, rfl, rfl, rfl⟩)
theorem rG_since1 {M n : Int} {b g : xB} {p : Nat} (h : rG M n b (g 71)) (hp : p < 4) (hs : b 287 p + 1 ≤ b 108 0) (hm : b 288 p = 1) : rG M n (x_up b 287 p (b 287 p + 1)) (x_up g 71 (1738 + p) (b 287 p + 1) 71) := by
  obtain ⟨hF, hL, hR, hP, hV, hQ, hY, hX, u1, u2, u3, u4⟩ := h
  refine ⟨rF_c hF rfl (fun i _ _ => by simp (disch := omega) only [up_eq, up_r, up_i, fil_in, fil_i, fil_r]), rL_c hL rfl rfl rfl rfl rfl rfl (fun i hi => by simp (disch := omega) only [up_eq, up_r, up_i, fil_in, fil_i, fil_r]), rR_c hR rfl rfl rfl rfl rfl rfl rfl rfl rfl (fun i hi => by simp (disch := omega) only [up_eq, up_r, up_i, fil_in, fil_i, fil_r]), rP_c hP rfl rfl rfl rfl rfl rfl rfl (fun i hi => by simp (disch := omega) only [up_eq, up_r, up_i, fil_in, fil_i, fil_r]), rV_c hV rfl rfl rfl rfl rfl (fun i _ hi => by simp (disch := omega) only [up_eq, up_r, up_i, fil_in, fil_i, fil_r]), rQ_c hQ rfl rfl rfl rfl rfl rfl rfl rfl (Int.le_refl _) (fun i _ hi => by simp (disch := omega) only [up_eq, up_r, up_i, fil_in, fil_i, fil_r]), ?_, rX_c hX rfl rfl rfl rfl rfl (Int.le_refl _) (fun _ _ => rfl) (fun i hi => by simp (disch := omega) only [up_eq, up_r, up_i, fil_in, fil_i, fil_r]), by simp (disch := omega) only [up_eq, up_r, up_i, fil_in, fil_i, fil_r]; exact u1, u2, u3, by simp (disch := omega) only [up_eq, up_r, up_i, fil_in, fil_i, fil_r]; exact u4⟩
  intro k hk
  by_cases e : k = p
  · subst e
    obtain ⟨a1, a2, a3, a4, a5, a6, a7, a8, a9, a12, a13, a14, a15, a16, a17⟩ := hY k hk
    refine ⟨by simp (disch := omega) only [up_eq, up_r, up_i, fil_in, fil_i, fil_r]; exact a1, by simp (disch := omega) only [up_eq, up_r, up_i, fil_in, fil_i, fil_r]; exact a2, by simp (disch := omega) only [up_eq, up_r, up_i, fil_in, fil_i, fil_r]; exact a3, by simp (disch := omega) only [up_eq, up_r, up_i, fil_in, fil_i, fil_r]; exact a4, by simp (disch := omega) only [up_eq, up_r, up_i, fil_in, fil_i, fil_r]; exact a5, by simp (disch := omega) only [up_eq, up_r, up_i, fil_in, fil_i, fil_r]; exact a6, by simp (disch := omega) only [up_eq, up_r, up_i, fil_in, fil_i, fil_r]; exact a7, by simp (disch := omega) only [up_eq, up_r, up_i, fil_in, fil_i, fil_r]; exact a8, by simp (disch := omega) only [up_eq, up_r, up_i, fil_in, fil_i, fil_r]; exact a9, by rw [cHas_c (b := b) (fun i hi => by simp (disch := omega) only [up_eq, up_r, up_i, fil_in, fil_i, fil_r])]; simp (disch := omega) only [up_eq, up_r, up_i, fil_in, fil_i, fil_r]; exact a12, by rw [cFad_c (b := b) (fun i hi => by simp (disch := omega) only [up_eq, up_r, up_i, fil_in, fil_i, fil_r])]; simp (disch := omega) only [up_eq, up_r, up_i, fil_in, fil_i, fil_r]; exact a13, by simp (disch := omega) only [up_eq, up_r, up_i, fil_in, fil_i, fil_r]; omega, by simp (disch := omega) only [up_eq, up_r, up_i, fil_in, fil_i, fil_r]; exact hs, ?_, rC_c hk a17 (fun _ _ => rfl) (fun _ _ => rfl) (fun _ _ => rfl) (fun _ _ => rfl) (fun _ _ => rfl) (fun _ _ => rfl) (Int.le_refl _) (fun _ _ => rfl) (Int.le_refl _) (fun i hi => ⟨by simp (disch := omega) only [up_eq, up_r, up_i, fil_in, fil_i, fil_r], by simp (disch := omega) only [up_eq, up_r, up_i, fil_in, fil_i, fil_r], by simp (disch := omega) only [up_eq, up_r, up_i, fil_in, fil_i, fil_r], by simp (disch := omega) only [up_eq, up_r, up_i, fil_in, fil_i, fil_r], by simp (disch := omega) only [up_eq, up_r, up_i, fil_in, fil_i, fil_r], by simp (disch := omega) only [up_eq, up_r, up_i, fil_in, fil_i, fil_r], by simp (disch := omega) only [up_eq, up_r, up_i, fil_in, fil_i, fil_r]⟩)⟩
    rcases a16 with ⟨c1, c2, c3, c4, c5⟩ | ⟨c1, c2⟩
    · exact Or.inl ⟨by simp (disch := omega) only [up_eq, up_r, up_i, fil_in, fil_i, fil_r]; exact c1, by simp (disch := omega) only [up_eq, up_r, up_i, fil_in, fil_i, fil_r], by simp (disch := omega) only [up_eq, up_r, up_i, fil_in, fil_i, fil_r]; exact c3, by simp (disch := omega) only [up_eq, up_r, up_i, fil_in, fil_i, fil_r]; exact c4, by simp (disch := omega) only [up_eq, up_r, up_i, fil_in, fil_i, fil_r]; exact c5⟩
    · omega
  · exact rY1_c hk (hY k hk) (fun _ _ => rfl) (fun _ _ => rfl) (fun _ _ => rfl) (fun _ _ => rfl) (fun _ _ => rfl) (fun _ _ => rfl) (by simp (disch := omega) only [up_eq, up_r, up_i, fil_in, fil_i, fil_r]) (by simp (disch := omega) only [up_eq, up_r, up_i, fil_in, fil_i, fil_r]) (by simp (disch := omega) only [up_eq, up_r, up_i, fil_in, fil_i, fil_r]) (by simp (disch := omega) only [up_eq, up_r, up_i, fil_in, fil_i, fil_r]) (by simp (disch := omega) only [up_eq, up_r, up_i, fil_in, fil_i, fil_r]) (by simp (disch := omega) only [up_eq, up_r, up_i, fil_in, fil_i, fil_r]) (by simp (disch := omega) only [up_eq, up_r, up_i, fil_in, fil_i, fil_r]) (fun _ _ => Int.le_refl _) (Int.le_refl _) (Int.le_refl _) (fun _ _ => rfl) (Int.le_refl _) (by simp (disch := omega) only [up_eq, up_r, up_i, fil_in, fil_i, fil_r]) (by simp (disch := omega) only [up_eq, up_r, up_i, fil_in, fil_i, fil_r]) (by simp (disch := omega) only [up_eq, up_r, up_i, fil_in, fil_i, fil_r]) (by simp (disch := omega) only [up_eq, up_r, up_i, fil_in, fil_i, fil_r]) (fun i hi => ⟨by simp (disch := omega) only [up_eq, up_r, up_i, fil_in, fil_i, fil_r], by simp (disch := omega) only [up_eq, up_r, up_i, fil_in, fil_i, fil_r], by simp (disch := omega) only [up_eq, up_r, up_i, fil_in, fil_i, fil_r], by simp (disch := omega) only [up_eq, up_r, up_i, fil_in, fil_i, fil_r], by simp (disch := omega) only [up_eq, up_r, up_i, fil_in, fil_i, fil_r], by simp (disch := omega) only [up_eq, up_r, up_i, fil_in, fil_i, fil_r], by simp (disch := omega) only [up_eq, up_r, up_i, fil_in, fil_i, fil_r]⟩)
theorem Q_followAt_e {b : xB} {l pl : Nat} {Q : Int → xB → Prop} (hl : l < 4) (hpl : (pl : Int) < b 39 l) (h8 : b 39 l ≤ 8) : w_Q_followAt b l pl Q = Q (b 41 (l * 8 + pl)) b := by
  simp (disch := omega) only [w_Q_followAt, w_Q_hasStep, e_T, e_F, e_t, e_f, e_gd, e_bg0, e_bg1, e_nz, Int.toNat_natCast, Int.toNat_add, Int.toNat_mul, xw_al, xw_ar, xw_ml, xw_mr, xw_sl, xw_sr, xw_id, x_sl_c, mc3, mc6, mc8, mc12, mc64, mc72, Nat.add_assoc, Int.reduceToNat, L_isLine_t, L_isLine_f, R_has_t, R_has_f, R_isCh_t, R_isCh_f, V_isCurve_t, V_isCurve_f, Q_isCue_t, Q_isCue_f, Q_isList_t, Q_isList_f, B_isPb_t, B_isPb_f, m_in_t, m_in_f, m_isLine_t, m_isLine_f, m_isPb_t, m_isPb_f, m_isFx_t, m_isFx_f, F_note_e, m_finds_e, Int.reduceToNat, noted_neg, up_eq, up_r, up_i, fil_in, fil_i, fil_r]
theorem play_A {M n : Int} {p : Nat} {b g : xB} (hp : p < 4) (h : rG M n b (g 71)) (hM0 : 0 ≤ M) (hM : M + 2592 ≤ 900000000) (hs : b 287 p + 1 ≤ b 108 0) (hT : b 108 0 ≤ 2000) : ∃ b' g', rG (M + 2592) n b' (g' 71) ∧ pF b b' ∧ (∀ k, k ≠ p → b' 287 k = b 287 k) ∧ pM p g g' ∧ (∀ K : xB → Prop, K b' → w_Y_stepFades b p (fun b4 => w_B_isFollowedNow b4 p (fun r5 b6 => x_br (r5 = 0) (K b6) (x_gd p 4 (w_B_startNext b6 p K))))) ∧ (∀ Q : xB → Prop, Q g' → w_m_play g p Q = True) := by
  have h00 : rG M n b (x_up (x_up g 71 (1742 + p) (xw (g 71 (1742 + p) + 1))) 71 (1746 + p) (xw (g 71 (1746 + p) + 1)) 71) := rG_E h (fun _ _ _ => rfl) (fun i hi => by simp (disch := omega) only [up_eq, up_r, up_i, fil_in, fil_i, fil_r])
  obtain ⟨b1, g1, z1, z2, z3, z4, z5⟩ := fades_A hp h00
  have s1 : b1 287 p + 1 ≤ b1 108 0 := by rw [z2 287 (by omega), z2 108 (by omega)]; exact hs
  have hT1 : b1 108 0 ≤ 2000 := by rw [z2 108 (by omega)]; exact hT
  have gm : mS g g1 := fun r a1 a2 a3 a4 a5 a6 a7 => by rw [z3.1 r a1, upR a1, upR a1]
  have gi : ∀ i, i < 1730 ∨ 3766 < i → g1 71 i = g 71 i := fun i hi => by rw [z3.2 i (by omega)]; simp (disch := omega) only [up_eq, up_r, up_i, fil_in, fil_i, fil_r]
  have gk : ∀ k, k < 4 → k ≠ p → g1 71 (1742 + k) = g 71 (1742 + k) ∧ g1 71 (1746 + k) = g 71 (1746 + k) := fun k hk hne => ⟨by rw [z3.2 _ (by omega)]; simp (disch := omega) only [up_eq, up_r, up_i, fil_in, fil_i, fil_r], by rw [z3.2 _ (by omega)]; simp (disch := omega) only [up_eq, up_r, up_i, fil_in, fil_i, fil_r]⟩
  have gp1 : g1 71 (1742 + p) = xw (g 71 (1742 + p) + 1) := by rw [z3.2 _ (by omega)]; simp (disch := omega) only [up_eq, up_r, up_i, fil_in, fil_i, fil_r]
  have gp2 : g1 71 (1746 + p) = xw (g 71 (1746 + p) + 1) := by rw [z3.2 _ (by omega)]; simp (disch := omega) only [up_eq, up_r, up_i, fil_in, fil_i, fil_r]
  have bf : pF b b1 := fun r hr => z2 r (by omega)
  obtain ⟨a1, a2, a3, a4, a5, a6, a7, a8, a9, a12, a13, a14, a15, a16, a17⟩ := z1.2.2.2.2.2.2.1 p hp
  have hQ2 := z1.2.2.2.2.2.1.2
  have wrap : ∀ (Q : xB → Prop) (g' : xB), Q g' → (∃ m, w_m_play_h33 Q (fun g3 v1_2 => x_gd (xw (1738 + v1_2)) 3779 (x_br ((g3 71 ((xw (1738 + v1_2)).toNat)) < 0) (Q g3) (x_gd (xw (1738 + v1_2)) 3779 (x_gd (xw (1738 + v1_2)) 3779 (x_gd (xw (1726 + v1_2)) 3779 (x_gd (xw (1730 + v1_2)) 3779 (x_gd (xw ((xw (1694 + (xw (8 * ((x_up g3 71 ((xw (1738 + v1_2)).toNat) (xw ((g3 71 ((xw (1738 + v1_2)).toNat)) + 1))) 71 ((xw (1726 + v1_2)).toNat)))))) + ((x_up g3 71 ((xw (1738 + v1_2)).toNat) (xw ((g3 71 ((xw (1738 + v1_2)).toNat)) + 1))) 71 ((xw (1730 + v1_2)).toNat)))) 3779 (x_br ((0 : Int) < ((x_up g3 71 ((xw (1738 + v1_2)).toNat) (xw ((g3 71 ((xw (1738 + v1_2)).toNat)) + 1))) 71 ((xw ((xw (1694 + (xw (8 * ((x_up g3 71 ((xw (1738 + v1_2)).toNat) (xw ((g3 71 ((xw (1738 + v1_2)).toNat)) + 1))) 71 ((xw (1726 + v1_2)).toNat)))))) + ((x_up g3 71 ((xw (1738 + v1_2)).toNat) (xw ((g3 71 ((xw (1738 + v1_2)).toNat)) + 1))) 71 ((xw (1730 + v1_2)).toNat)))).toNat))) (x_gd (xw (1738 + v1_2)) 3779 (x_br (((x_up g3 71 ((xw (1738 + v1_2)).toNat) (xw ((g3 71 ((xw (1738 + v1_2)).toNat)) + 1))) 71 ((xw (1738 + v1_2)).toNat)) = ((x_up g3 71 ((xw (1738 + v1_2)).toNat) (xw ((g3 71 ((xw (1738 + v1_2)).toNat)) + 1))) 71 ((xw ((xw (1694 + (xw (8 * ((x_up g3 71 ((xw (1738 + v1_2)).toNat) (xw ((g3 71 ((xw (1738 + v1_2)).toNat)) + 1))) 71 ((xw (1726 + v1_2)).toNat)))))) + ((x_up g3 71 ((xw (1738 + v1_2)).toNat) (xw ((g3 71 ((xw (1738 + v1_2)).toNat)) + 1))) 71 ((xw (1730 + v1_2)).toNat)))).toNat))) (w_m_hasNext (x_up g3 71 ((xw (1738 + v1_2)).toNat) (xw ((g3 71 ((xw (1738 + v1_2)).toNat)) + 1))) v1_2 (fun r4 g5 => x_br (r4 = 0) (Q g5) (w_m_goes g5 v1_2 (fun r6 g7 => Q g7)))) (Q (x_up g3 71 ((xw (1738 + v1_2)).toNat) (xw ((g3 71 ((xw (1738 + v1_2)).toNat)) + 1)))))) (Q (x_up g3 71 ((xw (1738 + v1_2)).toNat) (xw ((g3 71 ((xw (1738 + v1_2)).toNat)) + 1)))))))))))) m (x_up (x_up g 71 (1742 + p) (xw (g 71 (1742 + p) + 1))) 71 (1746 + p) (xw (g 71 (1746 + p) + 1))) p ((p * 72 + 0 : Nat) : Int)) → w_m_play g p Q = True := by
    intro Q g' _ hm
    refine eq_true ?_
    unfold w_m_play
    rw [show xw (1742 + (p : Int)) = ((1742 + p : Nat) : Int) from (xw_id (by omega) (by omega)).trans (by omega), show xw (1746 + (p : Int)) = ((1746 + p : Nat) : Int) from (xw_id (by omega) (by omega)).trans (by omega), show xw (72 * (p : Int)) = ((p * 72 + 0 : Nat) : Int) from (xw_id (by omega) (by omega)).trans (by omega), Int.toNat_natCast, Int.toNat_natCast, e_gd (by omega) (by omega), e_gd (by omega) (by omega), e_gd (by omega) (by omega), e_gd (by omega) (by omega), up_i (b := g) (r' := 71) (i' := 1746 + p) (by omega)]
    exact hm
  by_cases hm : b1 288 p = 1
  · obtain ⟨c1, c2, c3, c4, c5⟩ := a16.resolve_right (fun z => by omega)
    obtain ⟨l, hl⟩ := nat_of c3
    obtain ⟨pl, hpl⟩ := nat_of c4
    rw [hl, Int.toNat_natCast] at c5
    have hl4 : l < 4 := by omega
    obtain ⟨q1, q2, q3, q4⟩ := hQ2 l hl4
    obtain ⟨v1, v2, v3, v4, v5, v6⟩ := q4 pl (by omega)
    have r1 := rG_since1 z1 hp s1 c1
    have sl : g1 71 (1726 + p) = (l : Int) := by omega
    have sp : g1 71 (1730 + p) = (pl : Int) := by omega
    by_cases hgo : 0 < b1 41 (l * 8 + pl) ∧ b1 287 p + 1 = b1 41 (l * 8 + pl) ∧ (pl : Int) + 1 < b1 39 l
    · obtain ⟨g1', g2', g3'⟩ := hgo
      obtain ⟨b', g', cue, y1, y2, y3, y4, y5, -, -, -, -, -, -, -, y6⟩ := next_A (p := p) (l := l) (P1 := pl + 1) hp r1 hM0 hM (by simp (disch := omega) only [up_eq, up_r, up_i, fil_in, fil_i, fil_r]; exact hl) (by simp (disch := omega) only [up_eq, up_r, up_i, fil_in, fil_i, fil_r]; omega) (by simp (disch := omega) only [up_eq, up_r, up_i, fil_in, fil_i, fil_r]; omega) (by simp (disch := omega) only [up_eq, up_r, up_i, fil_in, fil_i, fil_r]; omega)
      refine ⟨b', g', y1, fun r hr => ?_, ?_, ⟨mS_tr gm (mS_tr (mS_up mS_rf) y3.1), fun i hi => ?_, fun k hk hne => ?_, ?_, ?_⟩, fun K hK => ?_, fun Q hQ => wrap Q g' hQ (z5 Q _ ?_)⟩
      · rw [y2 r (by omega), upR (by omega)]
        exact bf r hr
      · intro k hk
        rw [y6 k hk, up_i hk, z2 287 (by omega)]
      · rw [y3.2 i (by omega)]
        simp (disch := omega) only [up_eq, up_r, up_i, fil_in, fil_i, fil_r]
        exact gi i (by omega)
      · rw [y3.2 _ (by omega), y3.2 _ (by omega)]
        simp (disch := omega) only [up_eq, up_r, up_i, fil_in, fil_i, fil_r]
        exact gk k hk hne
      · rw [y3.2 _ (by omega)]
        simp (disch := omega) only [up_eq, up_r, up_i, fil_in, fil_i, fil_r]
        exact gp1
      · rw [y3.2 _ (by omega)]
        simp (disch := omega) only [up_eq, up_r, up_i, fil_in, fil_i, fil_r]
        exact gp2
      · refine z4 _ ?_
        have y4 := y4 K hK
        unfold w_B_isFollowedNow
        rw [hl, hpl, Q_followAt_e hl4 (by omega) q3]
        simp (disch := omega) only [w_Y_isFollowDue, w_Q_hasStep, hl, hpl, e_T, e_F, e_t, e_f, e_gd, e_bg0, e_bg1, e_nz, Int.toNat_natCast, Int.toNat_add, Int.toNat_mul, xw_al, xw_ar, xw_ml, xw_mr, xw_sl, xw_sr, xw_id, x_sl_c, mc3, mc6, mc8, mc12, mc64, mc72, Nat.add_assoc, Int.reduceToNat, L_isLine_t, L_isLine_f, R_has_t, R_has_f, R_isCh_t, R_isCh_f, V_isCurve_t, V_isCurve_f, Q_isCue_t, Q_isCue_f, Q_isList_t, Q_isList_f, B_isPb_t, B_isPb_f, m_in_t, m_in_f, m_isLine_t, m_isLine_f, m_isPb_t, m_isPb_f, m_isFx_t, m_isFx_f, F_note_e, m_finds_e, Int.reduceToNat, noted_neg, up_eq, up_r, up_i, fil_in, fil_i, fil_r]
        exact y4
      · have y5 := y5 (fun r6 g7 => Q g7) hQ
        have hn := m_hasNext_e (g := x_up g1 71 (1738 + p) (b1 287 p + 1)) (p := p) (Q := fun r4 g5 => x_br (r4 = 0) (Q g5) (w_m_goes g5 p (fun r6 g7 => Q g7))) hp (by simp (disch := omega) only [up_eq, up_r, up_i, fil_in, fil_i, fil_r]; omega) (by simp (disch := omega) only [up_eq, up_r, up_i, fil_in, fil_i, fil_r]; omega) (by simp (disch := omega) only [up_eq, up_r, up_i, fil_in, fil_i, fil_r]; omega) (by simp (disch := omega) only [up_eq, up_r, up_i, fil_in, fil_i, fil_r]; omega)
        rw [if_pos (by simp (disch := omega) only [up_eq, up_r, up_i, fil_in, fil_i, fil_r]; rw [sl, Int.toNat_natCast, ← q1]; omega)] at hn
        have s3 : g1 71 (1738 + p) = b1 287 p := c2
        have s4 : g1 71 (1694 + (l * 8 + pl)) = b1 287 p + 1 := by omega
        simp (disch := omega) only [s3, sl, sp, s4, e_T, e_F, e_t, e_f, e_gd, e_bg0, e_bg1, e_nz, Int.toNat_natCast, Int.toNat_add, Int.toNat_mul, xw_al, xw_ar, xw_ml, xw_mr, xw_sl, xw_sr, xw_id, x_sl_c, mc3, mc6, mc8, mc12, mc64, mc72, Nat.add_assoc, Int.reduceToNat, L_isLine_t, L_isLine_f, R_has_t, R_has_f, R_isCh_t, R_isCh_f, V_isCurve_t, V_isCurve_f, Q_isCue_t, Q_isCue_f, Q_isList_t, Q_isList_f, B_isPb_t, B_isPb_f, m_in_t, m_in_f, m_isLine_t, m_isLine_f, m_isPb_t, m_isPb_f, m_isFx_t, m_isFx_f, F_note_e, m_finds_e, Int.reduceToNat, noted_neg, up_eq, up_r, up_i, fil_in, fil_i, fil_r]
        rw [hn, e_f (by decide)]
        simp only [y5]
    · have s3 : g1 71 (1738 + p) = b1 287 p := c2
      by_cases k1 : 0 < b1 41 (l * 8 + pl)
      · by_cases k2 : b1 287 p + 1 = b1 41 (l * 8 + pl)
        · refine ⟨_, _, rG_le r1 (by omega), fun r hr => by rw [upR (by omega)]; exact bf r hr, fun k hk => by rw [up_i hk, z2 287 (by omega)], ⟨mS_tr gm (mS_up mS_rf), fun i hi => by simp (disch := omega) only [up_eq, up_r, up_i, fil_in, fil_i, fil_r]; exact gi i (by omega), fun k hk hne => by simp (disch := omega) only [up_eq, up_r, up_i, fil_in, fil_i, fil_r]; exact gk k hk hne, by simp (disch := omega) only [up_eq, up_r, up_i, fil_in, fil_i, fil_r]; exact gp1, by simp (disch := omega) only [up_eq, up_r, up_i, fil_in, fil_i, fil_r]; exact gp2⟩, fun K hK => ?_, fun Q hQ => wrap Q _ hQ (z5 Q _ ?_)⟩
          · refine z4 _ ?_
            unfold w_B_isFollowedNow
            rw [hl, hpl, Q_followAt_e hl4 (by omega) q3]
            simp (disch := omega) only [w_Y_isFollowDue, w_Q_hasStep, hl, hpl, e_T, e_F, e_t, e_f, e_gd, e_bg0, e_bg1, e_nz, Int.toNat_natCast, Int.toNat_add, Int.toNat_mul, xw_al, xw_ar, xw_ml, xw_mr, xw_sl, xw_sr, xw_id, x_sl_c, mc3, mc6, mc8, mc12, mc64, mc72, Nat.add_assoc, Int.reduceToNat, L_isLine_t, L_isLine_f, R_has_t, R_has_f, R_isCh_t, R_isCh_f, V_isCurve_t, V_isCurve_f, Q_isCue_t, Q_isCue_f, Q_isList_t, Q_isList_f, B_isPb_t, B_isPb_f, m_in_t, m_in_f, m_isLine_t, m_isLine_f, m_isPb_t, m_isPb_f, m_isFx_t, m_isFx_f, F_note_e, m_finds_e, Int.reduceToNat, noted_neg, up_eq, up_r, up_i, fil_in, fil_i, fil_r]
            exact hK
          · have hn := m_hasNext_e (g := x_up g1 71 (1738 + p) (b1 287 p + 1)) (p := p) (Q := fun r4 g5 => x_br (r4 = 0) (Q g5) (w_m_goes g5 p (fun r6 g7 => Q g7))) hp (by simp (disch := omega) only [up_eq, up_r, up_i, fil_in, fil_i, fil_r]; omega) (by simp (disch := omega) only [up_eq, up_r, up_i, fil_in, fil_i, fil_r]; omega) (by simp (disch := omega) only [up_eq, up_r, up_i, fil_in, fil_i, fil_r]; omega) (by simp (disch := omega) only [up_eq, up_r, up_i, fil_in, fil_i, fil_r]; omega)
            rw [if_neg (by simp (disch := omega) only [up_eq, up_r, up_i, fil_in, fil_i, fil_r]; rw [sl, Int.toNat_natCast, ← q1]; omega)] at hn
            have s4 : g1 71 (1694 + (l * 8 + pl)) = b1 287 p + 1 := by omega
            simp (disch := omega) only [s3, sl, sp, s4, e_T, e_F, e_t, e_f, e_gd, e_bg0, e_bg1, e_nz, Int.toNat_natCast, Int.toNat_add, Int.toNat_mul, xw_al, xw_ar, xw_ml, xw_mr, xw_sl, xw_sr, xw_id, x_sl_c, mc3, mc6, mc8, mc12, mc64, mc72, Nat.add_assoc, Int.reduceToNat, L_isLine_t, L_isLine_f, R_has_t, R_has_f, R_isCh_t, R_isCh_f, V_isCurve_t, V_isCurve_f, Q_isCue_t, Q_isCue_f, Q_isList_t, Q_isList_f, B_isPb_t, B_isPb_f, m_in_t, m_in_f, m_isLine_t, m_isLine_f, m_isPb_t, m_isPb_f, m_isFx_t, m_isFx_f, F_note_e, m_finds_e, Int.reduceToNat, noted_neg, up_eq, up_r, up_i, fil_in, fil_i, fil_r]
            rw [hn, e_t rfl]
            exact hQ
        · refine ⟨_, _, rG_le r1 (by omega), fun r hr => by rw [upR (by omega)]; exact bf r hr, fun k hk => by rw [up_i hk, z2 287 (by omega)], ⟨mS_tr gm (mS_up mS_rf), fun i hi => by simp (disch := omega) only [up_eq, up_r, up_i, fil_in, fil_i, fil_r]; exact gi i (by omega), fun k hk hne => by simp (disch := omega) only [up_eq, up_r, up_i, fil_in, fil_i, fil_r]; exact gk k hk hne, by simp (disch := omega) only [up_eq, up_r, up_i, fil_in, fil_i, fil_r]; exact gp1, by simp (disch := omega) only [up_eq, up_r, up_i, fil_in, fil_i, fil_r]; exact gp2⟩, fun K hK => ?_, fun Q hQ => wrap Q _ hQ (z5 Q _ ?_)⟩
          · refine z4 _ ?_
            unfold w_B_isFollowedNow
            rw [hl, hpl, Q_followAt_e hl4 (by omega) q3]
            simp (disch := omega) only [w_Y_isFollowDue, e_T, e_F, e_t, e_f, e_gd, e_bg0, e_bg1, e_nz, Int.toNat_natCast, Int.toNat_add, Int.toNat_mul, xw_al, xw_ar, xw_ml, xw_mr, xw_sl, xw_sr, xw_id, x_sl_c, mc3, mc6, mc8, mc12, mc64, mc72, Nat.add_assoc, Int.reduceToNat, L_isLine_t, L_isLine_f, R_has_t, R_has_f, R_isCh_t, R_isCh_f, V_isCurve_t, V_isCurve_f, Q_isCue_t, Q_isCue_f, Q_isList_t, Q_isList_f, B_isPb_t, B_isPb_f, m_in_t, m_in_f, m_isLine_t, m_isLine_f, m_isPb_t, m_isPb_f, m_isFx_t, m_isFx_f, F_note_e, m_finds_e, Int.reduceToNat, noted_neg, up_eq, up_r, up_i, fil_in, fil_i, fil_r]
            exact hK
          · simp (disch := omega) only [s3, sl, sp, ← v4, e_T, e_F, e_t, e_f, e_gd, e_bg0, e_bg1, e_nz, Int.toNat_natCast, Int.toNat_add, Int.toNat_mul, xw_al, xw_ar, xw_ml, xw_mr, xw_sl, xw_sr, xw_id, x_sl_c, mc3, mc6, mc8, mc12, mc64, mc72, Nat.add_assoc, Int.reduceToNat, L_isLine_t, L_isLine_f, R_has_t, R_has_f, R_isCh_t, R_isCh_f, V_isCurve_t, V_isCurve_f, Q_isCue_t, Q_isCue_f, Q_isList_t, Q_isList_f, B_isPb_t, B_isPb_f, m_in_t, m_in_f, m_isLine_t, m_isLine_f, m_isPb_t, m_isPb_f, m_isFx_t, m_isFx_f, F_note_e, m_finds_e, Int.reduceToNat, noted_neg, up_eq, up_r, up_i, fil_in, fil_i, fil_r]
            exact hQ
      · refine ⟨_, _, rG_le r1 (by omega), fun r hr => by rw [upR (by omega)]; exact bf r hr, fun k hk => by rw [up_i hk, z2 287 (by omega)], ⟨mS_tr gm (mS_up mS_rf), fun i hi => by simp (disch := omega) only [up_eq, up_r, up_i, fil_in, fil_i, fil_r]; exact gi i (by omega), fun k hk hne => by simp (disch := omega) only [up_eq, up_r, up_i, fil_in, fil_i, fil_r]; exact gk k hk hne, by simp (disch := omega) only [up_eq, up_r, up_i, fil_in, fil_i, fil_r]; exact gp1, by simp (disch := omega) only [up_eq, up_r, up_i, fil_in, fil_i, fil_r]; exact gp2⟩, fun K hK => ?_, fun Q hQ => wrap Q _ hQ (z5 Q _ ?_)⟩
        · refine z4 _ ?_
          unfold w_B_isFollowedNow
          rw [hl, hpl, Q_followAt_e hl4 (by omega) q3]
          simp (disch := omega) only [w_Y_isFollowDue, e_T, e_F, e_t, e_f, e_gd, e_bg0, e_bg1, e_nz, Int.toNat_natCast, Int.toNat_add, Int.toNat_mul, xw_al, xw_ar, xw_ml, xw_mr, xw_sl, xw_sr, xw_id, x_sl_c, mc3, mc6, mc8, mc12, mc64, mc72, Nat.add_assoc, Int.reduceToNat, L_isLine_t, L_isLine_f, R_has_t, R_has_f, R_isCh_t, R_isCh_f, V_isCurve_t, V_isCurve_f, Q_isCue_t, Q_isCue_f, Q_isList_t, Q_isList_f, B_isPb_t, B_isPb_f, m_in_t, m_in_f, m_isLine_t, m_isLine_f, m_isPb_t, m_isPb_f, m_isFx_t, m_isFx_f, F_note_e, m_finds_e, Int.reduceToNat, noted_neg, up_eq, up_r, up_i, fil_in, fil_i, fil_r]
          exact hK
        · simp (disch := omega) only [s3, sl, sp, ← v4, e_T, e_F, e_t, e_f, e_gd, e_bg0, e_bg1, e_nz, Int.toNat_natCast, Int.toNat_add, Int.toNat_mul, xw_al, xw_ar, xw_ml, xw_mr, xw_sl, xw_sr, xw_id, x_sl_c, mc3, mc6, mc8, mc12, mc64, mc72, Nat.add_assoc, Int.reduceToNat, L_isLine_t, L_isLine_f, R_has_t, R_has_f, R_isCh_t, R_isCh_f, V_isCurve_t, V_isCurve_f, Q_isCue_t, Q_isCue_f, Q_isList_t, Q_isList_f, B_isPb_t, B_isPb_f, m_in_t, m_in_f, m_isLine_t, m_isLine_f, m_isPb_t, m_isPb_f, m_isFx_t, m_isFx_f, F_note_e, m_finds_e, Int.reduceToNat, noted_neg, up_eq, up_r, up_i, fil_in, fil_i, fil_r]
          exact hQ
  · rcases a16 with ⟨c1, c2, c3, c4, c5⟩ | ⟨c1, c2⟩
    · exact absurd c1 hm
    have r1 := rG_since z1 hp s1 c1
    refine ⟨_, g1, rG_le r1 (by omega), fun r hr => by rw [upR (by omega)]; exact bf r hr, fun k hk => by rw [up_i hk, z2 287 (by omega)], ⟨gm, fun i hi => gi i (by omega), gk, gp1, gp2⟩, fun K hK => ?_, fun Q hQ => wrap Q _ hQ (z5 Q _ ?_)⟩
    · refine z4 _ ?_
      unfold w_B_isFollowedNow w_Q_followAt
      by_cases hl0 : b1 280 p < 0
      · simp (disch := omega) only [w_Q_hasStep, w_Y_isFollowDue, e_T, e_F, e_t, e_f, e_gd, e_bg0, e_bg1, e_nz, Int.toNat_natCast, Int.toNat_add, Int.toNat_mul, xw_al, xw_ar, xw_ml, xw_mr, xw_sl, xw_sr, xw_id, x_sl_c, mc3, mc6, mc8, mc12, mc64, mc72, Nat.add_assoc, Int.reduceToNat, L_isLine_t, L_isLine_f, R_has_t, R_has_f, R_isCh_t, R_isCh_f, V_isCurve_t, V_isCurve_f, Q_isCue_t, Q_isCue_f, Q_isList_t, Q_isList_f, B_isPb_t, B_isPb_f, m_in_t, m_in_f, m_isLine_t, m_isLine_f, m_isPb_t, m_isPb_f, m_isFx_t, m_isFx_f, F_note_e, m_finds_e, Int.reduceToNat, noted_neg, up_eq, up_r, up_i, fil_in, fil_i, fil_r]
        exact hK
      · by_cases hp0 : b1 281 p < 0
        · simp (disch := omega) only [w_Q_hasStep, w_Y_isFollowDue, e_T, e_F, e_t, e_f, e_gd, e_bg0, e_bg1, e_nz, Int.toNat_natCast, Int.toNat_add, Int.toNat_mul, xw_al, xw_ar, xw_ml, xw_mr, xw_sl, xw_sr, xw_id, x_sl_c, mc3, mc6, mc8, mc12, mc64, mc72, Nat.add_assoc, Int.reduceToNat, L_isLine_t, L_isLine_f, R_has_t, R_has_f, R_isCh_t, R_isCh_f, V_isCurve_t, V_isCurve_f, Q_isCue_t, Q_isCue_f, Q_isList_t, Q_isList_f, B_isPb_t, B_isPb_f, m_in_t, m_in_f, m_isLine_t, m_isLine_f, m_isPb_t, m_isPb_f, m_isFx_t, m_isFx_f, F_note_e, m_finds_e, Int.reduceToNat, noted_neg, up_eq, up_r, up_i, fil_in, fil_i, fil_r]
          exact hK
        · obtain ⟨l, hl⟩ := nat_of (l := b1 280 p) (by omega)
          obtain ⟨pl, hpl⟩ := nat_of (l := b1 281 p) (by omega)
          have hl4 : l < 4 := by omega
          obtain ⟨q1, q2, q3, q4⟩ := hQ2 l hl4
          by_cases hin : (pl : Int) < b1 39 l
          · simp (disch := omega) only [w_Q_hasStep, w_Y_isFollowDue, hl, hpl, e_T, e_F, e_t, e_f, e_gd, e_bg0, e_bg1, e_nz, Int.toNat_natCast, Int.toNat_add, Int.toNat_mul, xw_al, xw_ar, xw_ml, xw_mr, xw_sl, xw_sr, xw_id, x_sl_c, mc3, mc6, mc8, mc12, mc64, mc72, Nat.add_assoc, Int.reduceToNat, L_isLine_t, L_isLine_f, R_has_t, R_has_f, R_isCh_t, R_isCh_f, V_isCurve_t, V_isCurve_f, Q_isCue_t, Q_isCue_f, Q_isList_t, Q_isList_f, B_isPb_t, B_isPb_f, m_in_t, m_in_f, m_isLine_t, m_isLine_f, m_isPb_t, m_isPb_f, m_isFx_t, m_isFx_f, F_note_e, m_finds_e, Int.reduceToNat, noted_neg, up_eq, up_r, up_i, fil_in, fil_i, fil_r]
            exact hK
          · simp (disch := omega) only [w_Q_hasStep, w_Y_isFollowDue, hl, hpl, e_T, e_F, e_t, e_f, e_gd, e_bg0, e_bg1, e_nz, Int.toNat_natCast, Int.toNat_add, Int.toNat_mul, xw_al, xw_ar, xw_ml, xw_mr, xw_sl, xw_sr, xw_id, x_sl_c, mc3, mc6, mc8, mc12, mc64, mc72, Nat.add_assoc, Int.reduceToNat, L_isLine_t, L_isLine_f, R_has_t, R_has_f, R_isCh_t, R_isCh_f, V_isCurve_t, V_isCurve_f, Q_isCue_t, Q_isCue_f, Q_isList_t, Q_isList_f, B_isPb_t, B_isPb_f, m_in_t, m_in_f, m_isLine_t, m_isLine_f, m_isPb_t, m_isPb_f, m_isFx_t, m_isFx_f, F_note_e, m_finds_e, Int.reduceToNat, noted_neg, up_eq, up_r, up_i, fil_in, fil_i, fil_r]
            exact hK
    · simp (disch := omega) only [e_T, e_F, e_t, e_f, e_gd, e_bg0, e_bg1, e_nz, Int.toNat_natCast, Int.toNat_add, Int.toNat_mul, xw_al, xw_ar, xw_ml, xw_mr, xw_sl, xw_sr, xw_id, x_sl_c, mc3, mc6, mc8, mc12, mc64, mc72, Nat.add_assoc, Int.reduceToNat, L_isLine_t, L_isLine_f, R_has_t, R_has_f, R_isCh_t, R_isCh_f, V_isCurve_t, V_isCurve_f, Q_isCue_t, Q_isCue_f, Q_isList_t, Q_isList_f, B_isPb_t, B_isPb_f, m_in_t, m_in_f, m_isLine_t, m_isLine_f, m_isPb_t, m_isPb_f, m_isFx_t, m_isFx_f, F_note_e, m_finds_e, Int.reduceToNat, noted_neg, up_eq, up_r, up_i, fil_in, fil_i, fil_r]
      exact hQ
