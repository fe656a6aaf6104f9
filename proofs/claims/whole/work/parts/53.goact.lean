/-! ===== GO ===== -/
def fNb (b b' : xB) : Prop := ∀ r, r < 10 ∨ (10 < r ∧ r < 23) ∨ (23 < r ∧ r < 47) ∨ (52 < r ∧ r < 110) ∨ (110 < r ∧ r < 170) ∨ (170 < r ∧ r < 281) ∨ (281 < r ∧ r < 285) ∨ 288 < r → b' r = b r
def fNm (g g' : xB) : Prop := mS g g' ∧ ∀ i, i < 1730 ∨ (1742 ≤ i ∧ i < 1750) ∨ (3766 < i ∧ i ≠ 3775) → g' 71 i = g 71 i
theorem fNb_tr {b b' b'' : xB} (h : fNb b b') (h' : fNb b' b'') : fNb b b'' := fun r hr => (h' r hr).trans (h r hr)
theorem fNm_tr {b b' b'' : xB} (h : fNm b b') (h' : fNm b' b'') : fNm b b'' := ⟨mS_tr h.1 h'.1, fun i hi => (h'.2 i hi).trans (h.2 i hi)⟩
theorem fNm_rf {g : xB} : fNm g g := ⟨mS_rf, fun _ _ => rfl⟩
theorem fNb_rf {g : xB} : fNb g g := fun _ _ => rfl
theorem rG_le2 {M n n' : Int} {b : xB} {s : Nat → Int} (h : rG M n b s) (hn : n ≤ n') : rG M n' b s := by
  obtain ⟨hF, hL, hR, hP, hV, hQ, hY, hX, u1, u2, u3, u4⟩ := h
  exact ⟨hF, hL, hR, hP, hV, hQ, hY, hX, u1, u2, u3, by omega⟩
theorem next_A {M n : Int} {b g : xB} {p l P1 : Nat} (hp : p < 4) (h : rG M n b (g 71)) (hM0 : 0 ≤ M) (hM : M + 2592 ≤ 900000000) (hl : b 280 p = (l : Int)) (h1 : b 281 p + 1 = (P1 : Int)) (hh : (P1 : Int) < b 39 l) (hT : 0 ≤ b 108 0) : ∃ (b' g' : xB) (cue : Nat), rG (M + 2592) n b' (g' 71) ∧ fNb b b' ∧ fNm g g' ∧ (∀ Q : xB → Prop, Q b' → w_B_startNext b p Q) ∧ (∀ Q : Int → xB → Prop, Q cue g' → w_m_goes g p Q = True) ∧ b' 280 p = (l : Int) ∧ b' 281 p = (P1 : Int) ∧ b' 40 (l * 8 + P1) = (cue : Int) ∧ (P1 : Int) < b' 39 l ∧ cue < 16 ∧ l < 4 ∧ P1 < 8 ∧ (∀ k, k ≠ p → b' 287 k = b 287 k) := by
  obtain ⟨hF, hL, hR, hP, hV, hQ, hY, hX, u1, u2, u3, u4⟩ := h
  obtain ⟨a1, a2, a3, a4, a5, a6, a7, a8, a9, a12, a13, a14, a15, a16, a17⟩ := hY p hp
  have hl4 : l < 4 := by omega
  obtain ⟨q1, q2, q3, q4⟩ := hQ.2 l hl4
  obtain ⟨v1, v2, v3, v4, v5, v6⟩ := q4 P1 hh
  obtain ⟨cue, hcue⟩ := nat_of v2
  have sl : g 71 (1726 + p) = (l : Int) := by omega
  have sp : g 71 (1730 + p) + 1 = (P1 : Int) := by omega
  have sc : g 71 (1662 + (l * 8 + P1)) = (cue : Int) := by omega
  have h0 : rG M n (x_up (x_up (x_up b 281 p P1) 287 p 0) 288 p 1) (x_up (x_up g 71 (1730 + p) P1) 71 (1738 + p) 0 71) := by
    refine ⟨rF_c hF rfl (fun i _ _ => by simp (disch := omega) only [up_eq, up_r, up_i, fil_in, fil_i, fil_r]), rL_c hL rfl rfl rfl rfl rfl rfl (fun i hi => by simp (disch := omega) only [up_eq, up_r, up_i, fil_in, fil_i, fil_r]), rR_c hR rfl rfl rfl rfl rfl rfl rfl rfl rfl (fun i hi => by simp (disch := omega) only [up_eq, up_r, up_i, fil_in, fil_i, fil_r]), rP_c hP rfl rfl rfl rfl rfl rfl rfl (fun i hi => by simp (disch := omega) only [up_eq, up_r, up_i, fil_in, fil_i, fil_r]), rV_c hV rfl rfl rfl rfl rfl (fun i _ hi => by simp (disch := omega) only [up_eq, up_r, up_i, fil_in, fil_i, fil_r]), rQ_c hQ rfl rfl rfl rfl rfl rfl rfl rfl (Int.le_refl _) (fun i _ hi => by simp (disch := omega) only [up_eq, up_r, up_i, fil_in, fil_i, fil_r]), ?_, rX_c hX rfl rfl rfl rfl rfl (Int.le_refl _) (fun _ _ => rfl) (fun i hi => by simp (disch := omega) only [up_eq, up_r, up_i, fil_in, fil_i, fil_r]), by simp (disch := omega) only [up_eq, up_r, up_i, fil_in, fil_i, fil_r]; exact u1, by simp (disch := omega) only [up_eq, up_r, up_i, fil_in, fil_i, fil_r]; exact u2, by simp (disch := omega) only [up_eq, up_r, up_i, fil_in, fil_i, fil_r]; exact u3, by simp (disch := omega) only [up_eq, up_r, up_i, fil_in, fil_i, fil_r]; exact u4⟩
    intro k hk
    by_cases e : k = p
    · subst e
      refine ⟨by simp (disch := omega) only [up_eq, up_r, up_i, fil_in, fil_i, fil_r]; exact a1, by simp (disch := omega) only [up_eq, up_r, up_i, fil_in, fil_i, fil_r]; exact a2, by simp (disch := omega) only [up_eq, up_r, up_i, fil_in, fil_i, fil_r]; exact a3, by simp (disch := omega) only [up_eq, up_r, up_i, fil_in, fil_i, fil_r], by simp (disch := omega) only [up_eq, up_r, up_i, fil_in, fil_i, fil_r]; omega, by simp (disch := omega) only [up_eq, up_r, up_i, fil_in, fil_i, fil_r]; omega, by simp (disch := omega) only [up_eq, up_r, up_i, fil_in, fil_i, fil_r]; exact a7, by simp (disch := omega) only [up_eq, up_r, up_i, fil_in, fil_i, fil_r]; exact a8, by simp (disch := omega) only [up_eq, up_r, up_i, fil_in, fil_i, fil_r]; exact a9, by rw [cHas_c (b := b) (fun i hi => by simp (disch := omega) only [up_eq, up_r, up_i, fil_in, fil_i, fil_r])]; simp (disch := omega) only [up_eq, up_r, up_i, fil_in, fil_i, fil_r]; exact a12, by rw [cFad_c (b := b) (fun i hi => by simp (disch := omega) only [up_eq, up_r, up_i, fil_in, fil_i, fil_r])]; simp (disch := omega) only [up_eq, up_r, up_i, fil_in, fil_i, fil_r]; exact a13, by simp (disch := omega) only [up_eq, up_r, up_i, fil_in, fil_i, fil_r]; omega, by simp (disch := omega) only [up_eq, up_r, up_i, fil_in, fil_i, fil_r]; exact hT, Or.inl ⟨by simp (disch := omega) only [up_eq, up_r, up_i, fil_in, fil_i, fil_r], by simp (disch := omega) only [up_eq, up_r, up_i, fil_in, fil_i, fil_r], by simp (disch := omega) only [up_eq, up_r, up_i, fil_in, fil_i, fil_r]; omega, by simp (disch := omega) only [up_eq, up_r, up_i, fil_in, fil_i, fil_r]; omega, ?_⟩, rC_c hk a17 (fun _ _ => rfl) (fun _ _ => rfl) (fun _ _ => rfl) (fun _ _ => rfl) (fun _ _ => rfl) (fun _ _ => rfl) (Int.le_refl _) (fun _ _ => rfl) (Int.le_refl _) (fun i hi => ⟨by simp (disch := omega) only [up_eq, up_r, up_i, fil_in, fil_i, fil_r], by simp (disch := omega) only [up_eq, up_r, up_i, fil_in, fil_i, fil_r], by simp (disch := omega) only [up_eq, up_r, up_i, fil_in, fil_i, fil_r], by simp (disch := omega) only [up_eq, up_r, up_i, fil_in, fil_i, fil_r], by simp (disch := omega) only [up_eq, up_r, up_i, fil_in, fil_i, fil_r], by simp (disch := omega) only [up_eq, up_r, up_i, fil_in, fil_i, fil_r], by simp (disch := omega) only [up_eq, up_r, up_i, fil_in, fil_i, fil_r]⟩)⟩
      simp (disch := omega) only [up_eq, up_r, up_i, fil_in, fil_i, fil_r]
      rw [hl, Int.toNat_natCast]
      exact hh
    · exact rY1_c hk (hY k hk) (fun _ _ => rfl) (fun _ _ => rfl) (fun _ _ => rfl) (fun _ _ => rfl) (fun _ _ => rfl) (fun _ _ => rfl) (by simp (disch := omega) only [up_eq, up_r, up_i, fil_in, fil_i, fil_r]) (by simp (disch := omega) only [up_eq, up_r, up_i, fil_in, fil_i, fil_r]) (by simp (disch := omega) only [up_eq, up_r, up_i, fil_in, fil_i, fil_r]) (by simp (disch := omega) only [up_eq, up_r, up_i, fil_in, fil_i, fil_r]) (by simp (disch := omega) only [up_eq, up_r, up_i, fil_in, fil_i, fil_r]) (by simp (disch := omega) only [up_eq, up_r, up_i, fil_in, fil_i, fil_r]) (by simp (disch := omega) only [up_eq, up_r, up_i, fil_in, fil_i, fil_r]) (fun _ _ => Int.le_refl _) (Int.le_refl _) (Int.le_refl _) (fun _ _ => rfl) (Int.le_refl _) (by simp (disch := omega) only [up_eq, up_r, up_i, fil_in, fil_i, fil_r]) (by simp (disch := omega) only [up_eq, up_r, up_i, fil_in, fil_i, fil_r]) (by simp (disch := omega) only [up_eq, up_r, up_i, fil_in, fil_i, fil_r]) (by simp (disch := omega) only [up_eq, up_r, up_i, fil_in, fil_i, fil_r]) (fun i hi => ⟨by simp (disch := omega) only [up_eq, up_r, up_i, fil_in, fil_i, fil_r], by simp (disch := omega) only [up_eq, up_r, up_i, fil_in, fil_i, fil_r], by simp (disch := omega) only [up_eq, up_r, up_i, fil_in, fil_i, fil_r], by simp (disch := omega) only [up_eq, up_r, up_i, fil_in, fil_i, fil_r], by simp (disch := omega) only [up_eq, up_r, up_i, fil_in, fil_i, fil_r], by simp (disch := omega) only [up_eq, up_r, up_i, fil_in, fil_i, fil_r], by simp (disch := omega) only [up_eq, up_r, up_i, fil_in, fil_i, fil_r]⟩)
  obtain ⟨E, hE⟩ := nat_of (hQ.1 cue (by omega)).2.1
  have hE12 := (hQ.1 cue (by omega)).2.2.1
  obtain ⟨b', g', z1, z2, z3, z4, z5⟩ := go_entries hp (q := cue) (by omega) E 0 M _ _ (by simp (disch := omega) only [up_eq, up_r, up_i, fil_in, fil_i, fil_r]; rw [hE]; omega) h0 hM0 (by omega)
  refine ⟨b', g', cue, rG_le z1 (by omega), fun r hr => ?_, ⟨mS_tr (mS_up (mS_up mS_rf)) z3.1, fun i hi => ?_⟩, fun Q hQ => ?_, fun Q hQ => ?_, ?_, ?_, ?_, ?_, by omega, hl4, by omega, fun k hk => by rw [z2 287 (by omega)]; simp (disch := omega) only [up_eq, up_r, up_i, fil_in, fil_i, fil_r]⟩
  · rw [z2 r (by omega), upR (by omega), upR (by omega), upR (by omega)]
  · rw [z3.2 i (by omega)]
    simp (disch := omega) only [up_eq, up_r, up_i, fil_in, fil_i, fil_r]
  · have z4 := z4 Q Q hQ
    simp (disch := omega) only [w_B_startNext, w_Y_moveOn, w_Q_cueAt, w_Q_hasStep, hl, h1, hcue, e_T, e_F, e_t, e_f, e_gd, e_bg0, e_bg1, e_nz, Int.toNat_natCast, Int.toNat_add, Int.toNat_mul, xw_al, xw_ar, xw_ml, xw_mr, xw_sl, xw_sr, xw_id, x_sl_c, mc3, mc6, mc8, mc12, mc64, mc72, Nat.add_assoc, Int.reduceToNat, L_isLine_t, L_isLine_f, R_has_t, R_has_f, R_isCh_t, R_isCh_f, V_isCurve_t, V_isCurve_f, Q_isCue_t, Q_isCue_f, Q_isList_t, Q_isList_f, B_isPb_t, B_isPb_f, m_in_t, m_in_f, m_isLine_t, m_isLine_f, m_isPb_t, m_isPb_f, m_isFx_t, m_isFx_f, F_note_e, m_finds_e, Int.reduceToNat, noted_neg, up_eq, up_r, up_i, fil_in, fil_i, fil_r]
    exact ⟨E + 1, z4⟩
  · have z5 := z5 Q (fun g10 v2 => Q v2 g10) hQ
    refine eq_true ?_
    simp (disch := omega) only [w_m_goes, sl, sp, sc, e_T, e_F, e_t, e_f, e_gd, e_bg0, e_bg1, e_nz, Int.toNat_natCast, Int.toNat_add, Int.toNat_mul, xw_al, xw_ar, xw_ml, xw_mr, xw_sl, xw_sr, xw_id, x_sl_c, mc3, mc6, mc8, mc12, mc64, mc72, Nat.add_assoc, Int.reduceToNat, L_isLine_t, L_isLine_f, R_has_t, R_has_f, R_isCh_t, R_isCh_f, V_isCurve_t, V_isCurve_f, Q_isCue_t, Q_isCue_f, Q_isList_t, Q_isList_f, B_isPb_t, B_isPb_f, m_in_t, m_in_f, m_isLine_t, m_isLine_f, m_isPb_t, m_isPb_f, m_isFx_t, m_isFx_f, F_note_e, m_finds_e, Int.reduceToNat, noted_neg, up_eq, up_r, up_i, fil_in, fil_i, fil_r]
    rw [show (12 : Int) * cue = ((cue * 12 + 0 : Nat) : Int) by omega]
    exact z5
  · rw [z2 280 (by omega)]
    simp (disch := omega) only [up_eq, up_r, up_i, fil_in, fil_i, fil_r]
    exact hl
  · rw [z2 281 (by omega)]
    simp (disch := omega) only [up_eq, up_r, up_i, fil_in, fil_i, fil_r]
  · rw [z2 40 (by omega)]
    simp (disch := omega) only [up_eq, up_r, up_i, fil_in, fil_i, fil_r]
    exact hcue
  · rw [z2 39 (by omega)]
    simp (disch := omega) only [up_eq, up_r, up_i, fil_in, fil_i, fil_r]
    exact hh
theorem rG_E {M n : Int} {b b' : xB} {s s' : Nat → Int} (h : rG M n b s) (hb : ∀ r, r ≠ 283 → r ≠ 284 → b' r = b r) (hs : ∀ i, i < 1742 ∨ 1750 ≤ i → s' i = s i) : rG M n b' s' := by
  obtain ⟨hF, hL, hR, hP, hV, hQ, hY, hX, u1, u2, u3, u4⟩ := h
  have B : ∀ r, r ≠ 283 ∧ r ≠ 284 → b' r = b r := fun r hr => hb r hr.1 hr.2
  exact ⟨rF_c hF (B _ (by omega)) (fun i _ _ => hs i (by omega)), rL_c hL (B _ (by omega)) (B _ (by omega)) (B _ (by omega)) (B _ (by omega)) (B _ (by omega)) (B _ (by omega)) (fun i hi => hs i (by omega)), rR_c hR (B _ (by omega)) (B _ (by omega)) (B _ (by omega)) (B _ (by omega)) (B _ (by omega)) (B _ (by omega)) (B _ (by omega)) (B _ (by omega)) (B _ (by omega)) (fun i hi => hs i (by omega)), rP_c hP (B _ (by omega)) (B _ (by omega)) (B _ (by omega)) (B _ (by omega)) (B _ (by omega)) (B _ (by omega)) (B _ (by omega)) (fun i hi => hs i (by omega)), rV_c hV (B _ (by omega)) (B _ (by omega)) (B _ (by omega)) (B _ (by omega)) (B _ (by omega)) (fun i _ hi => hs i (by omega)), rQ_c hQ (B _ (by omega)) (B _ (by omega)) (B _ (by omega)) (B _ (by omega)) (B _ (by omega)) (B _ (by omega)) (B _ (by omega)) (B _ (by omega)) (by rw [B 161 (by omega)]; exact Int.le_refl _) (fun i _ hi => hs i (by omega)), rY_c hY (B _ (by omega)) (B _ (by omega)) (B _ (by omega)) (B _ (by omega)) (B _ (by omega)) (B _ (by omega)) (B _ (by omega)) (B _ (by omega)) (B _ (by omega)) (B _ (by omega)) (B _ (by omega)) (B _ (by omega)) (B _ (by omega)) (fun i _ => by rw [B 39 (by omega)]; exact Int.le_refl _) (by rw [B 108 (by omega)]; exact Int.le_refl _) (by rw [B 161 (by omega)]; exact Int.le_refl _) (fun _ _ => by rw [B 17 (by omega)]) (by rw [B 110 (by omega)]; exact Int.le_refl _) (fun i _ _ hi => hs i (by omega)), rX_c hX (B _ (by omega)) (B _ (by omega)) (B _ (by omega)) (B _ (by omega)) (B _ (by omega)) (by rw [B 161 (by omega)]; exact Int.le_refl _) (fun _ _ => by rw [B 17 (by omega)]) (fun i hi => hs i (by omega)), by rw [B 110 (by omega), hs 3766 (by omega)]; exact u1, by rw [B 110 (by omega)]; exact u2, by rw [B 110 (by omega)]; exact u3, by rw [hs 3767 (by omega)]; exact u4⟩
theorem m_hasNext_e {g : xB} {p : Nat} {Q : Int → xB → Prop} (hp : p < 4) (h1 : -1 ≤ g 71 (1726 + p)) (h2 : g 71 (1726 + p) ≤ 3) (h3 : -1 ≤ g 71 (1730 + p)) (h4 : g 71 (1730 + p) ≤ 8) : w_m_hasNext g p Q = Q (if g 71 (1726 + p) ≠ -1 ∧ g 71 (1730 + p) + 1 < g 71 (1658 + (g 71 (1726 + p)).toNat) then 1 else 0) g := by
  by_cases e : g 71 (1726 + p) = -1
  · rw [if_neg (by omega)]
    simp (disch := omega) only [w_m_hasNext, e_T, e_F, e_t, e_f, e_gd, e_bg0, e_bg1, e_nz, Int.toNat_natCast, Int.toNat_add, Int.toNat_mul, xw_al, xw_ar, xw_ml, xw_mr, xw_sl, xw_sr, xw_id, x_sl_c, mc3, mc6, mc8, mc12, mc64, mc72, Nat.add_assoc, Int.reduceToNat, L_isLine_t, L_isLine_f, R_has_t, R_has_f, R_isCh_t, R_isCh_f, V_isCurve_t, V_isCurve_f, Q_isCue_t, Q_isCue_f, Q_isList_t, Q_isList_f, B_isPb_t, B_isPb_f, m_in_t, m_in_f, m_isLine_t, m_isLine_f, m_isPb_t, m_isPb_f, m_isFx_t, m_isFx_f, F_note_e, m_finds_e, Int.reduceToNat, noted_neg, up_eq, up_r, up_i, fil_in, fil_i, fil_r]
  · by_cases e2 : g 71 (1730 + p) + 1 < g 71 (1658 + (g 71 (1726 + p)).toNat)
    · rw [if_pos ⟨e, e2⟩]
      simp (disch := omega) only [w_m_hasNext, e_T, e_F, e_t, e_f, e_gd, e_bg0, e_bg1, e_nz, Int.toNat_natCast, Int.toNat_add, Int.toNat_mul, xw_al, xw_ar, xw_ml, xw_mr, xw_sl, xw_sr, xw_id, x_sl_c, mc3, mc6, mc8, mc12, mc64, mc72, Nat.add_assoc, Int.reduceToNat, L_isLine_t, L_isLine_f, R_has_t, R_has_f, R_isCh_t, R_isCh_f, V_isCurve_t, V_isCurve_f, Q_isCue_t, Q_isCue_f, Q_isList_t, Q_isList_f, B_isPb_t, B_isPb_f, m_in_t, m_in_f, m_isLine_t, m_isLine_f, m_isPb_t, m_isPb_f, m_isFx_t, m_isFx_f, F_note_e, m_finds_e, Int.reduceToNat, noted_neg, up_eq, up_r, up_i, fil_in, fil_i, fil_r]
    · rw [if_neg (by omega)]
      simp (disch := omega) only [w_m_hasNext, e_T, e_F, e_t, e_f, e_gd, e_bg0, e_bg1, e_nz, Int.toNat_natCast, Int.toNat_add, Int.toNat_mul, xw_al, xw_ar, xw_ml, xw_mr, xw_sl, xw_sr, xw_id, x_sl_c, mc3, mc6, mc8, mc12, mc64, mc72, Nat.add_assoc, Int.reduceToNat, L_isLine_t, L_isLine_f, R_has_t, R_has_f, R_isCh_t, R_isCh_f, V_isCurve_t, V_isCurve_f, Q_isCue_t, Q_isCue_f, Q_isList_t, Q_isList_f, B_isPb_t, B_isPb_f, m_in_t, m_in_f, m_isLine_t, m_isLine_f, m_isPb_t, m_isPb_f, m_isFx_t, m_isFx_f, F_note_e, m_finds_e, Int.reduceToNat, noted_neg, up_eq, up_r, up_i, fil_in, fil_i, fil_r]
theorem Q_hasStep_e {b : xB} {l v : Int} {Q : Int → xB → Prop} (h1 : -1 ≤ l) (h2 : l ≤ 3) (h3 : 0 ≤ v) : w_Q_hasStep b l v Q = Q (if l ≠ -1 ∧ v < b 39 l.toNat then 1 else 0) b := by
  by_cases e : l = -1
  · rw [if_neg (by omega)]
    simp (disch := omega) only [w_Q_hasStep, e_T, e_F, e_t, e_f, e_gd, e_bg0, e_bg1, e_nz, Int.toNat_natCast, Int.toNat_add, Int.toNat_mul, xw_al, xw_ar, xw_ml, xw_mr, xw_sl, xw_sr, xw_id, x_sl_c, mc3, mc6, mc8, mc12, mc64, mc72, Nat.add_assoc, Int.reduceToNat, L_isLine_t, L_isLine_f, R_has_t, R_has_f, R_isCh_t, R_isCh_f, V_isCurve_t, V_isCurve_f, Q_isCue_t, Q_isCue_f, Q_isList_t, Q_isList_f, B_isPb_t, B_isPb_f, m_in_t, m_in_f, m_isLine_t, m_isLine_f, m_isPb_t, m_isPb_f, m_isFx_t, m_isFx_f, F_note_e, m_finds_e, Int.reduceToNat, noted_neg, up_eq, up_r, up_i, fil_in, fil_i, fil_r]
  · by_cases e2 : v < b 39 l.toNat
    · rw [if_pos ⟨e, e2⟩]
      simp (disch := omega) only [w_Q_hasStep, e_T, e_F, e_t, e_f, e_gd, e_bg0, e_bg1, e_nz, Int.toNat_natCast, Int.toNat_add, Int.toNat_mul, xw_al, xw_ar, xw_ml, xw_mr, xw_sl, xw_sr, xw_id, x_sl_c, mc3, mc6, mc8, mc12, mc64, mc72, Nat.add_assoc, Int.reduceToNat, L_isLine_t, L_isLine_f, R_has_t, R_has_f, R_isCh_t, R_isCh_f, V_isCurve_t, V_isCurve_f, Q_isCue_t, Q_isCue_f, Q_isList_t, Q_isList_f, B_isPb_t, B_isPb_f, m_in_t, m_in_f, m_isLine_t, m_isLine_f, m_isPb_t, m_isPb_f, m_isFx_t, m_isFx_f, F_note_e, m_finds_e, Int.reduceToNat, noted_neg, up_eq, up_r, up_i, fil_in, fil_i, fil_r]
    · rw [if_neg (by omega)]
      simp (disch := omega) only [w_Q_hasStep, e_T, e_F, e_t, e_f, e_gd, e_bg0, e_bg1, e_nz, Int.toNat_natCast, Int.toNat_add, Int.toNat_mul, xw_al, xw_ar, xw_ml, xw_mr, xw_sl, xw_sr, xw_id, x_sl_c, mc3, mc6, mc8, mc12, mc64, mc72, Nat.add_assoc, Int.reduceToNat, L_isLine_t, L_isLine_f, R_has_t, R_has_f, R_isCh_t, R_isCh_f, V_isCurve_t, V_isCurve_f, Q_isCue_t, Q_isCue_f, Q_isList_t, Q_isList_f, B_isPb_t, B_isPb_f, m_in_t, m_in_f, m_isLine_t, m_isLine_f, m_isPb_t, m_isPb_f, m_isFx_t, m_isFx_f, F_note_e, m_finds_e, Int.reduceToNat, noted_neg, up_eq, up_r, up_i, fil_in, fil_i, fil_r]
theorem a_go {n : Nat} {b g : xB} {p : Int} (hn : n ≤ 100000) (h : rB n b (g 71)) : aC n b g (w_B_goOn b p) (w_m_go g p) 14 p 0 0 0 0 := by
  by_cases hp' : 0 ≤ p ∧ p < 4
  · obtain ⟨P, rfl⟩ := nat_of hp'.1
    have hP4 : P < 4 := by omega
    obtain ⟨a1, a2, a3, a4, a5, a6, a7, a8, a9, a12, a13, a14, a15, a16, a17⟩ := h.2.2.2.2.2.2.1 P hP4
    have hT := h.2.2.2.2.2.2.2.2.2.1
    have hE := h.2.2.2.2.2.2.2.1
    have hQ2 := h.2.2.2.2.2.1.2
    by_cases hs : b 280 P ≠ -1 ∧ b 281 P + 1 < b 39 (b 280 P).toNat
    · obtain ⟨l, hl⟩ := nat_of (l := b 280 P) (by omega)
      obtain ⟨P1, hP1⟩ := nat_of (l := b 281 P + 1) (by omega)
      rw [hl, Int.toNat_natCast] at hs
      have hl4 : l < 4 := by omega
      have sI := (hQ2 l hl4).1
      have h0 : rG (2592 * (4 * b 108 0 + n)) n (x_up b 283 P (xw (b 283 P + 1))) (x_up (x_up g 71 (1742 + P) (xw (g 71 (1742 + P) + 1))) 71 (1746 + P) (xw (g 71 (1746 + P) + 1)) 71) := rG_E (rB_G h) (fun r h1 h2 => upR h1) (fun i hi => by simp (disch := omega) only [up_eq, up_r, up_i, fil_in, fil_i, fil_r])
      obtain ⟨t1, t2, t3, t4⟩ := hT
      obtain ⟨b', g', cue, z1, z2, z3, z4, z5, z6, z7, z8, z9, z10, z11, z12⟩ := next_A (p := P) (l := l) (P1 := P1) hP4 h0 (by omega) (by omega) (by simp (disch := omega) only [up_eq, up_r, up_i, fil_in, fil_i, fil_r]; exact hl) (by simp (disch := omega) only [up_eq, up_r, up_i, fil_in, fil_i, fil_r]; exact hP1) (by simp (disch := omega) only [up_eq, up_r, up_i, fil_in, fil_i, fil_r]; omega) (by simp (disch := omega) only [up_eq, up_r, up_i, fil_in, fil_i, fil_r]; exact t2)
      refine ⟨cue, x_up b' 284 P (xw (b 284 P + 1)), g', fun Q hQ => ?_, fun Q hQ => ?_, ⟨?_, mS_tr (mS_up (mS_up mS_rf)) z3.1, ?_, ?_⟩, ?_⟩
      · have e284 : b' 284 P = b 284 P := by rw [z2 284 (by omega)]; simp (disch := omega) only [up_eq, up_r, up_i, fil_in, fil_i, fil_r]
        unfold w_B_goOn
        rw [B_isPb_t (by omega) (by omega)]
        simp (disch := omega) only [hP1, e_T, e_F, e_t, e_f, e_gd, e_bg0, e_bg1, e_nz, Int.toNat_natCast, Int.toNat_add, Int.toNat_mul, xw_al, xw_ar, xw_ml, xw_mr, xw_sl, xw_sr, xw_id, x_sl_c, mc3, mc6, mc8, mc12, mc64, mc72, Nat.add_assoc, Int.reduceToNat, L_isLine_t, L_isLine_f, R_has_t, R_has_f, R_isCh_t, R_isCh_f, V_isCurve_t, V_isCurve_f, Q_isCue_t, Q_isCue_f, Q_isList_t, Q_isList_f, B_isPb_t, B_isPb_f, m_in_t, m_in_f, m_isLine_t, m_isLine_f, m_isPb_t, m_isPb_f, m_isFx_t, m_isFx_f, F_note_e, m_finds_e, Int.reduceToNat, noted_neg, up_eq, up_r, up_i, fil_in, fil_i, fil_r]
        rw [Q_hasStep_e a2 a3 (by omega), hl, Int.toNat_natCast, if_pos (by omega)]
        simp (disch := omega) only [e_T, e_F, e_t, e_f, e_gd, e_bg0, e_bg1, e_nz, Int.toNat_natCast, Int.toNat_add, Int.toNat_mul, xw_al, xw_ar, xw_ml, xw_mr, xw_sl, xw_sr, xw_id, x_sl_c, mc3, mc6, mc8, mc12, mc64, mc72, Nat.add_assoc, Int.reduceToNat, L_isLine_t, L_isLine_f, R_has_t, R_has_f, R_isCh_t, R_isCh_f, V_isCurve_t, V_isCurve_f, Q_isCue_t, Q_isCue_f, Q_isList_t, Q_isList_f, B_isPb_t, B_isPb_f, m_in_t, m_in_f, m_isLine_t, m_isLine_f, m_isPb_t, m_isPb_f, m_isFx_t, m_isFx_f, F_note_e, m_finds_e, Int.reduceToNat, noted_neg, up_eq, up_r, up_i, fil_in, fil_i, fil_r]
        refine z4 _ ?_
        simp (disch := omega) only [w_Q_cueAt, w_Q_hasStep, e284, z6, z7, z8, e_T, e_F, e_t, e_f, e_gd, e_bg0, e_bg1, e_nz, Int.toNat_natCast, Int.toNat_add, Int.toNat_mul, xw_al, xw_ar, xw_ml, xw_mr, xw_sl, xw_sr, xw_id, x_sl_c, mc3, mc6, mc8, mc12, mc64, mc72, Nat.add_assoc, Int.reduceToNat, L_isLine_t, L_isLine_f, R_has_t, R_has_f, R_isCh_t, R_isCh_f, V_isCurve_t, V_isCurve_f, Q_isCue_t, Q_isCue_f, Q_isList_t, Q_isList_f, B_isPb_t, B_isPb_f, m_in_t, m_in_f, m_isLine_t, m_isLine_f, m_isPb_t, m_isPb_f, m_isFx_t, m_isFx_f, F_note_e, m_finds_e, Int.reduceToNat, noted_neg, up_eq, up_r, up_i, fil_in, fil_i, fil_r]
        exact hQ
      · have hc : ¬ (cue : Int) < 0 := by omega
        simp (disch := omega) only [w_m_go, e_T, e_F, e_t, e_f, e_gd, e_bg0, e_bg1, e_nz, Int.toNat_natCast, Int.toNat_add, Int.toNat_mul, xw_al, xw_ar, xw_ml, xw_mr, xw_sl, xw_sr, xw_id, x_sl_c, mc3, mc6, mc8, mc12, mc64, mc72, Nat.add_assoc, Int.reduceToNat, L_isLine_t, L_isLine_f, R_has_t, R_has_f, R_isCh_t, R_isCh_f, V_isCurve_t, V_isCurve_f, Q_isCue_t, Q_isCue_f, Q_isList_t, Q_isList_f, B_isPb_t, B_isPb_f, m_in_t, m_in_f, m_isLine_t, m_isLine_f, m_isPb_t, m_isPb_f, m_isFx_t, m_isFx_f, F_note_e, m_finds_e, Int.reduceToNat, noted_neg, up_eq, up_r, up_i, fil_in, fil_i, fil_r]
        rw [m_hasNext_e hP4 (by omega) (by omega) (by omega) (by omega), ← a1, ← a4, hl, Int.toNat_natCast, if_pos (by omega)]
        simp (disch := omega) only [e_T, e_F, e_t, e_f, e_gd, e_bg0, e_bg1, e_nz, Int.toNat_natCast, Int.toNat_add, Int.toNat_mul, xw_al, xw_ar, xw_ml, xw_mr, xw_sl, xw_sr, xw_id, x_sl_c, mc3, mc6, mc8, mc12, mc64, mc72, Nat.add_assoc, Int.reduceToNat, L_isLine_t, L_isLine_f, R_has_t, R_has_f, R_isCh_t, R_isCh_f, V_isCurve_t, V_isCurve_f, Q_isCue_t, Q_isCue_f, Q_isList_t, Q_isList_f, B_isPb_t, B_isPb_f, m_in_t, m_in_f, m_isLine_t, m_isLine_f, m_isPb_t, m_isPb_f, m_isFx_t, m_isFx_f, F_note_e, m_finds_e, Int.reduceToNat, noted_neg, up_eq, up_r, up_i, fil_in, fil_i, fil_r]
        have z5 := z5 (fun r4 g5 => w_m_noted g5 r4 14 P 0 0 0 0 (fun r6 g7 => Q r6 g7)) hQ
        simp only [z5]
      · refine rG_B (rG_E (b := b') (s := g' 71) (rG_le2 z1 (by omega)) (fun r h1 h2 => upR h2) (fun _ _ => rfl)) ?_ ?_ ?_
        · have : x_up b' 284 P (xw (b 284 P + 1)) 108 0 = b 108 0 := by simp (disch := omega) only [up_eq, up_r, up_i, fil_in, fil_i, fil_r]; rw [z2 108 (by omega)]; simp (disch := omega) only [up_eq, up_r, up_i, fil_in, fil_i, fil_r]
          rw [this]
          omega
        · intro k hk
          have hEk := hE k hk
          rw [z3.2 _ (by omega), z3.2 _ (by omega)]
          by_cases e : k = P
          · subst e
            simp (disch := omega) only [up_eq, up_r, up_i, fil_in, fil_i, fil_r]
            rw [z2 283 (by omega)]
            simp (disch := omega) only [up_eq, up_r, up_i, fil_in, fil_i, fil_r]
            rw [hEk.1, hEk.2]
            exact ⟨rfl, rfl⟩
          · simp (disch := omega) only [up_eq, up_r, up_i, fil_in, fil_i, fil_r]
            rw [z2 283 (by omega), z2 284 (by omega)]
            simp (disch := omega) only [up_eq, up_r, up_i, fil_in, fil_i, fil_r]
            exact hEk
        · have e1 : x_up b' 284 P (xw (b 284 P + 1)) 108 = b 108 := by rw [upR (by omega), z2 108 (by omega), upR (by omega)]
          have e2 : x_up b' 284 P (xw (b 284 P + 1)) 109 = b 109 := by rw [upR (by omega), z2 109 (by omega), upR (by omega)]
          exact rT_c h.2.2.2.2.2.2.2.2.2.1 e1 e2 (by rw [z3.2 _ (by omega)]; simp (disch := omega) only [up_eq, up_r, up_i, fil_in, fil_i, fil_r]) (by rw [z3.2 _ (by omega)]; simp (disch := omega) only [up_eq, up_r, up_i, fil_in, fil_i, fil_r])
      · rw [upR (by omega), z2 172 (by omega), upR (by omega)]
      · rw [upR (by omega), z2 24 (by omega), upR (by omega)]
      · rw [upR (by omega), z2 108 (by omega), upR (by omega)]
    · refine aC_bad h (-3) (fun Q hQ => ?_) (fun Q hQ => ?_)
      · unfold w_B_goOn
        rw [B_isPb_t (by omega) (by omega)]
        simp (disch := omega) only [e_T, e_F, e_t, e_f, e_gd, e_bg0, e_bg1, e_nz, Int.toNat_natCast, Int.toNat_add, Int.toNat_mul, xw_al, xw_ar, xw_ml, xw_mr, xw_sl, xw_sr, xw_id, x_sl_c, mc3, mc6, mc8, mc12, mc64, mc72, Nat.add_assoc, Int.reduceToNat, L_isLine_t, L_isLine_f, R_has_t, R_has_f, R_isCh_t, R_isCh_f, V_isCurve_t, V_isCurve_f, Q_isCue_t, Q_isCue_f, Q_isList_t, Q_isList_f, B_isPb_t, B_isPb_f, m_in_t, m_in_f, m_isLine_t, m_isLine_f, m_isPb_t, m_isPb_f, m_isFx_t, m_isFx_f, F_note_e, m_finds_e, Int.reduceToNat, noted_neg, up_eq, up_r, up_i, fil_in, fil_i, fil_r]
        rw [Q_hasStep_e a2 a3 (by omega), if_neg hs]
        simp (disch := omega) only [e_T, e_F, e_t, e_f, e_gd, e_bg0, e_bg1, e_nz, Int.toNat_natCast, Int.toNat_add, Int.toNat_mul, xw_al, xw_ar, xw_ml, xw_mr, xw_sl, xw_sr, xw_id, x_sl_c, mc3, mc6, mc8, mc12, mc64, mc72, Nat.add_assoc, Int.reduceToNat, L_isLine_t, L_isLine_f, R_has_t, R_has_f, R_isCh_t, R_isCh_f, V_isCurve_t, V_isCurve_f, Q_isCue_t, Q_isCue_f, Q_isList_t, Q_isList_f, B_isPb_t, B_isPb_f, m_in_t, m_in_f, m_isLine_t, m_isLine_f, m_isPb_t, m_isPb_f, m_isFx_t, m_isFx_f, F_note_e, m_finds_e, Int.reduceToNat, noted_neg, up_eq, up_r, up_i, fil_in, fil_i, fil_r]
        exact hQ
      · simp (disch := omega) only [e_T, e_F, e_t, e_f, e_gd, e_bg0, e_bg1, e_nz, Int.toNat_natCast, Int.toNat_add, Int.toNat_mul, xw_al, xw_ar, xw_ml, xw_mr, xw_sl, xw_sr, xw_id, x_sl_c, mc3, mc6, mc8, mc12, mc64, mc72, Nat.add_assoc, Int.reduceToNat, L_isLine_t, L_isLine_f, R_has_t, R_has_f, R_isCh_t, R_isCh_f, V_isCurve_t, V_isCurve_f, Q_isCue_t, Q_isCue_f, Q_isList_t, Q_isList_f, B_isPb_t, B_isPb_f, m_in_t, m_in_f, m_isLine_t, m_isLine_f, m_isPb_t, m_isPb_f, m_isFx_t, m_isFx_f, F_note_e, m_finds_e, Int.reduceToNat, noted_neg, up_eq, up_r, up_i, fil_in, fil_i, fil_r] at hQ
        have hs' : ¬ (g 71 (1726 + P) ≠ -1 ∧ g 71 (1730 + P) + 1 < g 71 (1658 + (g 71 (1726 + P)).toNat)) := by
          rw [← a1, ← a4]
          intro ⟨c1, c2⟩
          rw [← (hQ2 (b 280 P).toNat (by omega)).1] at c2
          exact hs ⟨c1, c2⟩
        simp (disch := omega) only [w_m_go, e_T, e_F, e_t, e_f, e_gd, e_bg0, e_bg1, e_nz, Int.toNat_natCast, Int.toNat_add, Int.toNat_mul, xw_al, xw_ar, xw_ml, xw_mr, xw_sl, xw_sr, xw_id, x_sl_c, mc3, mc6, mc8, mc12, mc64, mc72, Nat.add_assoc, Int.reduceToNat, L_isLine_t, L_isLine_f, R_has_t, R_has_f, R_isCh_t, R_isCh_f, V_isCurve_t, V_isCurve_f, Q_isCue_t, Q_isCue_f, Q_isList_t, Q_isList_f, B_isPb_t, B_isPb_f, m_in_t, m_in_f, m_isLine_t, m_isLine_f, m_isPb_t, m_isPb_f, m_isFx_t, m_isFx_f, F_note_e, m_finds_e, Int.reduceToNat, noted_neg, up_eq, up_r, up_i, fil_in, fil_i, fil_r]
        rw [m_hasNext_e hP4 (by omega) (by omega) (by omega) (by omega), if_neg hs']
        simp (disch := omega) only [e_T, e_F, e_t, e_f, e_gd, e_bg0, e_bg1, e_nz, Int.toNat_natCast, Int.toNat_add, Int.toNat_mul, xw_al, xw_ar, xw_ml, xw_mr, xw_sl, xw_sr, xw_id, x_sl_c, mc3, mc6, mc8, mc12, mc64, mc72, Nat.add_assoc, Int.reduceToNat, L_isLine_t, L_isLine_f, R_has_t, R_has_f, R_isCh_t, R_isCh_f, V_isCurve_t, V_isCurve_f, Q_isCue_t, Q_isCue_f, Q_isList_t, Q_isList_f, B_isPb_t, B_isPb_f, m_in_t, m_in_f, m_isLine_t, m_isLine_f, m_isPb_t, m_isPb_f, m_isFx_t, m_isFx_f, F_note_e, m_finds_e, Int.reduceToNat, noted_neg, up_eq, up_r, up_i, fil_in, fil_i, fil_r]
        exact hQ
  · exact aC_bad h (-2) (fun Q hQ => by simp (disch := omega) only [w_B_goOn, e_T, e_F, e_t, e_f, e_gd, e_bg0, e_bg1, e_nz, Int.toNat_natCast, Int.toNat_add, Int.toNat_mul, xw_al, xw_ar, xw_ml, xw_mr, xw_sl, xw_sr, xw_id, x_sl_c, mc3, mc6, mc8, mc12, mc64, mc72, Nat.add_assoc, Int.reduceToNat, L_isLine_t, L_isLine_f, R_has_t, R_has_f, R_isCh_t, R_isCh_f, V_isCurve_t, V_isCurve_f, Q_isCue_t, Q_isCue_f, Q_isList_t, Q_isList_f, B_isPb_t, B_isPb_f, m_in_t, m_in_f, m_isLine_t, m_isLine_f, m_isPb_t, m_isPb_f, m_isFx_t, m_isFx_f, F_note_e, m_finds_e, Int.reduceToNat, noted_neg]; exact hQ) (fun Q hQ => by simp (disch := omega) only [w_m_go, e_T, e_F, e_t, e_f, e_gd, e_bg0, e_bg1, e_nz, Int.toNat_natCast, Int.toNat_add, Int.toNat_mul, xw_al, xw_ar, xw_ml, xw_mr, xw_sl, xw_sr, xw_id, x_sl_c, mc3, mc6, mc8, mc12, mc64, mc72, Nat.add_assoc, Int.reduceToNat, L_isLine_t, L_isLine_f, R_has_t, R_has_f, R_isCh_t, R_isCh_f, V_isCurve_t, V_isCurve_f, Q_isCue_t, Q_isCue_f, Q_isList_t, Q_isList_f, B_isPb_t, B_isPb_f, m_in_t, m_in_f, m_isLine_t, m_isLine_f, m_isPb_t, m_isPb_f, m_isFx_t, m_isFx_f, F_note_e, m_finds_e, Int.reduceToNat, noted_neg] at hQ ⊢; exact hQ)
