/-! ===== a TICK: bytes are written ===== -/
/-- what writing may change -/
def fWb (b b' : xB) : Prop := ∀ r, r ≠ 10 ∧ r ≠ 11 → b' r = b r
def fWm (g g' : xB) : Prop := (∀ r, r ≠ 71 → g' r = g r) ∧ ∀ i, (i < 8 ∨ (264 ≤ i ∧ i < 3773) ∨ 3774 < i) → g' 71 i = g 71 i
theorem fWb_tr {b b' b'' : xB} (h : fWb b b') (h' : fWb b' b'') : fWb b b'' := fun r hr => (h' r hr).trans (h r hr)
theorem fWm_tr {b b' b'' : xB} (h : fWm b b') (h' : fWm b' b'') : fWm b b'' := ⟨fun r hr => (h'.1 r hr).trans (h.1 r hr), fun i hi => (h'.2 i hi).trans (h.2 i hi)⟩
theorem fWb_rf {b : xB} : fWb b b := fun _ _ => rfl
theorem fWm_rf {b : xB} : fWm b b := ⟨fun _ _ => rfl, fun _ _ => rfl⟩
theorem levR_W {b b' g g' : xB} (h : levR b g) (hb : fWb b b') (hg : fWm g g') : levR b' g' := by
  intro f c hf hp hc
  rw [hb 25 (by omega)] at hp
  rw [hb 17 (by omega)] at hc ⊢
  rw [hb 45 (by omega), hb 46 (by omega), hg.1 78 (by omega), whV_c (hb 12 (by omega)) (hb 17 (by omega)) (hb 25 (by omega)) (hb 26 (by omega))]
  exact h f c hf hp hc
theorem rG_W {M n : Int} {b b' g g' : xB} (h : rG M n b (g 71)) (hb : fWb b b') (hg : fWm g g') (hF : rF b' (g' 71)) (hL : rL b' (g' 71)) : rG M n b' (g' 71) := by
  obtain ⟨_, _, hR, hP, hV, hQ, hY, hX, u1, u2, u3, u4⟩ := h
  exact ⟨hF, hL, rR_c hR (hb _ (by omega)) (hb _ (by omega)) (hb _ (by omega)) (hb _ (by omega)) (hb _ (by omega)) (hb _ (by omega)) (hb _ (by omega)) (hb _ (by omega)) (hb _ (by omega)) (fun i hi => hg.2 i (by omega)), rP_c hP (hb _ (by omega)) (hb _ (by omega)) (hb _ (by omega)) (hb _ (by omega)) (hb _ (by omega)) (hb _ (by omega)) (hb _ (by omega)) (fun i hi => hg.2 i (by omega)), rV_c hV (hb _ (by omega)) (hb _ (by omega)) (hb _ (by omega)) (hb _ (by omega)) (hb _ (by omega)) (fun i _ hi => hg.2 i (by omega)), rQ_c hQ (hb _ (by omega)) (hb _ (by omega)) (hb _ (by omega)) (hb _ (by omega)) (hb _ (by omega)) (hb _ (by omega)) (hb _ (by omega)) (hb _ (by omega)) (by rw [hb 161 (by omega)]; exact Int.le_refl _) (fun i _ hi => hg.2 i (by omega)), rY_c hY (hb _ (by omega)) (hb _ (by omega)) (hb _ (by omega)) (hb _ (by omega)) (hb _ (by omega)) (hb _ (by omega)) (hb _ (by omega)) (hb _ (by omega)) (hb _ (by omega)) (hb _ (by omega)) (hb _ (by omega)) (hb _ (by omega)) (hb _ (by omega)) (fun i _ => by rw [hb 39 (by omega)]; exact Int.le_refl _) (by rw [hb 108 (by omega)]; exact Int.le_refl _) (by rw [hb 161 (by omega)]; exact Int.le_refl _) (fun _ _ => by rw [hb 17 (by omega)]) (by rw [hb 110 (by omega)]; exact Int.le_refl _) (fun i _ _ hi => hg.2 i (by omega)), rX_c hX (hb _ (by omega)) (hb _ (by omega)) (hb _ (by omega)) (hb _ (by omega)) (hb _ (by omega)) (by rw [hb 161 (by omega)]; exact Int.le_refl _) (fun _ _ => by rw [hb 17 (by omega)]) (fun i hi => hg.2 i (by omega)), by rw [hb 110 (by omega), hg.2 3766 (by omega)]; exact u1, by rw [hb 110 (by omega)]; exact u2, by rw [hb 110 (by omega)]; exact u3, by rw [hg.2 3767 (by omega)]; exact u4⟩
/-- all places of plugged LINES are 0 -/
theorem blank_A {M n : Int} : ∀ (k l : Nat) (b g : xB), l + k = 4 → rG M n b (g 71) → ∃ b' g', rG M n b' (g' 71) ∧ fWb b b' ∧ fWm g g' ∧ (∀ (Q : xB → Prop) (K : xB → Prop), K b' → w_L_blankPlugged_h2 Q K (k + 1) b l) ∧ (∀ (Q : xB → Prop) (K : xB → Prop), K g' → w_m_writeAll_h2 Q K (k + 1) g l)
  | 0, l, b, g, hl, h => by
    refine ⟨b, g, h, fWb_rf, fWm_rf, fun Q K hK => ?_, fun Q K hK => ?_⟩
    · rw [w_L_blankPlugged_h2_s, e_f (by omega)]
      exact hK
    · rw [w_m_writeAll_h2_s, e_f (by omega)]
      exact hK
  | k + 1, l, b, g, hl, h => by
    have el : (l : Int) + 1 = ((l + 1 : Nat) : Int) := by omega
    have hLl := h.2.1 l (by omega)
    rcases hLl.2.2.2.2.2.2 with ⟨c1, c2, c3, c4, c5, c6⟩ | ⟨c1, c2, c3, c4, c5⟩ | ⟨c1, c2, c3, c4⟩
    · obtain ⟨m, hm⟩ := nat_of c4
      have fb : fWb b (x_fil b 11 (l * 64) m 0) := fun r hr => filR (by omega)
      have fm : fWm g (x_fil g 71 (8 + l * 64) 64 0) := ⟨fun r hr => filR hr, fun i hi => by simp (disch := omega) only [up_eq, up_r, up_i, fil_in, fil_i, fil_r]⟩
      have h1 : rG M n (x_fil b 11 (l * 64) m 0) (x_fil g 71 (8 + l * 64) 64 0 71) := by
        refine rG_W h fb fm (rF_c h.1 rfl (fun i _ _ => by simp (disch := omega) only [up_eq, up_r, up_i, fil_in, fil_i, fil_r])) ?_
        refine rL_set (j := l) (by omega) h.2.1 (fun k p hk hp => by simp (disch := omega) only [up_eq, up_r, up_i, fil_in, fil_i, fil_r]) (fun k hk => by simp (disch := omega) only [up_eq, up_r, up_i, fil_in, fil_i, fil_r]) (fun k hk => by simp (disch := omega) only [up_eq, up_r, up_i, fil_in, fil_i, fil_r]) rfl rfl rfl (fun k hk hj => ⟨by simp (disch := omega) only [up_eq, up_r, up_i, fil_in, fil_i, fil_r], by simp (disch := omega) only [up_eq, up_r, up_i, fil_in, fil_i, fil_r], fun p hp => by simp (disch := omega) only [up_eq, up_r, up_i, fil_in, fil_i, fil_r]⟩) (fun i h1 h2 => by simp (disch := omega) only [up_eq, up_r, up_i, fil_in, fil_i, fil_r]) (Or.inl ⟨by simp (disch := omega) only [up_eq, up_r, up_i, fil_in, fil_i, fil_r]; exact c1, by simp (disch := omega) only [up_eq, up_r, up_i, fil_in, fil_i, fil_r]; exact c2, by simp (disch := omega) only [up_eq, up_r, up_i, fil_in, fil_i, fil_r]; exact c3, by simp (disch := omega) only [up_eq, up_r, up_i, fil_in, fil_i, fil_r]; exact c4, by simp (disch := omega) only [up_eq, up_r, up_i, fil_in, fil_i, fil_r]; exact c5, fun p hp => ?_⟩)
        have hp : (p : Int) < b 12 l := hp
        rw [fil_in rfl (by omega) (by omega), fil_in rfl (by omega) (by omega)]
        omega
      obtain ⟨b', g', z1, z2, z3, z4, z5⟩ := blank_A k (l + 1) _ _ (by omega) h1
      refine ⟨b', g', z1, fWb_tr fb z2, fWm_tr fm z3, fun Q K hK => ?_, fun Q K hK => ?_⟩
      · have z4 := z4 Q K hK
        rw [w_L_blankPlugged_h2_s]
        simp (disch := omega) only [e_T, e_F, e_t, e_f, e_gd, e_bg0, e_bg1, e_nz, Int.toNat_natCast, Int.toNat_add, Int.toNat_mul, xw_al, xw_ar, xw_ml, xw_mr, xw_sl, xw_sr, xw_id, x_sl_c, mc3, mc6, mc8, mc12, mc64, mc72, Nat.add_assoc, Int.reduceToNat, L_isLine_t, L_isLine_f, R_has_t, R_has_f, R_isCh_t, R_isCh_f, V_isCurve_t, V_isCurve_f, Q_isCue_t, Q_isCue_f, Q_isList_t, Q_isList_f, B_isPb_t, B_isPb_f, m_in_t, m_in_f, m_isLine_t, m_isLine_f, m_isPb_t, m_isPb_f, m_isFx_t, m_isFx_f, F_note_e, m_finds_e, Int.reduceToNat, noted_neg, up_eq, up_r, up_i, fil_in, fil_i, fil_r]
        rw [el]
        exact L_blank_i (by omega) (by omega) hm z4
      · have z5 := z5 Q K hK
        rw [w_m_writeAll_h2_s]
        simp (disch := omega) only [Nat.zero_add, e_T, e_F, e_t, e_f, e_gd, e_bg0, e_bg1, e_nz, Int.toNat_natCast, Int.toNat_add, Int.toNat_mul, xw_al, xw_ar, xw_ml, xw_mr, xw_sl, xw_sr, xw_id, x_sl_c, mc3, mc6, mc8, mc12, mc64, mc72, Nat.add_assoc, Int.reduceToNat, L_isLine_t, L_isLine_f, R_has_t, R_has_f, R_isCh_t, R_isCh_f, V_isCurve_t, V_isCurve_f, Q_isCue_t, Q_isCue_f, Q_isList_t, Q_isList_f, B_isPb_t, B_isPb_f, m_in_t, m_in_f, m_isLine_t, m_isLine_f, m_isPb_t, m_isPb_f, m_isFx_t, m_isFx_f, F_note_e, m_finds_e, Int.reduceToNat, noted_neg, up_eq, up_r, up_i, fil_in, fil_i, fil_r]
        rw [el]
        exact m_darken_i (by omega) z5
    · obtain ⟨b', g', z1, z2, z3, z4, z5⟩ := blank_A k (l + 1) b g (by omega) h
      refine ⟨b', g', z1, z2, z3, fun Q K hK => ?_, fun Q K hK => ?_⟩
      · have z4 := z4 Q K hK
        rw [w_L_blankPlugged_h2_s]
        simp (disch := omega) only [e_T, e_F, e_t, e_f, e_gd, e_bg0, e_bg1, e_nz, Int.toNat_natCast, Int.toNat_add, Int.toNat_mul, xw_al, xw_ar, xw_ml, xw_mr, xw_sl, xw_sr, xw_id, x_sl_c, mc3, mc6, mc8, mc12, mc64, mc72, Nat.add_assoc, Int.reduceToNat, L_isLine_t, L_isLine_f, R_has_t, R_has_f, R_isCh_t, R_isCh_f, V_isCurve_t, V_isCurve_f, Q_isCue_t, Q_isCue_f, Q_isList_t, Q_isList_f, B_isPb_t, B_isPb_f, m_in_t, m_in_f, m_isLine_t, m_isLine_f, m_isPb_t, m_isPb_f, m_isFx_t, m_isFx_f, F_note_e, m_finds_e, Int.reduceToNat, noted_neg, up_eq, up_r, up_i, fil_in, fil_i, fil_r]
        rw [el]
        exact z4
      · have z5 := z5 Q K hK
        rw [w_m_writeAll_h2_s]
        simp (disch := omega) only [Nat.zero_add, e_T, e_F, e_t, e_f, e_gd, e_bg0, e_bg1, e_nz, Int.toNat_natCast, Int.toNat_add, Int.toNat_mul, xw_al, xw_ar, xw_ml, xw_mr, xw_sl, xw_sr, xw_id, x_sl_c, mc3, mc6, mc8, mc12, mc64, mc72, Nat.add_assoc, Int.reduceToNat, L_isLine_t, L_isLine_f, R_has_t, R_has_f, R_isCh_t, R_isCh_f, V_isCurve_t, V_isCurve_f, Q_isCue_t, Q_isCue_f, Q_isList_t, Q_isList_f, B_isPb_t, B_isPb_f, m_in_t, m_in_f, m_isLine_t, m_isLine_f, m_isPb_t, m_isPb_f, m_isFx_t, m_isFx_f, F_note_e, m_finds_e, Int.reduceToNat, noted_neg, up_eq, up_r, up_i, fil_in, fil_i, fil_r]
        rw [el]
        exact z5
    · obtain ⟨b', g', z1, z2, z3, z4, z5⟩ := blank_A k (l + 1) b g (by omega) h
      refine ⟨b', g', z1, z2, z3, fun Q K hK => ?_, fun Q K hK => ?_⟩
      · have z4 := z4 Q K hK
        rw [w_L_blankPlugged_h2_s]
        simp (disch := omega) only [e_T, e_F, e_t, e_f, e_gd, e_bg0, e_bg1, e_nz, Int.toNat_natCast, Int.toNat_add, Int.toNat_mul, xw_al, xw_ar, xw_ml, xw_mr, xw_sl, xw_sr, xw_id, x_sl_c, mc3, mc6, mc8, mc12, mc64, mc72, Nat.add_assoc, Int.reduceToNat, L_isLine_t, L_isLine_f, R_has_t, R_has_f, R_isCh_t, R_isCh_f, V_isCurve_t, V_isCurve_f, Q_isCue_t, Q_isCue_f, Q_isList_t, Q_isList_f, B_isPb_t, B_isPb_f, m_in_t, m_in_f, m_isLine_t, m_isLine_f, m_isPb_t, m_isPb_f, m_isFx_t, m_isFx_f, F_note_e, m_finds_e, Int.reduceToNat, noted_neg, up_eq, up_r, up_i, fil_in, fil_i, fil_r]
        rw [el]
        exact z4
      · have z5 := z5 Q K hK
        rw [w_m_writeAll_h2_s]
        simp (disch := omega) only [Nat.zero_add, e_T, e_F, e_t, e_f, e_gd, e_bg0, e_bg1, e_nz, Int.toNat_natCast, Int.toNat_add, Int.toNat_mul, xw_al, xw_ar, xw_ml, xw_mr, xw_sl, xw_sr, xw_id, x_sl_c, mc3, mc6, mc8, mc12, mc64, mc72, Nat.add_assoc, Int.reduceToNat, L_isLine_t, L_isLine_f, R_has_t, R_has_f, R_isCh_t, R_isCh_f, V_isCurve_t, V_isCurve_f, Q_isCue_t, Q_isCue_f, Q_isList_t, Q_isList_f, B_isPb_t, B_isPb_f, m_in_t, m_in_f, m_isLine_t, m_isLine_f, m_isPb_t, m_isPb_f, m_isFx_t, m_isFx_f, F_note_e, m_finds_e, Int.reduceToNat, noted_neg, up_eq, up_r, up_i, fil_in, fil_i, fil_r]
        rw [el]
        exact z5
/-- bytes of a plugged LINE -/
theorem rL_byte {b b' : xB} {s s' : Nat → Int} {l : Nat} (hl : l < 4) (h : rL b s) (c1 : b 13 l = 1) (hb : ∀ r, r ≠ 11 → b' r = b r) (hs : ∀ i, i < 8 ∨ 264 ≤ i → i < 276 → s' i = s i) (hob : ∀ k p : Nat, k ≠ l → p < 64 → b' 11 (k * 64 + p) = b 11 (k * 64 + p)) (hos : ∀ k p : Nat, k < 4 → k ≠ l → p < 64 → s' (8 + (k * 64 + p)) = s (8 + (k * 64 + p))) (hn : ∀ p : Nat, p < 64 → (p : Int) < b 12 l → (b' 11 (l * 64 + p) = b 11 (l * 64 + p) ∧ s' (8 + (l * 64 + p)) = s (8 + (l * 64 + p))) ∨ (b' 11 (l * 64 + p) = s' (8 + (l * 64 + p)) ∧ 0 ≤ b' 11 (l * 64 + p) ∧ b' 11 (l * 64 + p) ≤ 255)) : rL b' s' := by
  have hl' := h l hl
  rcases hl'.2.2.2.2.2.2 with ⟨d1, d2, d3, d4, d5, d6⟩ | ⟨d1, _⟩ | ⟨d1, _⟩
  · refine rL_set (j := l) hl h hob (fun k _ => by rw [hb 12 (by omega)]) (fun k _ => by rw [hb 13 (by omega)]) (hb 14 (by omega)) (hb 15 (by omega)) (hb 16 (by omega)) (fun k hk hj => ⟨hs k (by omega) (by omega), hs (4 + k) (by omega) (by omega), fun p hp => hos k p hk hj hp⟩) (fun i h1 h2 => hs i (by omega) h2) (Or.inl ?_)
    · rw [hb 13 (by omega), hb 12 (by omega), hs l (by omega) (by omega), hs (4 + l) (by omega) (by omega)]
      refine ⟨d1, d2, d3, d4, d5, fun p hp => ?_⟩
      rcases hn p (by omega) hp with ⟨w1, w2⟩ | w
      · rw [w1, w2]
        exact d6 p hp
      · exact w
  · omega
  · omega
def stV (k : Int) (c : Nat) : Nat := if k = 2 then 2 * c else c
theorem R_start_e {b : xB} {f c : Nat} {Q : Int → xB → Prop} (hf : f < 24) (hc : c < 3) : w_R_startOf b f c Q = Q (stV (b 17 f) c : Int) b := by
  unfold stV
  by_cases e : b 17 f = 2
  · rw [if_pos e]
    simp (disch := omega) only [w_R_startOf, e_T, e_F, e_t, e_f, e_gd, e_bg0, e_bg1, e_nz, Int.toNat_natCast, Int.toNat_add, Int.toNat_mul, xw_al, xw_ar, xw_ml, xw_mr, xw_sl, xw_sr, xw_id, x_sl_c, mc3, mc6, mc8, mc12, mc64, mc72, Nat.add_assoc, Int.reduceToNat, L_isLine_t, L_isLine_f, R_has_t, R_has_f, R_isCh_t, R_isCh_f, V_isCurve_t, V_isCurve_f, Q_isCue_t, Q_isCue_f, Q_isList_t, Q_isList_f, B_isPb_t, B_isPb_f, m_in_t, m_in_f, m_isLine_t, m_isLine_f, m_isPb_t, m_isPb_f, m_isFx_t, m_isFx_f, F_note_e, m_finds_e, Int.reduceToNat, noted_neg, up_eq, up_r, up_i, fil_in, fil_i, fil_r]
    rfl
  · rw [if_neg e]
    simp (disch := omega) only [w_R_startOf, e_T, e_F, e_t, e_f, e_gd, e_bg0, e_bg1, e_nz, Int.toNat_natCast, Int.toNat_add, Int.toNat_mul, xw_al, xw_ar, xw_ml, xw_mr, xw_sl, xw_sr, xw_id, x_sl_c, mc3, mc6, mc8, mc12, mc64, mc72, Nat.add_assoc, Int.reduceToNat, L_isLine_t, L_isLine_f, R_has_t, R_has_f, R_isCh_t, R_isCh_f, V_isCurve_t, V_isCurve_f, Q_isCue_t, Q_isCue_f, Q_isList_t, Q_isList_f, B_isPb_t, B_isPb_f, m_in_t, m_in_f, m_isLine_t, m_isLine_f, m_isPb_t, m_isPb_f, m_isFx_t, m_isFx_f, F_note_e, m_finds_e, Int.reduceToNat, noted_neg, up_eq, up_r, up_i, fil_in, fil_i, fil_r]
theorem m_place_e {g : xB} {f c p : Nat} {Q : Int → xB → Prop} (hf : f < 24) (hc : c < 3) (hp : g 71 (350 + f) = (p : Int)) (hp64 : p < 64) : w_m_placeOf g f c Q = Q ((p + stV (g 71 (278 + f)) c : Nat) : Int) g := by
  unfold stV
  by_cases e : g 71 (278 + f) = 2
  · rw [if_pos e]
    simp (disch := omega) only [w_m_placeOf, w_m_kindOf, hp, e_T, e_F, e_t, e_f, e_gd, e_bg0, e_bg1, e_nz, Int.toNat_natCast, Int.toNat_add, Int.toNat_mul, xw_al, xw_ar, xw_ml, xw_mr, xw_sl, xw_sr, xw_id, x_sl_c, mc3, mc6, mc8, mc12, mc64, mc72, Nat.add_assoc, Int.reduceToNat, L_isLine_t, L_isLine_f, R_has_t, R_has_f, R_isCh_t, R_isCh_f, V_isCurve_t, V_isCurve_f, Q_isCue_t, Q_isCue_f, Q_isList_t, Q_isList_f, B_isPb_t, B_isPb_f, m_in_t, m_in_f, m_isLine_t, m_isLine_f, m_isPb_t, m_isPb_f, m_isFx_t, m_isFx_f, F_note_e, m_finds_e, Int.reduceToNat, noted_neg, up_eq, up_r, up_i, fil_in, fil_i, fil_r]
    congr 1
  · rw [if_neg e]
    simp (disch := omega) only [w_m_placeOf, w_m_kindOf, hp, e_T, e_F, e_t, e_f, e_gd, e_bg0, e_bg1, e_nz, Int.toNat_natCast, Int.toNat_add, Int.toNat_mul, xw_al, xw_ar, xw_ml, xw_mr, xw_sl, xw_sr, xw_id, x_sl_c, mc3, mc6, mc8, mc12, mc64, mc72, Nat.add_assoc, Int.reduceToNat, L_isLine_t, L_isLine_f, R_has_t, R_has_f, R_isCh_t, R_isCh_f, V_isCurve_t, V_isCurve_f, Q_isCue_t, Q_isCue_f, Q_isList_t, Q_isList_f, B_isPb_t, B_isPb_f, m_in_t, m_in_f, m_isLine_t, m_isLine_f, m_isPb_t, m_isPb_f, m_isFx_t, m_isFx_f, F_note_e, m_finds_e, Int.reduceToNat, noted_neg, up_eq, up_r, up_i, fil_in, fil_i, fil_r]
    congr 1
theorem write_A {M n : Int} {b g : xB} {f c : Nat} (h : rG M n b (g 71)) (hlev : levR b g) (hf : f < 24) (hp : b 25 f ≠ -1) (hc : c < kChan (b 17 f)) : ∃ b' g', rG M n b' (g' 71) ∧ fWb b b' ∧ fWm g g' ∧ (∀ Q : xB → Prop, Q b' → w_X_writeChannel b f c Q) ∧ (∀ Q : xB → Prop, Q g' → w_m_write g f c Q = True) := by
  have hR := htR_of h hlev
  obtain ⟨k0, k3, hk, h18, n0, n1, h21, l0, l1, p0, p1, h26⟩ := hR.1 f hf hp
  have h25 := hR.2.2.2 f hf
  have hk3 := kChan_le (b 17 f)
  have hc3 : c < 3 := by omega
  obtain ⟨v1, v2, v3, v4, v5⟩ := hlev f c hf hp hc
  obtain ⟨l, hl⟩ := nat_of l0
  obtain ⟨p, hpp⟩ := nat_of p0
  have s326 : g 71 (326 + f) = (l : Int) := by omega
  have s350 : g 71 (350 + f) = (p : Int) := by omega
  have ech : (f : Int) * 3 + c = ((f * 3 + c : Nat) : Int) := by omega
  have ech2 : (3 : Int) * f + c = ((f * 3 + c : Nat) : Int) := by omega
  have hLl := h.2.1 l (by omega)
  have mhead : ∀ Q : xB → Prop, (x_br (g 71 l = 1) (w_m_isWhole g f c (fun r1 g2 => x_br (r1 = 0) (Q (x_up g2 71 3774 (xw ((g2 71 3774) + 1)))) (x_br ((g2 71 3769) = 1) (w_m_isDimming g2 f c (fun r7 g8 => x_br (r7 = 0) (w_m_write_j87 Q g8 f c l) (w_m_write_j97 Q g8 f c l 0))) (w_m_write_j87 Q g2 f c l)))) (Q (x_up g 71 3773 (xw ((g 71 3773) + 1))))) → w_m_write g f c Q = True := by
    intro Q hj
    refine eq_true ?_
    unfold w_m_write
    rw [show xw (326 + (f : Int)) = ((326 + f : Nat) : Int) from (xw_id (by omega) (by omega)).trans (by omega), Int.toNat_natCast, s326, show xw (0 + (l : Int)) = (l : Int) from (xw_id (by omega) (by omega)).trans (by omega), Int.toNat_natCast, e_gd (by omega) (by omega), e_gd (by omega) (by omega)]
    exact hj
  have chead : ∀ Q : xB → Prop, (x_br (b 13 l = 0) (w_F_note b 1 (fun r9 b10 => Q b10)) (x_br (b 46 (f * 3 + c) = 0) (w_F_note b 2 (fun r7 b8 => Q b8)) (w_R_startOf b f c (fun r1 b2 => x_br ((b2 272 0) = 0) (w_X_writeChannel_j104 Q b2 f c (xw ((xw ((xw ((l : Int) * 64)) + p)) + r1))) (w_R_isDimming b2 f c (fun r5 b6 => x_br (r5 = 0) (w_X_writeChannel_j104 Q b6 f c (xw ((xw ((xw ((l : Int) * 64)) + p)) + r1))) (w_X_writeChannel_j114 Q b6 f c (xw ((xw ((xw ((l : Int) * 64)) + p)) + r1)) 0))))))) → w_X_writeChannel b f c Q := by
    intro Q hj
    unfold w_X_writeChannel
    rw [Int.toNat_natCast, hl, hpp, e_gd (by omega) (by omega), e_gd (by omega) (by omega), Int.toNat_natCast, xw_al, xw_id (z := (f : Int) * 3 + c) (by omega) (by omega), ech, e_gd (by omega) (by omega), Int.toNat_natCast, e_gd (by omega) (by omega)]
    exact hj
  have nof : ∀ (j : Nat), 1 ≤ j → j ≤ 2 → rG M n (x_up b 10 j (xw (b 10 j + 1))) (x_up g 71 (3772 + j) (xw (g 71 (3772 + j) + 1)) 71) ∧ fWb b (x_up b 10 j (xw (b 10 j + 1))) ∧ fWm g (x_up g 71 (3772 + j) (xw (g 71 (3772 + j) + 1))) := by
    intro j j1 j2
    exact ⟨rG_find h j1 (by omega), fun r hr => upR (by omega), ⟨fun r hr => upR hr, fun i hi => by simp (disch := omega) only [up_eq, up_r, up_i, fil_in, fil_i, fil_r]⟩⟩
  by_cases hpl : b 13 l = 0
  · obtain ⟨q1, q2, q3⟩ := nof 1 (by omega) (by omega)
    refine ⟨_, _, q1, q2, q3, fun Q hQ => chead Q ?_, fun Q hQ => mhead Q ?_⟩
    · rw [e_t hpl, F_note_e (by omega) (by omega)]
      exact hQ
    · rw [e_f (by rcases hLl.2.2.2.2.2.2 with ⟨c1, _⟩ | ⟨c1, c2, _⟩ | ⟨c1, c2, _⟩ <;> omega)]
      exact hQ
  · obtain ⟨c1, c2, c3, c4, c5, c6⟩ : b 13 l = 1 ∧ g 71 l = 1 ∧ b 12 l = g 71 (4 + l) ∧ 0 ≤ b 12 l ∧ b 12 l ≤ 64 ∧ True := by
      rcases hLl.2.2.2.2.2.2 with ⟨c1, c2, c3, c4, c5, c6⟩ | ⟨c1, _⟩ | ⟨c1, _⟩
      · exact ⟨c1, c2, c3, c4, c5, trivial⟩
      · exact absurd c1 hpl
      · exact absurd c1 hpl
    have w01 := whV_01 b f c
    by_cases hw : b 46 (f * 3 + c) = 0
    · obtain ⟨q1, q2, q3⟩ := nof 2 (by omega) (by omega)
      refine ⟨_, _, q1, q2, q3, fun Q hQ => chead Q ?_, fun Q hQ => mhead Q ?_⟩
      · rw [e_f hpl, e_t hw, F_note_e (by omega) (by omega)]
        exact hQ
      · rw [e_t c2, m_whole_e hR hf hp hc3, ← v5, e_t hw]
        exact hQ
    · have hwh : whV b f c = 1 := by omega
      have hlast : b 26 f + endV (b 17 f) c < b 12 l := by
        unfold whV at hwh
        rw [hl, Int.toNat_natCast] at hwh
        split at hwh
        · assumption
        · omega
      have hst : stV (b 17 f) c ≤ 4 ∧ (p + stV (b 17 f) c : Int) < b 12 l ∧ (b 17 f = 2 ∧ c < 2 → (p + stV (b 17 f) c + 1 : Int) < b 12 l) := by
        unfold endV at hlast
        unfold stV
        repeat' split at hlast
        all_goals repeat' split
        all_goals omega
      obtain ⟨q0, q1, q2⟩ := hst
      -- the value
      obtain ⟨x, hx, x0, x1⟩ : ∃ x : Int, x = (if b 272 0 = 0 ∨ dimV (b 17 f) c = 0 then b 45 (f * 3 + c) else 0) ∧ 0 ≤ x ∧ x ≤ kTop (b 17 f) c := by
        refine ⟨_, rfl, ?_, ?_⟩
        · split <;> omega
        · have : 0 ≤ kTop (b 17 f) c := by omega
          split <;> omega
      have hX := h.2.2.2.2.2.2.2.1.2.2.2.2
      have d01 := dimV_01 (b 17 f) c
      have ctail : ∀ Q : xB → Prop, w_X_writeChannel_j114 Q b f c ((l * 64 + (p + stV (b 17 f) c) : Nat) : Int) x → w_X_writeChannel b f c Q := by
        intro Q hj
        refine chead Q ?_
        rw [e_f hpl, e_f hw, R_start_e hf hc3, xw_id (z := (l : Int) * 64) (by omega) (by omega), xw_id (z := (l : Int) * 64 + p) (by omega) (by omega), xw_id (z := (l : Int) * 64 + p + (stV (b 17 f) c : Int)) (by omega) (by omega), show (l : Int) * 64 + p + (stV (b 17 f) c : Int) = ((l * 64 + (p + stV (b 17 f) c) : Nat) : Int) by omega]
        have j104 : w_X_writeChannel_j114 Q b f c ((l * 64 + (p + stV (b 17 f) c) : Nat) : Int) (b 45 (f * 3 + c)) → w_X_writeChannel_j104 Q b f c ((l * 64 + (p + stV (b 17 f) c) : Nat) : Int) = True := by
          intro z
          refine eq_true ?_
          unfold w_X_writeChannel_j104
          rw [xw_al, xw_id (z := (f : Int) * 3 + c) (by omega) (by omega), ech, e_gd (by omega) (by omega), Int.toNat_natCast]
          exact z
        by_cases hd : b 272 0 = 0
        · rw [if_pos (Or.inl hd)] at hx
          rw [hx] at hj
          rw [e_t hd, j104 hj]
          trivial
        · rw [e_f hd, R_dim_e hf k0 k3]
          rcases d01 with z | z
          · rw [if_pos (Or.inr z)] at hx
            rw [hx] at hj
            rw [z, e_t rfl, j104 hj]
            trivial
          · rw [if_neg (by omega)] at hx
            rw [hx] at hj
            rw [z, e_f (by decide)]
            exact hj
      have mtail : ∀ Q : xB → Prop, w_m_write_j97 Q g f c l x = True → w_m_write g f c Q = True := by
        intro Q hj
        refine mhead Q ?_
        rw [e_t c2, m_whole_e hR hf hp hc3, hwh, e_f (by decide)]
        have j87 : w_m_write_j97 Q g f c l (b 45 (f * 3 + c)) = True → w_m_write_j87 Q g f c l = True := by
          intro z
          refine eq_true ?_
          unfold w_m_write_j87
          rw [xw_al, xw_id (z := 3 * (f : Int) + c) (by omega) (by omega), ech2, e_gd (by omega) (by omega), Int.toNat_natCast, ← v1, z]
          trivial
        by_cases hd : b 272 0 = 0
        · rw [if_pos (Or.inl hd)] at hx
          rw [hx] at hj
          rw [e_f (by omega), j87 hj]
          trivial
        · rw [e_t (by omega), m_dim_e hf (by omega) (by omega), ← hk]
          rcases d01 with z | z
          · rw [if_pos (Or.inr z)] at hx
            rw [hx] at hj
            rw [z, e_t rfl, j87 hj]
            trivial
          · rw [if_neg (by omega)] at hx
            rw [hx] at hj
            rw [z, e_f (by decide), hj]
            trivial
      have est : stV (g 71 (278 + f)) c = stV (b 17 f) c := by rw [hk]
      by_cases hwd : b 17 f = 2 ∧ c < 2
      · have kt : kTop (b 17 f) c = 65535 := if_pos hwd
        have q2 := q2 hwd
        have xd : x.tdiv 256 = x / 256 := Int.tdiv_eq_ediv_of_nonneg x0
        have xm : x.tmod 256 = x % 256 := Int.tmod_eq_emod_of_nonneg x0
        refine ⟨x_up (x_up b 11 (l * 64 + (p + stV (b 17 f) c)) (x / 256)) 11 (l * 64 + (p + stV (b 17 f) c + 1)) (x % 256), x_up (x_up g 71 (8 + (l * 64 + (p + stV (b 17 f) c))) (x / 256)) 71 (8 + (l * 64 + (p + stV (b 17 f) c + 1))) (x % 256), ?_, fun r hr => by rw [upR (by omega), upR (by omega)], ⟨fun r hr => by rw [upR hr, upR hr], fun i hi => by simp (disch := omega) only [up_eq, up_r, up_i, fil_in, fil_i, fil_r]⟩, fun Q hQ => ctail Q ?_, fun Q hQ => mtail Q (eq_true ?_)⟩
        · refine rG_W h (fun r hr => by rw [upR (by omega), upR (by omega)]) ⟨fun r hr => by rw [upR hr, upR hr], fun i hi => by simp (disch := omega) only [up_eq, up_r, up_i, fil_in, fil_i, fil_r]⟩ (rF_c h.1 rfl (fun i _ _ => by simp (disch := omega) only [up_eq, up_r, up_i, fil_in, fil_i, fil_r])) ?_
          refine rL_byte (l := l) (by omega) h.2.1 c1 (fun r hr => by rw [upR hr, upR hr]) (fun i h1 h2 => by simp (disch := omega) only [up_eq, up_r, up_i, fil_in, fil_i, fil_r]) (fun k p hk hp => by simp (disch := omega) only [up_eq, up_r, up_i, fil_in, fil_i, fil_r]) (fun k p hk hk' hp => by simp (disch := omega) only [up_eq, up_r, up_i, fil_in, fil_i, fil_r]) (fun q hq hq' => ?_)
          by_cases e1 : q = p + stV (b 17 f) c + 1
          · subst e1
            right
            exact ⟨by simp (disch := omega) only [up_eq, up_r, up_i, fil_in, fil_i, fil_r], by simp (disch := omega) only [up_eq, up_r, up_i, fil_in, fil_i, fil_r]; omega, by simp (disch := omega) only [up_eq, up_r, up_i, fil_in, fil_i, fil_r]; omega⟩
          · by_cases e2 : q = p + stV (b 17 f) c
            · subst e2
              right
              exact ⟨by simp (disch := omega) only [up_eq, up_r, up_i, fil_in, fil_i, fil_r], by simp (disch := omega) only [up_eq, up_r, up_i, fil_in, fil_i, fil_r]; omega, by simp (disch := omega) only [up_eq, up_r, up_i, fil_in, fil_i, fil_r]; omega⟩
            · left
              exact ⟨by simp (disch := omega) only [up_eq, up_r, up_i, fil_in, fil_i, fil_r], by simp (disch := omega) only [up_eq, up_r, up_i, fil_in, fil_i, fil_r]⟩
        · unfold w_X_writeChannel_j114
          rw [R_wide_t hf hwd.1 (by omega), e_f (by decide), e_gd (by omega) (by omega), xw_id (z := ((l * 64 + (p + stV (b 17 f) c) : Nat) : Int) + 1) (by omega) (by omega), show ((l * 64 + (p + stV (b 17 f) c) : Nat) : Int) + 1 = ((l * 64 + (p + stV (b 17 f) c + 1) : Nat) : Int) by omega, e_gd (by omega) (by omega), Int.toNat_natCast, Int.toNat_natCast, xd, xm, xw_id (z := x / 256) (by omega) (by omega)]
          exact hQ
        · unfold w_m_write_j97
          rw [m_place_e hf hc3 s350 (by omega), est, m_wide_t hf (by omega) (by omega), e_f (by decide), xw_ar, xw_al, xw_al, xw_id (z := 8 + 64 * (l : Int) + ((p + stV (b 17 f) c : Nat) : Int)) (by omega) (by omega), xw_id (z := 8 + 64 * (l : Int) + ((p + stV (b 17 f) c : Nat) : Int) + 1) (by omega) (by omega), show 8 + 64 * (l : Int) + ((p + stV (b 17 f) c : Nat) : Int) + 1 = ((8 + (l * 64 + (p + stV (b 17 f) c + 1)) : Nat) : Int) by omega, show 8 + 64 * (l : Int) + ((p + stV (b 17 f) c : Nat) : Int) = ((8 + (l * 64 + (p + stV (b 17 f) c)) : Nat) : Int) by omega, e_gd (by omega) (by omega), e_gd (by omega) (by omega), Int.toNat_natCast, Int.toNat_natCast, xd, xm, xw_id (z := x / 256) (by omega) (by omega)]
          exact hQ
      · have kt : kTop (b 17 f) c = 255 := if_neg hwd
        refine ⟨x_up b 11 (l * 64 + (p + stV (b 17 f) c)) x, x_up g 71 (8 + (l * 64 + (p + stV (b 17 f) c))) x, ?_, fun r hr => by rw [upR (by omega)], ⟨fun r hr => by rw [upR hr], fun i hi => by simp (disch := omega) only [up_eq, up_r, up_i, fil_in, fil_i, fil_r]⟩, fun Q hQ => ctail Q ?_, fun Q hQ => mtail Q (eq_true ?_)⟩
        · refine rG_W h (fun r hr => by rw [upR (by omega)]) ⟨fun r hr => by rw [upR hr], fun i hi => by simp (disch := omega) only [up_eq, up_r, up_i, fil_in, fil_i, fil_r]⟩ (rF_c h.1 rfl (fun i _ _ => by simp (disch := omega) only [up_eq, up_r, up_i, fil_in, fil_i, fil_r])) ?_
          refine rL_byte (l := l) (by omega) h.2.1 c1 (fun r hr => by rw [upR hr]) (fun i h1 h2 => by simp (disch := omega) only [up_eq, up_r, up_i, fil_in, fil_i, fil_r]) (fun k p hk hp => by simp (disch := omega) only [up_eq, up_r, up_i, fil_in, fil_i, fil_r]) (fun k p hk hk' hp => by simp (disch := omega) only [up_eq, up_r, up_i, fil_in, fil_i, fil_r]) (fun q hq hq' => ?_)
          by_cases e2 : q = p + stV (b 17 f) c
          · subst e2
            right
            exact ⟨by simp (disch := omega) only [up_eq, up_r, up_i, fil_in, fil_i, fil_r], by simp (disch := omega) only [up_eq, up_r, up_i, fil_in, fil_i, fil_r]; omega, by simp (disch := omega) only [up_eq, up_r, up_i, fil_in, fil_i, fil_r]; omega⟩
          · left
            exact ⟨by simp (disch := omega) only [up_eq, up_r, up_i, fil_in, fil_i, fil_r], by simp (disch := omega) only [up_eq, up_r, up_i, fil_in, fil_i, fil_r]⟩
        · unfold w_X_writeChannel_j114
          rw [R_wide_f hf (by omega), e_t rfl, e_gd (by omega) (by omega), Int.toNat_natCast]
          exact hQ
        · unfold w_m_write_j97
          rw [m_place_e hf hc3 s350 (by omega), est, m_wide_f hf (by omega), e_t rfl, xw_ar, xw_al, xw_id (z := 8 + 64 * (l : Int) + ((p + stV (b 17 f) c : Nat) : Int)) (by omega) (by omega), show 8 + 64 * (l : Int) + ((p + stV (b 17 f) c : Nat) : Int) = ((8 + (l * 64 + (p + stV (b 17 f) c)) : Nat) : Int) by omega, e_gd (by omega) (by omega), Int.toNat_natCast]
          exact hQ
