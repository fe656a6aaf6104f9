/-! ===== a CUE begins: all its ENTRIES ===== -/
theorem rG_find {M n : Int} {f : Nat} {b g : xB} (h : rG M n b (g 71)) (h1 : 1 ≤ f) (h2 : f ≤ 6) : rG M n (x_up b 10 f (xw (b 10 f + 1))) (x_up g 71 (3772 + f) (xw (g 71 (3772 + f) + 1)) 71) := by
  obtain ⟨hF, hL, hR, hP, hV, hQ, hY, hX, u1, u2, u3, u4⟩ := h
  refine ⟨?_, rL_c hL rfl rfl rfl rfl rfl rfl (fun i hi => up_i (by omega)), rR_c hR rfl rfl rfl rfl rfl rfl rfl rfl rfl (fun i hi => up_i (by omega)), rP_c hP rfl rfl rfl rfl rfl rfl rfl (fun i hi => up_i (by omega)), rV_c hV rfl rfl rfl rfl rfl (fun i _ hi => up_i (by omega)), rQ_c hQ rfl rfl rfl rfl rfl rfl rfl rfl (Int.le_refl _) (fun i _ hi => up_i (by omega)), rY_c hY rfl rfl rfl rfl rfl rfl rfl rfl rfl rfl rfl rfl rfl (fun _ _ => Int.le_refl _) (Int.le_refl _) (Int.le_refl _) (fun _ _ => rfl) (Int.le_refl _) (fun i _ _ hi => up_i (by omega)), rX_c hX rfl rfl rfl rfl rfl (Int.le_refl _) (fun _ _ => rfl) (fun i hi => up_i (by omega)), ?_⟩
  · intro j j1 j2
    by_cases e : j = f
    · subst e
      rw [up_eq, up_eq, hF j j1 j2]
    · rw [up_i e, up_i (by omega)]
      exact hF j j1 j2
  · exact ⟨by rw [up_i (i' := 3766) (by omega)]; exact u1, u2, u3, by rw [up_i (i' := 3767) (by omega)]; exact u4⟩
theorem rG_le {M M' n : Int} {b : xB} {s : Nat → Int} (h : rG M n b s) (hM : M ≤ M') : rG M' n b s := by
  obtain ⟨hF, hL, hR, hP, hV, hQ, hY, hX, u1, u2, u3, u4⟩ := h
  exact ⟨hF, hL, hR, hP, hV, hQ, hY, hX, u1, u2, by omega, u4⟩
/-- scratch changed alone: the class's members, the model's -/
theorem rG_cst {M n : Int} {b b' g g' : xB} {L : List Nat} {P : Nat} (h : rG M n b (g 71)) (hc : cst b b' L) (hm : mst g g' P L) : rG M n b' (g' 71) := by
  obtain ⟨c1, c2, c3⟩ := hc
  obtain ⟨m1, m2, m3, m4⟩ := hm
  rw [m1 71 (by omega) (by omega) (by omega) (by omega) (by omega)]
  have B : ∀ r, r ≠ 23 ∧ r ≠ 170 → b' r = b r := fun r hr => c1 r hr.1 hr.2
  obtain ⟨hF, hL, hR, hP, hV, hQ, hY, hX, u1, u2, u3, u4⟩ := h
  exact ⟨rF_c hF (B _ (by omega)) (fun i _ _ => rfl), rL_c hL (B _ (by omega)) (B _ (by omega)) (B _ (by omega)) (B _ (by omega)) (B _ (by omega)) (B _ (by omega)) (fun i hi => rfl), rR_c hR (B _ (by omega)) (B _ (by omega)) (B _ (by omega)) (B _ (by omega)) (B _ (by omega)) (B _ (by omega)) (B _ (by omega)) (B _ (by omega)) (B _ (by omega)) (fun i hi => rfl), rP_c hP (B _ (by omega)) (B _ (by omega)) (B _ (by omega)) (B _ (by omega)) (B _ (by omega)) (B _ (by omega)) (B _ (by omega)) (fun i hi => rfl), rV_c hV (B _ (by omega)) (B _ (by omega)) (B _ (by omega)) (B _ (by omega)) (B _ (by omega)) (fun i _ hi => rfl), rQ_c hQ (B _ (by omega)) (B _ (by omega)) (B _ (by omega)) (B _ (by omega)) (B _ (by omega)) (B _ (by omega)) (B _ (by omega)) (B _ (by omega)) (by rw [B 161 (by omega)]; exact Int.le_refl _) (fun i _ hi => rfl), rY_c hY (B _ (by omega)) (B _ (by omega)) (B _ (by omega)) (B _ (by omega)) (B _ (by omega)) (B _ (by omega)) (B _ (by omega)) (B _ (by omega)) (B _ (by omega)) (B _ (by omega)) (B _ (by omega)) (B _ (by omega)) (B _ (by omega)) (fun i _ => by rw [B 39 (by omega)]; exact Int.le_refl _) (by rw [B 108 (by omega)]; exact Int.le_refl _) (by rw [B 161 (by omega)]; exact Int.le_refl _) (fun _ _ => by rw [B 17 (by omega)]) (by rw [B 110 (by omega)]; exact Int.le_refl _) (fun i _ _ hi => rfl), rX_c hX (B _ (by omega)) (B _ (by omega)) (B _ (by omega)) (B _ (by omega)) (B _ (by omega)) (by rw [B 161 (by omega)]; exact Int.le_refl _) (fun _ _ => by rw [B 17 (by omega)]) (fun i hi => rfl), by rw [B 110 (by omega)]; exact u1, by rw [B 110 (by omega)]; exact u2, by rw [B 110 (by omega)]; exact u3, u4⟩
theorem kTop_min {k v : Int} {c : Nat} (h0 : 0 ≤ v) (h1 : v ≤ 65535) : 0 ≤ (if kTop k c < v then kTop k c else v) ∧ (if kTop k c < v then kTop k c else v) ≤ kTop k c := by
  unfold kTop
  repeat' split
  all_goals omega
set_option maxRecDepth 20000 in
theorem go_members {n : Int} {p q e : Nat} {L : List Nat} (hp : p < 4) (hq : q < 16) : ∀ (k i : Nat) (M : Int) (b g : xB), i + k = L.length → L.length ≤ 216 → rG M n b (g 71) → 0 ≤ M → M + k ≤ 900000000 → wrL 23 b L → wrL 74 g L → g 1506 0 = (L.length : Int) → (∀ x, x ∈ L → (x : Int) < b 161 0 ∧ b 17 x ≠ 4) → (∃ j : Nat, (j : Int) < b 34 q ∧ e = q * 12 + j) → ∃ b' g', rG (M + k) n b' (g' 71) ∧ fGb b b' ∧ fGm g g' ∧ (∀ (Q : xB → Prop) (K : xB → Prop), K b' → w_B_startEntry_h31 Q K (k + 1) b p e (b 36 e) L.length i) ∧ (∀ (Q : Int → xB → Prop) (K : xB → Int → Int → Int → Prop), K g' p q e → w_m_goes_h100 Q K (k + 1) g p q e i)
  | 0, i, M, b, g, hi, hL, h, hM0, hM, w1, w2, w3, w4, w5 => by
    refine ⟨b, g, rG_le h (by omega), fGb_rf, fGm_rf, fun Q K hK => ?_, fun Q K hK => ?_⟩
    · rw [w_B_startEntry_h31_s]
      simp (disch := omega) only [e_T, e_F, e_t, e_f, e_gd, e_bg0, e_bg1, e_nz, Int.toNat_natCast, Int.toNat_add, Int.toNat_mul, xw_al, xw_ar, xw_ml, xw_mr, xw_sl, xw_sr, xw_id, x_sl_c, mc3, mc6, mc8, mc12, mc64, mc72, Nat.add_assoc, Int.reduceToNat, L_isLine_t, L_isLine_f, R_has_t, R_has_f, R_isCh_t, R_isCh_f, V_isCurve_t, V_isCurve_f, Q_isCue_t, Q_isCue_f, Q_isList_t, Q_isList_f, B_isPb_t, B_isPb_f, m_in_t, m_in_f, m_isLine_t, m_isLine_f, m_isPb_t, m_isPb_f, m_isFx_t, m_isFx_f, F_note_e, m_finds_e, Int.reduceToNat, noted_neg, up_eq, up_r, up_i, fil_in, fil_i, fil_r]
      exact hK
    · rw [w_m_goes_h100_s]
      simp (disch := omega) only [e_T, e_F, e_t, e_f, e_gd, e_bg0, e_bg1, e_nz, Int.toNat_natCast, Int.toNat_add, Int.toNat_mul, xw_al, xw_ar, xw_ml, xw_mr, xw_sl, xw_sr, xw_id, x_sl_c, mc3, mc6, mc8, mc12, mc64, mc72, Nat.add_assoc, Int.reduceToNat, L_isLine_t, L_isLine_f, R_has_t, R_has_f, R_isCh_t, R_isCh_f, V_isCurve_t, V_isCurve_f, Q_isCue_t, Q_isCue_f, Q_isList_t, Q_isList_f, B_isPb_t, B_isPb_f, m_in_t, m_in_f, m_isLine_t, m_isLine_f, m_isPb_t, m_isPb_f, m_isFx_t, m_isFx_f, F_note_e, m_finds_e, Int.reduceToNat, noted_neg, up_eq, up_r, up_i, fil_in, fil_i, fil_r]
      exact hK
  | k + 1, i, M, b, g, hi, hL, h, hM0, hM, w1, w2, w3, w4, w5 => by
    obtain ⟨j, hj, ej⟩ := w5
    have hQ := h.2.2.2.2.2.1
    have hR := h.2.2.1
    obtain ⟨t1, t2, t3, t4⟩ := hQ.1 q hq
    obtain ⟨v1, v2, v3, v4, v5, v6, v7, v8, v9, v10, v11, v12⟩ := t4 j hj
    rw [← ej] at v1 v2 v3 v4 v5 v6 v7 v8 v9 v10 v11 v12
    have hx := w4 L[i] (List.getElem_mem (by omega))
    have x23 : b 23 i = (L[i] : Int) := w1 i (by omega)
    have x74 : g 74 i = (L[i] : Int) := w2 i (by omega)
    generalize L[i] = x at hx x23 x74
    have r1 := hR.1
    have r3 := hR.2.2.1
    obtain ⟨q1, q2, q3⟩ := hR.2.2.2.2.2.2.2.1 x hx.1
    have kx : 0 ≤ b 17 x ∧ b 17 x ≤ 4 := by rcases q3 with ⟨k1, k2, -⟩ | ⟨k1, -⟩ <;> omega
    obtain ⟨c, hc⟩ := nat_of v5
    have hc3 : c < 3 := by omega
    have sc : g 71 (1082 + e) = (c : Int) := by omega
    obtain ⟨u1, u2, u3, u4⟩ := h.2.2.2.2.2.2.2.2
    by_cases hch : c < kChan (b 17 x)
    · have hch' : c < kChan (g 71 (278 + x)) := by rw [← q1]; exact hch
      have hYp := h.2.2.2.2.2.2.1 p hp
      have y5 := hYp.2.2.2.2.2.2.2.2.2.1
      have y6 := hYp.2.2.2.2.2.2.2.2.2.2.1
      have l5 := cHas_le (b := b) (p := p) 72
      have l6 := cFad_le (b := b) (p := p) 72
      have tt := kTop_min (k := b 17 x) (c := c) v8 v9
      obtain ⟨b', hC, hC2⟩ := Y_fade_A (b := x_up b 110 0 (b 110 0 + 1)) (p := p) (i := x * 3 + c) (tg := if kTop (b 17 x) c < b 37 e then kTop (b 17 x) c else b 37 e) (t := b 38 e) (z := b 110 0 + 1) hp (by omega) (by simp (disch := omega) only [up_eq, up_r, up_i, fil_in, fil_i, fil_r]; omega) (by simp (disch := omega) only [up_eq, up_r, up_i, fil_in, fil_i, fil_r]; omega) (by simp (disch := omega) only [up_eq, up_r, up_i, fil_in, fil_i, fil_r]; omega) (by simp (disch := omega) only [up_eq, up_r, up_i, fil_in, fil_i, fil_r]; omega)
      obtain ⟨g', hG, hG2⟩ := m_fade_A (g := g) (k := p * 72 + (x * 3 + c)) (tg := if kTop (b 17 x) c < b 37 e then kTop (b 17 x) c else b 37 e) (t := b 38 e) (by omega) (by omega) (by omega)
      obtain ⟨f1, f2, f3⟩ := rG_fade h hp hx.1 hch hc3 tt.1 tt.2 v11 v12 rfl hC hG
      have g74 : g' 74 = g 74 := hG.1 74 (by omega)
      obtain ⟨b2, g2, z1, z2, z3, z4, z5⟩ := go_members hp hq k (i + 1) (M + 1) b' g' (by omega) hL f1 (by omega) (by omega) (by
        intro j hj
        have : b' 23 = b 23 := by rw [hC.1 23 (by omega), upR (by omega)]
        rw [this]
        exact w1 j hj) (by
        intro j hj
        rw [g74]
        exact w2 j hj) (by rw [hG.1 1506 (by omega)]; exact w3) (by
        intro y hy
        rw [f2 161 (by omega), f2 17 (by omega)]
        exact w4 y hy) ⟨j, by rw [f2 34 (by omega)]; exact hj, ej⟩
      refine ⟨b2, g2, rG_le z1 (by omega), fGb_tr f2 z2, fGm_tr f3 z3, fun Q K hK => ?_, fun Q K hK => ?_⟩
      · have z4 := z4 Q K hK
        rw [f2 36 (by omega)] at z4
        have ei : (i : Int) + 1 = ((i + 1 : Nat) : Int) := by omega
        rw [w_B_startEntry_h31_s]
        simp (disch := omega) only [x23, e_T, e_F, e_t, e_f, e_gd, e_bg0, e_bg1, e_nz, Int.toNat_natCast, Int.toNat_add, Int.toNat_mul, xw_al, xw_ar, xw_ml, xw_mr, xw_sl, xw_sr, xw_id, x_sl_c, mc3, mc6, mc8, mc12, mc64, mc72, Nat.add_assoc, Int.reduceToNat, L_isLine_t, L_isLine_f, R_has_t, R_has_f, R_isCh_t, R_isCh_f, V_isCurve_t, V_isCurve_f, Q_isCue_t, Q_isCue_f, Q_isList_t, Q_isList_f, B_isPb_t, B_isPb_f, m_in_t, m_in_f, m_isLine_t, m_isLine_f, m_isPb_t, m_isPb_f, m_isFx_t, m_isFx_f, F_note_e, m_finds_e, Int.reduceToNat, noted_neg, up_eq, up_r, up_i, fil_in, fil_i, fil_r]
        rw [R_chan_e (by omega), e_t (by omega)]
        have ex : (x : Int) * 3 + b 36 e = ((x * 3 + c : Nat) : Int) := by omega
        by_cases hw : b 17 x = 2 ∧ c < 2
        · have kt : kTop (b 17 x) c = 65535 := if_pos hw
          rw [kt] at hC2
          rw [R_wide_t (by omega) hw.1 (by omega)]
          simp (disch := omega) only [w_B_startEntry_j97, x23, J_min_e, e_T, e_F, e_t, e_f, e_gd, e_bg0, e_bg1, e_nz, Int.toNat_natCast, Int.toNat_add, Int.toNat_mul, xw_al, xw_ar, xw_ml, xw_mr, xw_sl, xw_sr, xw_id, x_sl_c, mc3, mc6, mc8, mc12, mc64, mc72, Nat.add_assoc, Int.reduceToNat, L_isLine_t, L_isLine_f, R_has_t, R_has_f, R_isCh_t, R_isCh_f, V_isCurve_t, V_isCurve_f, Q_isCue_t, Q_isCue_f, Q_isList_t, Q_isList_f, B_isPb_t, B_isPb_f, m_in_t, m_in_f, m_isLine_t, m_isLine_f, m_isPb_t, m_isPb_f, m_isFx_t, m_isFx_f, F_note_e, m_finds_e, Int.reduceToNat, noted_neg, up_eq, up_r, up_i, fil_in, fil_i, fil_r]
          rw [ex, ei]
          exact hC2 _ z4
        · have kt : kTop (b 17 x) c = 255 := if_neg hw
          rw [kt] at hC2
          rw [R_wide_f (by omega) (by omega)]
          simp (disch := omega) only [w_B_startEntry_j97, x23, J_min_e, e_T, e_F, e_t, e_f, e_gd, e_bg0, e_bg1, e_nz, Int.toNat_natCast, Int.toNat_add, Int.toNat_mul, xw_al, xw_ar, xw_ml, xw_mr, xw_sl, xw_sr, xw_id, x_sl_c, mc3, mc6, mc8, mc12, mc64, mc72, Nat.add_assoc, Int.reduceToNat, L_isLine_t, L_isLine_f, R_has_t, R_has_f, R_isCh_t, R_isCh_f, V_isCurve_t, V_isCurve_f, Q_isCue_t, Q_isCue_f, Q_isList_t, Q_isList_f, B_isPb_t, B_isPb_f, m_in_t, m_in_f, m_isLine_t, m_isLine_f, m_isPb_t, m_isPb_f, m_isFx_t, m_isFx_f, F_note_e, m_finds_e, Int.reduceToNat, noted_neg, up_eq, up_r, up_i, fil_in, fil_i, fil_r]
          rw [ex, ei]
          exact hC2 _ z4
      · have z5 := z5 Q K hK
        have ei : (i : Int) + 1 = ((i + 1 : Nat) : Int) := by omega
        rw [v7, v10] at hG2
        have ek : (72 : Int) * p + 3 * x + c = ((p * 72 + (x * 3 + c) : Nat) : Int) := by omega
        by_cases hw : b 17 x = 2 ∧ c < 2
        · have kt : kTop (b 17 x) c = 65535 := if_pos hw
          rw [kt, if_neg (by omega)] at hG2
          rw [w_m_goes_h100_s]
          simp (disch := omega) only [x74, sc, e_T, e_F, e_t, e_f, e_gd, e_bg0, e_bg1, e_nz, Int.toNat_natCast, Int.toNat_add, Int.toNat_mul, xw_al, xw_ar, xw_ml, xw_mr, xw_sl, xw_sr, xw_id, x_sl_c, mc3, mc6, mc8, mc12, mc64, mc72, Nat.add_assoc, Int.reduceToNat, L_isLine_t, L_isLine_f, R_has_t, R_has_f, R_isCh_t, R_isCh_f, V_isCurve_t, V_isCurve_f, Q_isCue_t, Q_isCue_f, Q_isList_t, Q_isList_f, B_isPb_t, B_isPb_f, m_in_t, m_in_f, m_isLine_t, m_isLine_f, m_isPb_t, m_isPb_f, m_isFx_t, m_isFx_f, F_note_e, m_finds_e, Int.reduceToNat, noted_neg, up_eq, up_r, up_i, fil_in, fil_i, fil_r]
          rw [m_chan_t (by omega) (by omega) (by omega) hch']
          simp (disch := omega) only [x74, sc, e_T, e_F, e_t, e_f, e_gd, e_bg0, e_bg1, e_nz, Int.toNat_natCast, Int.toNat_add, Int.toNat_mul, xw_al, xw_ar, xw_ml, xw_mr, xw_sl, xw_sr, xw_id, x_sl_c, mc3, mc6, mc8, mc12, mc64, mc72, Nat.add_assoc, Int.reduceToNat, L_isLine_t, L_isLine_f, R_has_t, R_has_f, R_isCh_t, R_isCh_f, V_isCurve_t, V_isCurve_f, Q_isCue_t, Q_isCue_f, Q_isList_t, Q_isList_f, B_isPb_t, B_isPb_f, m_in_t, m_in_f, m_isLine_t, m_isLine_f, m_isPb_t, m_isPb_f, m_isFx_t, m_isFx_f, F_note_e, m_finds_e, Int.reduceToNat, noted_neg, up_eq, up_r, up_i, fil_in, fil_i, fil_r]
          unfold w_m_fade
          rw [m_wide_t (by omega) (by omega) (by omega)]
          simp (disch := omega) only [w_m_fade_j35, e_T, e_F, e_t, e_f, e_gd, e_bg0, e_bg1, e_nz, Int.toNat_natCast, Int.toNat_add, Int.toNat_mul, xw_al, xw_ar, xw_ml, xw_mr, xw_sl, xw_sr, xw_id, x_sl_c, mc3, mc6, mc8, mc12, mc64, mc72, Nat.add_assoc, Int.reduceToNat, L_isLine_t, L_isLine_f, R_has_t, R_has_f, R_isCh_t, R_isCh_f, V_isCurve_t, V_isCurve_f, Q_isCue_t, Q_isCue_f, Q_isList_t, Q_isList_f, B_isPb_t, B_isPb_f, m_in_t, m_in_f, m_isLine_t, m_isLine_f, m_isPb_t, m_isPb_f, m_isFx_t, m_isFx_f, F_note_e, m_finds_e, Int.reduceToNat, noted_neg, up_eq, up_r, up_i, fil_in, fil_i, fil_r]
          rw [ek, ei]
          simp only [hG2 (fun g4 => w_m_goes_h100 Q K (k + 1) g4 p q e ((i + 1 : Nat) : Int)) z5]
        · have kt : kTop (b 17 x) c = 255 := if_neg hw
          rw [kt] at hG2
          have hw' : ¬ (g 71 (278 + x) = 2 ∧ (c : Int) < 2) := by omega
          by_cases hv : 255 < g 71 (1274 + e)
          · rw [if_pos hv] at hG2
            rw [w_m_goes_h100_s]
            simp (disch := omega) only [x74, sc, e_T, e_F, e_t, e_f, e_gd, e_bg0, e_bg1, e_nz, Int.toNat_natCast, Int.toNat_add, Int.toNat_mul, xw_al, xw_ar, xw_ml, xw_mr, xw_sl, xw_sr, xw_id, x_sl_c, mc3, mc6, mc8, mc12, mc64, mc72, Nat.add_assoc, Int.reduceToNat, L_isLine_t, L_isLine_f, R_has_t, R_has_f, R_isCh_t, R_isCh_f, V_isCurve_t, V_isCurve_f, Q_isCue_t, Q_isCue_f, Q_isList_t, Q_isList_f, B_isPb_t, B_isPb_f, m_in_t, m_in_f, m_isLine_t, m_isLine_f, m_isPb_t, m_isPb_f, m_isFx_t, m_isFx_f, F_note_e, m_finds_e, Int.reduceToNat, noted_neg, up_eq, up_r, up_i, fil_in, fil_i, fil_r]
            rw [m_chan_t (by omega) (by omega) (by omega) hch']
            simp (disch := omega) only [x74, sc, e_T, e_F, e_t, e_f, e_gd, e_bg0, e_bg1, e_nz, Int.toNat_natCast, Int.toNat_add, Int.toNat_mul, xw_al, xw_ar, xw_ml, xw_mr, xw_sl, xw_sr, xw_id, x_sl_c, mc3, mc6, mc8, mc12, mc64, mc72, Nat.add_assoc, Int.reduceToNat, L_isLine_t, L_isLine_f, R_has_t, R_has_f, R_isCh_t, R_isCh_f, V_isCurve_t, V_isCurve_f, Q_isCue_t, Q_isCue_f, Q_isList_t, Q_isList_f, B_isPb_t, B_isPb_f, m_in_t, m_in_f, m_isLine_t, m_isLine_f, m_isPb_t, m_isPb_f, m_isFx_t, m_isFx_f, F_note_e, m_finds_e, Int.reduceToNat, noted_neg, up_eq, up_r, up_i, fil_in, fil_i, fil_r]
            unfold w_m_fade
            rw [m_wide_f (by omega) hw']
            simp (disch := omega) only [e_T, e_F, e_t, e_f, e_gd, e_bg0, e_bg1, e_nz, Int.toNat_natCast, Int.toNat_add, Int.toNat_mul, xw_al, xw_ar, xw_ml, xw_mr, xw_sl, xw_sr, xw_id, x_sl_c, mc3, mc6, mc8, mc12, mc64, mc72, Nat.add_assoc, Int.reduceToNat, L_isLine_t, L_isLine_f, R_has_t, R_has_f, R_isCh_t, R_isCh_f, V_isCurve_t, V_isCurve_f, Q_isCue_t, Q_isCue_f, Q_isList_t, Q_isList_f, B_isPb_t, B_isPb_f, m_in_t, m_in_f, m_isLine_t, m_isLine_f, m_isPb_t, m_isPb_f, m_isFx_t, m_isFx_f, F_note_e, m_finds_e, Int.reduceToNat, noted_neg, up_eq, up_r, up_i, fil_in, fil_i, fil_r]
            rw [ek, ei]
            simp only [hG2 (fun g4 => w_m_goes_h100 Q K (k + 1) g4 p q e ((i + 1 : Nat) : Int)) z5]
          · rw [if_neg hv] at hG2
            rw [w_m_goes_h100_s]
            simp (disch := omega) only [x74, sc, e_T, e_F, e_t, e_f, e_gd, e_bg0, e_bg1, e_nz, Int.toNat_natCast, Int.toNat_add, Int.toNat_mul, xw_al, xw_ar, xw_ml, xw_mr, xw_sl, xw_sr, xw_id, x_sl_c, mc3, mc6, mc8, mc12, mc64, mc72, Nat.add_assoc, Int.reduceToNat, L_isLine_t, L_isLine_f, R_has_t, R_has_f, R_isCh_t, R_isCh_f, V_isCurve_t, V_isCurve_f, Q_isCue_t, Q_isCue_f, Q_isList_t, Q_isList_f, B_isPb_t, B_isPb_f, m_in_t, m_in_f, m_isLine_t, m_isLine_f, m_isPb_t, m_isPb_f, m_isFx_t, m_isFx_f, F_note_e, m_finds_e, Int.reduceToNat, noted_neg, up_eq, up_r, up_i, fil_in, fil_i, fil_r]
            rw [m_chan_t (by omega) (by omega) (by omega) hch']
            simp (disch := omega) only [x74, sc, e_T, e_F, e_t, e_f, e_gd, e_bg0, e_bg1, e_nz, Int.toNat_natCast, Int.toNat_add, Int.toNat_mul, xw_al, xw_ar, xw_ml, xw_mr, xw_sl, xw_sr, xw_id, x_sl_c, mc3, mc6, mc8, mc12, mc64, mc72, Nat.add_assoc, Int.reduceToNat, L_isLine_t, L_isLine_f, R_has_t, R_has_f, R_isCh_t, R_isCh_f, V_isCurve_t, V_isCurve_f, Q_isCue_t, Q_isCue_f, Q_isList_t, Q_isList_f, B_isPb_t, B_isPb_f, m_in_t, m_in_f, m_isLine_t, m_isLine_f, m_isPb_t, m_isPb_f, m_isFx_t, m_isFx_f, F_note_e, m_finds_e, Int.reduceToNat, noted_neg, up_eq, up_r, up_i, fil_in, fil_i, fil_r]
            unfold w_m_fade
            rw [m_wide_f (by omega) hw']
            simp (disch := omega) only [w_m_fade_j35, e_T, e_F, e_t, e_f, e_gd, e_bg0, e_bg1, e_nz, Int.toNat_natCast, Int.toNat_add, Int.toNat_mul, xw_al, xw_ar, xw_ml, xw_mr, xw_sl, xw_sr, xw_id, x_sl_c, mc3, mc6, mc8, mc12, mc64, mc72, Nat.add_assoc, Int.reduceToNat, L_isLine_t, L_isLine_f, R_has_t, R_has_f, R_isCh_t, R_isCh_f, V_isCurve_t, V_isCurve_f, Q_isCue_t, Q_isCue_f, Q_isList_t, Q_isList_f, B_isPb_t, B_isPb_f, m_in_t, m_in_f, m_isLine_t, m_isLine_f, m_isPb_t, m_isPb_f, m_isFx_t, m_isFx_f, F_note_e, m_finds_e, Int.reduceToNat, noted_neg, up_eq, up_r, up_i, fil_in, fil_i, fil_r]
            rw [ek, ei]
            simp only [hG2 (fun g4 => w_m_goes_h100 Q K (k + 1) g4 p q e ((i + 1 : Nat) : Int)) z5]
    · have hch' : ¬ c < kChan (g 71 (278 + x)) := by rw [← q1]; exact hch
      have f1 := rG_find h (f := 3) (by omega) (by omega)
      have f2 : fGb b (x_up b 10 3 (xw (b 10 3 + 1))) := fun r hr => upR (by omega)
      have f3 : fGm g (x_up g 71 3775 (xw (g 71 3775 + 1))) := ⟨mS_up mS_rf, fun i hi => by simp (disch := omega) only [up_eq, up_r, up_i, fil_in, fil_i, fil_r]⟩
      obtain ⟨b2, g2, z1, z2, z3, z4, z5⟩ := go_members hp hq k (i + 1) M (x_up b 10 3 (xw (b 10 3 + 1))) (x_up g 71 3775 (xw (g 71 3775 + 1))) (by omega) hL f1 (by omega) (by omega) (fun j hj => w1 j hj) (fun j hj => w2 j hj) w3 (fun y hy => w4 y hy) ⟨j, hj, ej⟩
      refine ⟨b2, g2, rG_le z1 (by omega), fGb_tr f2 z2, fGm_tr f3 z3, fun Q K hK => ?_, fun Q K hK => ?_⟩
      · have z4 := z4 Q K hK
        rw [w_B_startEntry_h31_s]
        simp (disch := omega) only [x23, e_T, e_F, e_t, e_f, e_gd, e_bg0, e_bg1, e_nz, Int.toNat_natCast, Int.toNat_add, Int.toNat_mul, xw_al, xw_ar, xw_ml, xw_mr, xw_sl, xw_sr, xw_id, x_sl_c, mc3, mc6, mc8, mc12, mc64, mc72, Nat.add_assoc, Int.reduceToNat, L_isLine_t, L_isLine_f, R_has_t, R_has_f, R_isCh_t, R_isCh_f, V_isCurve_t, V_isCurve_f, Q_isCue_t, Q_isCue_f, Q_isList_t, Q_isList_f, B_isPb_t, B_isPb_f, m_in_t, m_in_f, m_isLine_t, m_isLine_f, m_isPb_t, m_isPb_f, m_isFx_t, m_isFx_f, F_note_e, m_finds_e, Int.reduceToNat, noted_neg, up_eq, up_r, up_i, fil_in, fil_i, fil_r]
        rw [R_chan_e (by omega), e_f (by omega), show (i : Int) + 1 = ((i + 1 : Nat) : Int) by omega]
        exact z4
      · have z5 := z5 Q K hK
        rw [w_m_goes_h100_s]
        simp (disch := omega) only [x74, sc, e_T, e_F, e_t, e_f, e_gd, e_bg0, e_bg1, e_nz, Int.toNat_natCast, Int.toNat_add, Int.toNat_mul, xw_al, xw_ar, xw_ml, xw_mr, xw_sl, xw_sr, xw_id, x_sl_c, mc3, mc6, mc8, mc12, mc64, mc72, Nat.add_assoc, Int.reduceToNat, L_isLine_t, L_isLine_f, R_has_t, R_has_f, R_isCh_t, R_isCh_f, V_isCurve_t, V_isCurve_f, Q_isCue_t, Q_isCue_f, Q_isList_t, Q_isList_f, B_isPb_t, B_isPb_f, m_in_t, m_in_f, m_isLine_t, m_isLine_f, m_isPb_t, m_isPb_f, m_isFx_t, m_isFx_f, F_note_e, m_finds_e, Int.reduceToNat, noted_neg, up_eq, up_r, up_i, fil_in, fil_i, fil_r]
        rw [m_chan_f (by omega) (by omega) (by omega) hc3 hch', e_t rfl, show (i : Int) + 1 = ((i + 1 : Nat) : Int) by omega]
        exact z5
set_option maxRecDepth 20000 in
theorem go_entries {n : Int} {p q : Nat} (hp : p < 4) (hq : q < 16) : ∀ (k i : Nat) (M : Int) (b g : xB), b 34 q = ((i + k : Nat) : Int) → rG M n b (g 71) → 0 ≤ M → M + 216 * k ≤ 900000000 → ∃ b' g', rG (M + 216 * k) n b' (g' 71) ∧ fGb b b' ∧ fGm g g' ∧ (∀ (Q : xB → Prop) (K : xB → Prop), K b' → w_B_startNext_h28 Q K (k + 1) b p q i) ∧ (∀ (Q : Int → xB → Prop) (K : xB → Int → Prop), K g' q → ∃ n, w_m_goes_h64 Q K n g p q ((q * 12 + i : Nat) : Int))
  | 0, i, M, b, g, hi, h, hM0, hM => by
    obtain ⟨t1, t2, t3, t4⟩ := h.2.2.2.2.2.1.1 q hq
    refine ⟨b, g, rG_le h (by omega), fGb_rf, fGm_rf, fun Q K hK => ?_, fun Q K hK => ?_⟩
    · rw [w_B_startNext_h28_s]
      simp (disch := omega) only [e_T, e_F, e_t, e_f, e_gd, e_bg0, e_bg1, e_nz, Int.toNat_natCast, Int.toNat_add, Int.toNat_mul, xw_al, xw_ar, xw_ml, xw_mr, xw_sl, xw_sr, xw_id, x_sl_c, mc3, mc6, mc8, mc12, mc64, mc72, Nat.add_assoc, Int.reduceToNat, L_isLine_t, L_isLine_f, R_has_t, R_has_f, R_isCh_t, R_isCh_f, V_isCurve_t, V_isCurve_f, Q_isCue_t, Q_isCue_f, Q_isList_t, Q_isList_f, B_isPb_t, B_isPb_f, m_in_t, m_in_f, m_isLine_t, m_isLine_f, m_isPb_t, m_isPb_f, m_isFx_t, m_isFx_f, F_note_e, m_finds_e, Int.reduceToNat, noted_neg, up_eq, up_r, up_i, fil_in, fil_i, fil_r]
      exact hK
    · refine ⟨0 + 1, ?_⟩
      rw [w_m_goes_h64_s]
      simp (disch := omega) only [e_T, e_F, e_t, e_f, e_gd, e_bg0, e_bg1, e_nz, Int.toNat_natCast, Int.toNat_add, Int.toNat_mul, xw_al, xw_ar, xw_ml, xw_mr, xw_sl, xw_sr, xw_id, x_sl_c, mc3, mc6, mc8, mc12, mc64, mc72, Nat.add_assoc, Int.reduceToNat, L_isLine_t, L_isLine_f, R_has_t, R_has_f, R_isCh_t, R_isCh_f, V_isCurve_t, V_isCurve_f, Q_isCue_t, Q_isCue_f, Q_isList_t, Q_isList_f, B_isPb_t, B_isPb_f, m_in_t, m_in_f, m_isLine_t, m_isLine_f, m_isPb_t, m_isPb_f, m_isFx_t, m_isFx_f, F_note_e, m_finds_e, Int.reduceToNat, noted_neg, up_eq, up_r, up_i, fil_in, fil_i, fil_r]
      exact hK
  | k + 1, i, M, b, g, hi, h, hM0, hM => by
    have hR := h.2.2.1
    obtain ⟨t1, t2, t3, t4⟩ := h.2.2.2.2.2.1.1 q hq
    obtain ⟨v1, v2, v3, v4, v5, v6, v7, v8, v9, v10, v11, v12⟩ := t4 i (by omega)
    obtain ⟨N, hN⟩ := nat_of hR.2.1
    obtain ⟨f, hf⟩ := nat_of v2
    have hfN : f < N := by omega
    have hI := rR_I hR hN
    have hE := rR_E hR hN
    obtain ⟨b1, c1, c2⟩ := R_collect_A hI hfN
    obtain ⟨g1, m1, m2⟩ := m_gather_i hI hE hfN
    have hl := mem_len hI 3 f hfN
    have hok := mem_ok hI 3 f hfN
    have h1 := rG_cst h c1 m1
    have fb1 : fGb b b1 := fun r hr => c1.1 r (by omega) (by omega)
    have fm1 : fGm g g1 := ⟨fun r a1 a2 a3 a4 a5 a6 a7 => m1.1 r a2 a3 a4 a6 a7, fun i hi => by rw [m1.1 71 (by omega) (by omega) (by omega) (by omega) (by omega)]⟩
    obtain ⟨b2, g2, z1, z2, z3, z4, z5⟩ := go_members (e := q * 12 + i) hp hq (mem b 3 f).length 0 M b1 g1 (by omega) (by omega) h1 hM0 (by omega) c1.2.2 m1.2.2.2 m1.2.2.1 (fun x hx => by
      rw [fb1 161 (by omega), fb1 17 (by omega), hN]
      have := hok x hx
      exact ⟨by omega, this.2⟩) ⟨i, by rw [fb1 34 (by omega)]; omega, rfl⟩
    obtain ⟨b3, g3, y1, y2, y3, y4, y5⟩ := go_entries hp hq k (i + 1) (M + 216) b2 g2 (by rw [z2 34 (by omega), fb1 34 (by omega), hi]; omega) (rG_le z1 (by omega)) (by omega) (by omega)
    refine ⟨b3, g3, rG_le y1 (by omega), fGb_tr fb1 (fGb_tr z2 y2), fGm_tr fm1 (fGm_tr z3 y3), fun Q K hK => ?_, fun Q K hK => ?_⟩
    · have y4 := y4 Q K hK
      rw [w_B_startNext_h28_s]
      simp (disch := omega) only [w_B_startEntry, e_T, e_F, e_t, e_f, e_gd, e_bg0, e_bg1, e_nz, Int.toNat_natCast, Int.toNat_add, Int.toNat_mul, xw_al, xw_ar, xw_ml, xw_mr, xw_sl, xw_sr, xw_id, x_sl_c, mc3, mc6, mc8, mc12, mc64, mc72, Nat.add_assoc, Int.reduceToNat, L_isLine_t, L_isLine_f, R_has_t, R_has_f, R_isCh_t, R_isCh_f, V_isCurve_t, V_isCurve_f, Q_isCue_t, Q_isCue_f, Q_isList_t, Q_isList_f, B_isPb_t, B_isPb_f, m_in_t, m_in_f, m_isLine_t, m_isLine_f, m_isPb_t, m_isPb_f, m_isFx_t, m_isFx_f, F_note_e, m_finds_e, Int.reduceToNat, noted_neg, up_eq, up_r, up_i, fil_in, fil_i, fil_r]
      rw [hf, show (q : Int) * 12 + i = ((q * 12 + i : Nat) : Int) by omega, show (i : Int) + 1 = ((i + 1 : Nat) : Int) by omega]
      refine c2 _ ⟨(mem b 3 f).length + 1, ?_⟩
      rw [← fb1 36 (by omega)]
      exact z4 _ _ y4
    · obtain ⟨m, y5⟩ := y5 Q K hK
      have ei : ((q * 12 + i : Nat) : Int) + 1 = ((q * 12 + (i + 1) : Nat) : Int) := by omega
      have sf : g 71 (890 + (q * 12 + i)) = (f : Int) := v1.symm.trans hf
      refine ⟨m + 1, ?_⟩
      rw [w_m_goes_h64_s]
      simp (disch := omega) only [sf, e_T, e_F, e_t, e_f, e_gd, e_bg0, e_bg1, e_nz, Int.toNat_natCast, Int.toNat_add, Int.toNat_mul, xw_al, xw_ar, xw_ml, xw_mr, xw_sl, xw_sr, xw_id, x_sl_c, mc3, mc6, mc8, mc12, mc64, mc72, Nat.add_assoc, Int.reduceToNat, L_isLine_t, L_isLine_f, R_has_t, R_has_f, R_isCh_t, R_isCh_f, V_isCurve_t, V_isCurve_f, Q_isCue_t, Q_isCue_f, Q_isList_t, Q_isList_f, B_isPb_t, B_isPb_f, m_in_t, m_in_f, m_isLine_t, m_isLine_f, m_isPb_t, m_isPb_f, m_isFx_t, m_isFx_f, F_note_e, m_finds_e, Int.reduceToNat, noted_neg, up_eq, up_r, up_i, fil_in, fil_i, fil_r]
      have h9 := m2 (fun g1 => ∃ n, w_m_goes_h100 Q (fun g8 v1_5 v2_6 v3_7 => w_m_goes_h64 Q K m g8 v1_5 v2_6 (xw (v3_7 + 1))) n g1 p q ((q * 12 + i : Nat) : Int) 0) ⟨(mem b 3 f).length + 1, z5 _ _ (by
        rw [xw_id (by omega) (by omega), ei]
        exact y5)⟩
      simp only [h9]
