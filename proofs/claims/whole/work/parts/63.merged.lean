/-! ===== a TICK: VALUES merged ===== -/
def dimV (k : Int) (c : Nat) : Int := if k = 3 ∨ (k = 2 ∧ c = 2) ∨ (k ≤ 1 ∧ c = 0) then 1 else 0
theorem dimV_01 (k : Int) (c : Nat) : dimV k c = 0 ∨ dimV k c = 1 := by
  unfold dimV
  split <;> omega
theorem dimV_top {k : Int} {c : Nat} (h : dimV k c = 1) (hk : 0 ≤ k) : kTop k c = 255 := by
  unfold dimV at h
  unfold kTop
  split at h
  · rw [if_neg (by omega)]
  · omega
theorem R_dim_e {b : xB} {f c : Nat} {Q : Int → xB → Prop} (hf : f < 24) (h0 : 0 ≤ b 17 f) (h3 : b 17 f ≤ 3) : w_R_isDimming b f c Q = Q (dimV (b 17 f) c) b := by
  unfold dimV
  by_cases e3 : b 17 f = 3
  · rw [if_pos (by omega)]
    simp (disch := omega) only [w_R_isDimming, e_T, e_F, e_t, e_f, e_gd, e_bg0, e_bg1, e_nz, Int.toNat_natCast, Int.toNat_add, Int.toNat_mul, xw_al, xw_ar, xw_ml, xw_mr, xw_sl, xw_sr, xw_id, x_sl_c, mc3, mc6, mc8, mc12, mc64, mc72, Nat.add_assoc, Int.reduceToNat, L_isLine_t, L_isLine_f, R_has_t, R_has_f, R_isCh_t, R_isCh_f, V_isCurve_t, V_isCurve_f, Q_isCue_t, Q_isCue_f, Q_isList_t, Q_isList_f, B_isPb_t, B_isPb_f, m_in_t, m_in_f, m_isLine_t, m_isLine_f, m_isPb_t, m_isPb_f, m_isFx_t, m_isFx_f, F_note_e, m_finds_e, Int.reduceToNat, noted_neg, up_eq, up_r, up_i, fil_in, fil_i, fil_r]
  · by_cases e2 : b 17 f = 2
    · by_cases ec : c = 2
      · rw [if_pos (by omega)]
        simp (disch := omega) only [w_R_isDimming, w_R_isDimming_j26, e_T, e_F, e_t, e_f, e_gd, e_bg0, e_bg1, e_nz, Int.toNat_natCast, Int.toNat_add, Int.toNat_mul, xw_al, xw_ar, xw_ml, xw_mr, xw_sl, xw_sr, xw_id, x_sl_c, mc3, mc6, mc8, mc12, mc64, mc72, Nat.add_assoc, Int.reduceToNat, L_isLine_t, L_isLine_f, R_has_t, R_has_f, R_isCh_t, R_isCh_f, V_isCurve_t, V_isCurve_f, Q_isCue_t, Q_isCue_f, Q_isList_t, Q_isList_f, B_isPb_t, B_isPb_f, m_in_t, m_in_f, m_isLine_t, m_isLine_f, m_isPb_t, m_isPb_f, m_isFx_t, m_isFx_f, F_note_e, m_finds_e, Int.reduceToNat, noted_neg, up_eq, up_r, up_i, fil_in, fil_i, fil_r]
      · rw [if_neg (by omega)]
        simp (disch := omega) only [w_R_isDimming, w_R_isDimming_j26, e_T, e_F, e_t, e_f, e_gd, e_bg0, e_bg1, e_nz, Int.toNat_natCast, Int.toNat_add, Int.toNat_mul, xw_al, xw_ar, xw_ml, xw_mr, xw_sl, xw_sr, xw_id, x_sl_c, mc3, mc6, mc8, mc12, mc64, mc72, Nat.add_assoc, Int.reduceToNat, L_isLine_t, L_isLine_f, R_has_t, R_has_f, R_isCh_t, R_isCh_f, V_isCurve_t, V_isCurve_f, Q_isCue_t, Q_isCue_f, Q_isList_t, Q_isList_f, B_isPb_t, B_isPb_f, m_in_t, m_in_f, m_isLine_t, m_isLine_f, m_isPb_t, m_isPb_f, m_isFx_t, m_isFx_f, F_note_e, m_finds_e, Int.reduceToNat, noted_neg, up_eq, up_r, up_i, fil_in, fil_i, fil_r]
    · by_cases ec : c = 0
      · rw [if_pos (by omega)]
        simp (disch := omega) only [w_R_isDimming, w_R_isDimming_j26, e_T, e_F, e_t, e_f, e_gd, e_bg0, e_bg1, e_nz, Int.toNat_natCast, Int.toNat_add, Int.toNat_mul, xw_al, xw_ar, xw_ml, xw_mr, xw_sl, xw_sr, xw_id, x_sl_c, mc3, mc6, mc8, mc12, mc64, mc72, Nat.add_assoc, Int.reduceToNat, L_isLine_t, L_isLine_f, R_has_t, R_has_f, R_isCh_t, R_isCh_f, V_isCurve_t, V_isCurve_f, Q_isCue_t, Q_isCue_f, Q_isList_t, Q_isList_f, B_isPb_t, B_isPb_f, m_in_t, m_in_f, m_isLine_t, m_isLine_f, m_isPb_t, m_isPb_f, m_isFx_t, m_isFx_f, F_note_e, m_finds_e, Int.reduceToNat, noted_neg, up_eq, up_r, up_i, fil_in, fil_i, fil_r]
      · rw [if_neg (by omega)]
        simp (disch := omega) only [w_R_isDimming, w_R_isDimming_j26, e_T, e_F, e_t, e_f, e_gd, e_bg0, e_bg1, e_nz, Int.toNat_natCast, Int.toNat_add, Int.toNat_mul, xw_al, xw_ar, xw_ml, xw_mr, xw_sl, xw_sr, xw_id, x_sl_c, mc3, mc6, mc8, mc12, mc64, mc72, Nat.add_assoc, Int.reduceToNat, L_isLine_t, L_isLine_f, R_has_t, R_has_f, R_isCh_t, R_isCh_f, V_isCurve_t, V_isCurve_f, Q_isCue_t, Q_isCue_f, Q_isList_t, Q_isList_f, B_isPb_t, B_isPb_f, m_in_t, m_in_f, m_isLine_t, m_isLine_f, m_isPb_t, m_isPb_f, m_isFx_t, m_isFx_f, F_note_e, m_finds_e, Int.reduceToNat, noted_neg, up_eq, up_r, up_i, fil_in, fil_i, fil_r]
theorem m_dim_e {g : xB} {f c : Nat} {Q : Int → xB → Prop} (hf : f < 24) (h0 : 0 ≤ g 71 (278 + f)) (h3 : g 71 (278 + f) ≤ 3) : w_m_isDimming g f c Q = Q (dimV (g 71 (278 + f)) c) g := by
  unfold dimV
  by_cases e1 : 1 < g 71 (278 + f)
  · by_cases e3 : g 71 (278 + f) = 3
    · rw [if_pos (by omega)]
      simp (disch := omega) only [w_m_isDimming, w_m_kindOf, e_T, e_F, e_t, e_f, e_gd, e_bg0, e_bg1, e_nz, Int.toNat_natCast, Int.toNat_add, Int.toNat_mul, xw_al, xw_ar, xw_ml, xw_mr, xw_sl, xw_sr, xw_id, x_sl_c, mc3, mc6, mc8, mc12, mc64, mc72, Nat.add_assoc, Int.reduceToNat, L_isLine_t, L_isLine_f, R_has_t, R_has_f, R_isCh_t, R_isCh_f, V_isCurve_t, V_isCurve_f, Q_isCue_t, Q_isCue_f, Q_isList_t, Q_isList_f, B_isPb_t, B_isPb_f, m_in_t, m_in_f, m_isLine_t, m_isLine_f, m_isPb_t, m_isPb_f, m_isFx_t, m_isFx_f, F_note_e, m_finds_e, Int.reduceToNat, noted_neg, up_eq, up_r, up_i, fil_in, fil_i, fil_r]
    · by_cases ec : c = 2
      · rw [if_pos (by omega)]
        simp (disch := omega) only [w_m_isDimming, w_m_kindOf, e_T, e_F, e_t, e_f, e_gd, e_bg0, e_bg1, e_nz, Int.toNat_natCast, Int.toNat_add, Int.toNat_mul, xw_al, xw_ar, xw_ml, xw_mr, xw_sl, xw_sr, xw_id, x_sl_c, mc3, mc6, mc8, mc12, mc64, mc72, Nat.add_assoc, Int.reduceToNat, L_isLine_t, L_isLine_f, R_has_t, R_has_f, R_isCh_t, R_isCh_f, V_isCurve_t, V_isCurve_f, Q_isCue_t, Q_isCue_f, Q_isList_t, Q_isList_f, B_isPb_t, B_isPb_f, m_in_t, m_in_f, m_isLine_t, m_isLine_f, m_isPb_t, m_isPb_f, m_isFx_t, m_isFx_f, F_note_e, m_finds_e, Int.reduceToNat, noted_neg, up_eq, up_r, up_i, fil_in, fil_i, fil_r]
      · rw [if_neg (by omega)]
        simp (disch := omega) only [w_m_isDimming, w_m_kindOf, e_T, e_F, e_t, e_f, e_gd, e_bg0, e_bg1, e_nz, Int.toNat_natCast, Int.toNat_add, Int.toNat_mul, xw_al, xw_ar, xw_ml, xw_mr, xw_sl, xw_sr, xw_id, x_sl_c, mc3, mc6, mc8, mc12, mc64, mc72, Nat.add_assoc, Int.reduceToNat, L_isLine_t, L_isLine_f, R_has_t, R_has_f, R_isCh_t, R_isCh_f, V_isCurve_t, V_isCurve_f, Q_isCue_t, Q_isCue_f, Q_isList_t, Q_isList_f, B_isPb_t, B_isPb_f, m_in_t, m_in_f, m_isLine_t, m_isLine_f, m_isPb_t, m_isPb_f, m_isFx_t, m_isFx_f, F_note_e, m_finds_e, Int.reduceToNat, noted_neg, up_eq, up_r, up_i, fil_in, fil_i, fil_r]
  · by_cases ec : c = 0
    · rw [if_pos (by omega)]
      simp (disch := omega) only [w_m_isDimming, w_m_kindOf, e_T, e_F, e_t, e_f, e_gd, e_bg0, e_bg1, e_nz, Int.toNat_natCast, Int.toNat_add, Int.toNat_mul, xw_al, xw_ar, xw_ml, xw_mr, xw_sl, xw_sr, xw_id, x_sl_c, mc3, mc6, mc8, mc12, mc64, mc72, Nat.add_assoc, Int.reduceToNat, L_isLine_t, L_isLine_f, R_has_t, R_has_f, R_isCh_t, R_isCh_f, V_isCurve_t, V_isCurve_f, Q_isCue_t, Q_isCue_f, Q_isList_t, Q_isList_f, B_isPb_t, B_isPb_f, m_in_t, m_in_f, m_isLine_t, m_isLine_f, m_isPb_t, m_isPb_f, m_isFx_t, m_isFx_f, F_note_e, m_finds_e, Int.reduceToNat, noted_neg, up_eq, up_r, up_i, fil_in, fil_i, fil_r]
    · rw [if_neg (by omega)]
      simp (disch := omega) only [w_m_isDimming, w_m_kindOf, e_T, e_F, e_t, e_f, e_gd, e_bg0, e_bg1, e_nz, Int.toNat_natCast, Int.toNat_add, Int.toNat_mul, xw_al, xw_ar, xw_ml, xw_mr, xw_sl, xw_sr, xw_id, x_sl_c, mc3, mc6, mc8, mc12, mc64, mc72, Nat.add_assoc, Int.reduceToNat, L_isLine_t, L_isLine_f, R_has_t, R_has_f, R_isCh_t, R_isCh_f, V_isCurve_t, V_isCurve_f, Q_isCue_t, Q_isCue_f, Q_isList_t, Q_isList_f, B_isPb_t, B_isPb_f, m_in_t, m_in_f, m_isLine_t, m_isLine_f, m_isPb_t, m_isPb_f, m_isFx_t, m_isFx_f, F_note_e, m_finds_e, Int.reduceToNat, noted_neg, up_eq, up_r, up_i, fil_in, fil_i, fil_r]
theorem J_max_e {x y : Int} {q : Int → Prop} : w_J_max x y q = q (if x < y then y else x) := by
  unfold w_J_max
  by_cases h : x < y
  · rw [e_t h, if_pos h]
  · rw [e_f h, if_neg h]
theorem pct {x y : Int} (h0 : 0 ≤ x) (h1 : x ≤ 65535) (h2 : 0 ≤ y) (h3 : y ≤ 100) : 0 ≤ x * y ∧ x * y ≤ 6553500 ∧ 0 ≤ (x * y).tdiv 100 ∧ (x * y).tdiv 100 ≤ x := by
  have a1 : 0 ≤ x * y := Int.mul_nonneg h0 h2
  have a2 : x * y ≤ x * 100 := Int.mul_le_mul_of_nonneg_left h3 h0
  rw [Int.tdiv_eq_ediv_of_nonneg a1]
  omega
def mgV (b : xB) (ch : Nat) (dm : Int) (p : Nat) : Int := if dm = 0 then b 47 (p * 72 + ch) else (b 47 (p * 72 + ch) * b 282 p).tdiv 100
def mgF (b : xB) (ch : Nat) (dm : Int) : Nat → Nat → Int → Int → Int → Int × Int
  | 0, _, gr, la, _ => (gr, la)
  | k + 1, p, gr, la, lb => if b 48 (p * 72 + ch) = 0 then mgF b ch dm k (p + 1) gr la lb else mgF b ch dm k (p + 1) (if gr < mgV b ch dm p then mgV b ch dm p else gr) (if lb < b 48 (p * 72 + ch) then mgV b ch dm p else la) (if lb < b 48 (p * 72 + ch) then b 48 (p * 72 + ch) else lb)
theorem mgF_c {b b' : xB} {ch : Nat} {dm : Int} (e47 : b' 47 = b 47) (e48 : b' 48 = b 48) (e282 : b' 282 = b 282) : ∀ k p gr la lb, mgF b' ch dm k p gr la lb = mgF b ch dm k p gr la lb
  | 0, _, _, _, _ => rfl
  | k + 1, p, gr, la, lb => by
    have ev : mgV b' ch dm p = mgV b ch dm p := by
      unfold mgV
      rw [e47, e282]
    show (if b' 48 (p * 72 + ch) = 0 then mgF b' ch dm k (p + 1) gr la lb else mgF b' ch dm k (p + 1) (if gr < mgV b' ch dm p then mgV b' ch dm p else gr) (if lb < b' 48 (p * 72 + ch) then mgV b' ch dm p else la) (if lb < b' 48 (p * 72 + ch) then b' 48 (p * 72 + ch) else lb)) = _
    rw [e48, ev, mgF_c e47 e48 e282 k, mgF_c e47 e48 e282 k]
    rfl
theorem merged_k {b g : xB} {f c : Nat} {dm BL : Int} (hf : f < 24) (hc : c < 3) (hC : ∀ p, p < 4 → rC b (g 71) p) (hS : ∀ p, p < 4 → b 282 p = g 71 (1734 + p) ∧ 0 ≤ b 282 p ∧ b 282 p ≤ 100) (h0 : 0 ≤ b 17 f) (h3 : b 17 f ≤ 3) (hk : b 17 f = g 71 (278 + f)) (hd : dm = dimV (b 17 f) c) (hBL : BL = 0 ∨ BL = 1) : ∀ (k p : Nat), p + k = 4 → ∀ gr la lb best lt : Int, 0 ≤ gr → gr ≤ kTop (b 17 f) c → 0 ≤ la → la ≤ kTop (b 17 f) c → (BL = 0 → best = gr) → (BL = 1 → best = la ∧ lt = lb) → ∃ gr' la' rr : Int, (gr', la') = mgF b (f * 3 + c) dm k p gr la lb ∧ 0 ≤ rr ∧ rr ≤ kTop (b 17 f) c ∧ (BL = 0 → rr = gr') ∧ (BL = 1 → rr = la') ∧ (∀ (Q : Int → xB → Prop) (K : xB → Int → Int → Int → Prop), K b ((f * 3 + c : Nat) : Int) gr' la' → w_X_merged_h11 Q K (k + 1) b ((f * 3 + c : Nat) : Int) dm gr la lb p) ∧ (∀ (Q : Int → xB → Prop) (K : xB → Int → Prop), K g rr → w_m_mergedValue_h33 Q K (k + 1) g f c best lt BL p)
  | 0, p, hp, gr, la, lb, best, lt, g0, g1, l0, l1, r0, r1 => by
    refine ⟨gr, la, best, rfl, ?_, ?_, r0, fun z => (r1 z).1, fun Q K hK => ?_, fun Q K hK => ?_⟩
    · rcases hBL with z | z
      · have := r0 z
        omega
      · have := (r1 z).1
        omega
    · rcases hBL with z | z
      · have := r0 z
        omega
      · have := (r1 z).1
        omega
    · rw [w_X_merged_h11_s]
      simp (disch := omega) only [e_T, e_F, e_t, e_f, e_gd, e_bg0, e_bg1, e_nz, Int.toNat_natCast, Int.toNat_add, Int.toNat_mul, xw_al, xw_ar, xw_ml, xw_mr, xw_sl, xw_sr, xw_id, x_sl_c, mc3, mc6, mc8, mc12, mc64, mc72, Nat.add_assoc, Int.reduceToNat, L_isLine_t, L_isLine_f, R_has_t, R_has_f, R_isCh_t, R_isCh_f, V_isCurve_t, V_isCurve_f, Q_isCue_t, Q_isCue_f, Q_isList_t, Q_isList_f, B_isPb_t, B_isPb_f, m_in_t, m_in_f, m_isLine_t, m_isLine_f, m_isPb_t, m_isPb_f, m_isFx_t, m_isFx_f, F_note_e, m_finds_e, Int.reduceToNat, noted_neg, up_eq, up_r, up_i, fil_in, fil_i, fil_r]
      exact hK
    · rw [w_m_mergedValue_h33_s]
      simp (disch := omega) only [e_T, e_F, e_t, e_f, e_gd, e_bg0, e_bg1, e_nz, Int.toNat_natCast, Int.toNat_add, Int.toNat_mul, xw_al, xw_ar, xw_ml, xw_mr, xw_sl, xw_sr, xw_id, x_sl_c, mc3, mc6, mc8, mc12, mc64, mc72, Nat.add_assoc, Int.reduceToNat, L_isLine_t, L_isLine_f, R_has_t, R_has_f, R_isCh_t, R_isCh_f, V_isCurve_t, V_isCurve_f, Q_isCue_t, Q_isCue_f, Q_isList_t, Q_isList_f, B_isPb_t, B_isPb_f, m_in_t, m_in_f, m_isLine_t, m_isLine_f, m_isPb_t, m_isPb_f, m_isFx_t, m_isFx_f, F_note_e, m_finds_e, Int.reduceToNat, noted_neg, up_eq, up_r, up_i, fil_in, fil_i, fil_r]
      exact hK
  | k + 1, p, hp, gr, la, lb, best, lt, g0, g1, l0, l1, r0, r1 => by
    have ep : (p : Int) + 1 = ((p + 1 : Nat) : Int) := by omega
    have kt := kTop_le (b 17 f) c
    have old := hC p (by omega) f hf c hc
    obtain ⟨s1, s2, s3⟩ := hS p (by omega)
    rcases old with ⟨o0, o1, o2, o3, o4, o5, o6, o7, o8, o9⟩ | ⟨o1, o2, o3, o4, o5⟩
    · obtain ⟨v, hv, hv0, hv1⟩ : ∃ v : Int, v = (if dm = 0 then b 47 (p * 72 + (f * 3 + c)) else (b 47 (p * 72 + (f * 3 + c)) * b 282 p).tdiv 100) ∧ 0 ≤ v ∧ v ≤ kTop (b 17 f) c := by
        have := pct o6 (by omega) s2 s3
        refine ⟨_, rfl, ?_, ?_⟩
        · split <;> omega
        · split <;> omega
      have pc := pct o6 (by omega) s2 s3
      have pcm := pc
      rw [o5, s1] at pcm
      have step : ∃ (gr2 la2 lb2 best2 lt2 : Int), mgF b (f * 3 + c) dm (k + 1) p gr la lb = mgF b (f * 3 + c) dm k (p + 1) gr2 la2 lb2 ∧ 0 ≤ gr2 ∧ gr2 ≤ kTop (b 17 f) c ∧ 0 ≤ la2 ∧ la2 ≤ kTop (b 17 f) c ∧ (BL = 0 → best2 = gr2) ∧ (BL = 1 → best2 = la2 ∧ lt2 = lb2) ∧ (∀ (Q : Int → xB → Prop) (K : xB → Int → Int → Int → Prop), w_X_merged_h11 Q K (k + 1) b ((f * 3 + c : Nat) : Int) dm gr2 la2 lb2 ((p + 1 : Nat) : Int) → w_X_merged_h11 Q K (k + 1 + 1) b ((f * 3 + c : Nat) : Int) dm gr la lb p) ∧ (∀ (Q : Int → xB → Prop) (K : xB → Int → Prop), w_m_mergedValue_h33 Q K (k + 1) g f c best2 lt2 BL ((p + 1 : Nat) : Int) → w_m_mergedValue_h33 Q K (k + 1 + 1) g f c best lt BL p) := by
        refine ⟨if gr < v then v else gr, if lb < b 48 (p * 72 + (f * 3 + c)) then v else la, if lb < b 48 (p * 72 + (f * 3 + c)) then b 48 (p * 72 + (f * 3 + c)) else lb, if BL = 0 then (if best < v then v else best) else (if lt < b 48 (p * 72 + (f * 3 + c)) then v else best), if BL = 0 then (if best < v then b 48 (p * 72 + (f * 3 + c)) else lt) else (if lt < b 48 (p * 72 + (f * 3 + c)) then b 48 (p * 72 + (f * 3 + c)) else lt), ?_, ?_, ?_, ?_, ?_, ?_, ?_, ?_, ?_⟩
        · have ev : mgV b (f * 3 + c) dm p = v := hv.symm
          show (if b 48 (p * 72 + (f * 3 + c)) = 0 then _ else _) = _
          rw [if_neg (by omega), ev]
        · split <;> omega
        · split <;> omega
        · split <;> omega
        · split <;> omega
        · intro z
          rw [if_pos z, r0 z]
        · intro z
          have := r1 z
          rw [if_neg (c := BL = 0) (by omega), if_neg (c := BL = 0) (by omega), this.1, this.2]
          exact ⟨rfl, rfl⟩
        · intro Q K hK
          rw [w_X_merged_h11_s]
          rcases dimV_01 (b 17 f) c with z | z
          · rw [hd, z, if_pos rfl] at hv
            subst hv
            by_cases hlb : lb < b 48 (p * 72 + (f * 3 + c))
            · rw [if_pos hlb, if_pos hlb] at hK
              simp (disch := omega) only [w_X_merged_j69, J_max_e, e_T, e_F, e_t, e_f, e_gd, e_bg0, e_bg1, e_nz, Int.toNat_natCast, Int.toNat_add, Int.toNat_mul, xw_al, xw_ar, xw_ml, xw_mr, xw_sl, xw_sr, xw_id, x_sl_c, mc3, mc6, mc8, mc12, mc64, mc72, Nat.add_assoc, Int.reduceToNat, L_isLine_t, L_isLine_f, R_has_t, R_has_f, R_isCh_t, R_isCh_f, V_isCurve_t, V_isCurve_f, Q_isCue_t, Q_isCue_f, Q_isList_t, Q_isList_f, B_isPb_t, B_isPb_f, m_in_t, m_in_f, m_isLine_t, m_isLine_f, m_isPb_t, m_isPb_f, m_isFx_t, m_isFx_f, F_note_e, m_finds_e, Int.reduceToNat, noted_neg, up_eq, up_r, up_i, fil_in, fil_i, fil_r]
              rw [ep]
              exact hK
            · rw [if_neg hlb, if_neg hlb] at hK
              simp (disch := omega) only [w_X_merged_j69, J_max_e, e_T, e_F, e_t, e_f, e_gd, e_bg0, e_bg1, e_nz, Int.toNat_natCast, Int.toNat_add, Int.toNat_mul, xw_al, xw_ar, xw_ml, xw_mr, xw_sl, xw_sr, xw_id, x_sl_c, mc3, mc6, mc8, mc12, mc64, mc72, Nat.add_assoc, Int.reduceToNat, L_isLine_t, L_isLine_f, R_has_t, R_has_f, R_isCh_t, R_isCh_f, V_isCurve_t, V_isCurve_f, Q_isCue_t, Q_isCue_f, Q_isList_t, Q_isList_f, B_isPb_t, B_isPb_f, m_in_t, m_in_f, m_isLine_t, m_isLine_f, m_isPb_t, m_isPb_f, m_isFx_t, m_isFx_f, F_note_e, m_finds_e, Int.reduceToNat, noted_neg, up_eq, up_r, up_i, fil_in, fil_i, fil_r]
              rw [ep]
              exact hK
          · rw [hd, z, if_neg (by decide)] at hv
            subst hv
            by_cases hlb : lb < b 48 (p * 72 + (f * 3 + c))
            · rw [if_pos hlb, if_pos hlb] at hK
              simp (disch := omega) only [w_X_merged_j69, J_max_e, e_T, e_F, e_t, e_f, e_gd, e_bg0, e_bg1, e_nz, Int.toNat_natCast, Int.toNat_add, Int.toNat_mul, xw_al, xw_ar, xw_ml, xw_mr, xw_sl, xw_sr, xw_id, x_sl_c, mc3, mc6, mc8, mc12, mc64, mc72, Nat.add_assoc, Int.reduceToNat, L_isLine_t, L_isLine_f, R_has_t, R_has_f, R_isCh_t, R_isCh_f, V_isCurve_t, V_isCurve_f, Q_isCue_t, Q_isCue_f, Q_isList_t, Q_isList_f, B_isPb_t, B_isPb_f, m_in_t, m_in_f, m_isLine_t, m_isLine_f, m_isPb_t, m_isPb_f, m_isFx_t, m_isFx_f, F_note_e, m_finds_e, Int.reduceToNat, noted_neg, up_eq, up_r, up_i, fil_in, fil_i, fil_r]
              rw [ep]
              exact hK
            · rw [if_neg hlb, if_neg hlb] at hK
              simp (disch := omega) only [w_X_merged_j69, J_max_e, e_T, e_F, e_t, e_f, e_gd, e_bg0, e_bg1, e_nz, Int.toNat_natCast, Int.toNat_add, Int.toNat_mul, xw_al, xw_ar, xw_ml, xw_mr, xw_sl, xw_sr, xw_id, x_sl_c, mc3, mc6, mc8, mc12, mc64, mc72, Nat.add_assoc, Int.reduceToNat, L_isLine_t, L_isLine_f, R_has_t, R_has_f, R_isCh_t, R_isCh_f, V_isCurve_t, V_isCurve_f, Q_isCue_t, Q_isCue_f, Q_isList_t, Q_isList_f, B_isPb_t, B_isPb_f, m_in_t, m_in_f, m_isLine_t, m_isLine_f, m_isPb_t, m_isPb_f, m_isFx_t, m_isFx_f, F_note_e, m_finds_e, Int.reduceToNat, noted_neg, up_eq, up_r, up_i, fil_in, fil_i, fil_r]
              rw [ep]
              exact hK
        · intro Q K hK
          have tl : ∀ v' : Int, v' = v → w_m_mergedValue_j116 Q (w_m_mergedValue_h33 Q K (k + 1)) g f c best lt BL p ((p * 72 + (f * 3 + c) : Nat) : Int) v' = True := by
            intro v' e
            subst e
            refine eq_true ?_
            rcases hBL with z | z
            · rw [if_pos z, if_pos z] at hK
              by_cases hb : best < v'
              · rw [if_pos hb, if_pos hb] at hK
                simp (disch := omega) only [w_m_mergedValue_j116, w_m_mergedValue_j158, w_m_mergedValue_j171, w_m_mergedValue_j193, ← o4, e_T, e_F, e_t, e_f, e_gd, e_bg0, e_bg1, e_nz, Int.toNat_natCast, Int.toNat_add, Int.toNat_mul, xw_al, xw_ar, xw_ml, xw_mr, xw_sl, xw_sr, xw_id, x_sl_c, mc3, mc6, mc8, mc12, mc64, mc72, Nat.add_assoc, Int.reduceToNat, L_isLine_t, L_isLine_f, R_has_t, R_has_f, R_isCh_t, R_isCh_f, V_isCurve_t, V_isCurve_f, Q_isCue_t, Q_isCue_f, Q_isList_t, Q_isList_f, B_isPb_t, B_isPb_f, m_in_t, m_in_f, m_isLine_t, m_isLine_f, m_isPb_t, m_isPb_f, m_isFx_t, m_isFx_f, F_note_e, m_finds_e, Int.reduceToNat, noted_neg, up_eq, up_r, up_i, fil_in, fil_i, fil_r]
                rw [ep]
                exact hK
              · rw [if_neg hb, if_neg hb] at hK
                simp (disch := omega) only [w_m_mergedValue_j116, w_m_mergedValue_j158, w_m_mergedValue_j171, w_m_mergedValue_j193, e_T, e_F, e_t, e_f, e_gd, e_bg0, e_bg1, e_nz, Int.toNat_natCast, Int.toNat_add, Int.toNat_mul, xw_al, xw_ar, xw_ml, xw_mr, xw_sl, xw_sr, xw_id, x_sl_c, mc3, mc6, mc8, mc12, mc64, mc72, Nat.add_assoc, Int.reduceToNat, L_isLine_t, L_isLine_f, R_has_t, R_has_f, R_isCh_t, R_isCh_f, V_isCurve_t, V_isCurve_f, Q_isCue_t, Q_isCue_f, Q_isList_t, Q_isList_f, B_isPb_t, B_isPb_f, m_in_t, m_in_f, m_isLine_t, m_isLine_f, m_isPb_t, m_isPb_f, m_isFx_t, m_isFx_f, F_note_e, m_finds_e, Int.reduceToNat, noted_neg, up_eq, up_r, up_i, fil_in, fil_i, fil_r]
                rw [ep]
                exact hK
            · rw [if_neg (c := BL = 0) (by omega), if_neg (c := BL = 0) (by omega)] at hK
              by_cases hb : lt < b 48 (p * 72 + (f * 3 + c))
              · rw [if_pos hb, if_pos hb] at hK
                simp (disch := omega) only [w_m_mergedValue_j116, w_m_mergedValue_j158, w_m_mergedValue_j171, w_m_mergedValue_j193, ← o4, e_T, e_F, e_t, e_f, e_gd, e_bg0, e_bg1, e_nz, Int.toNat_natCast, Int.toNat_add, Int.toNat_mul, xw_al, xw_ar, xw_ml, xw_mr, xw_sl, xw_sr, xw_id, x_sl_c, mc3, mc6, mc8, mc12, mc64, mc72, Nat.add_assoc, Int.reduceToNat, L_isLine_t, L_isLine_f, R_has_t, R_has_f, R_isCh_t, R_isCh_f, V_isCurve_t, V_isCurve_f, Q_isCue_t, Q_isCue_f, Q_isList_t, Q_isList_f, B_isPb_t, B_isPb_f, m_in_t, m_in_f, m_isLine_t, m_isLine_f, m_isPb_t, m_isPb_f, m_isFx_t, m_isFx_f, F_note_e, m_finds_e, Int.reduceToNat, noted_neg, up_eq, up_r, up_i, fil_in, fil_i, fil_r]
                rw [ep]
                exact hK
              · rw [if_neg hb, if_neg hb] at hK
                simp (disch := omega) only [w_m_mergedValue_j116, w_m_mergedValue_j158, w_m_mergedValue_j171, w_m_mergedValue_j193, e_T, e_F, e_t, e_f, e_gd, e_bg0, e_bg1, e_nz, Int.toNat_natCast, Int.toNat_add, Int.toNat_mul, xw_al, xw_ar, xw_ml, xw_mr, xw_sl, xw_sr, xw_id, x_sl_c, mc3, mc6, mc8, mc12, mc64, mc72, Nat.add_assoc, Int.reduceToNat, L_isLine_t, L_isLine_f, R_has_t, R_has_f, R_isCh_t, R_isCh_f, V_isCurve_t, V_isCurve_f, Q_isCue_t, Q_isCue_f, Q_isList_t, Q_isList_f, B_isPb_t, B_isPb_f, m_in_t, m_in_f, m_isLine_t, m_isLine_f, m_isPb_t, m_isPb_f, m_isFx_t, m_isFx_f, F_note_e, m_finds_e, Int.reduceToNat, noted_neg, up_eq, up_r, up_i, fil_in, fil_i, fil_r]
                rw [ep]
                exact hK
          have ek : (72 : Int) * p + 3 * f + c = ((p * 72 + (f * 3 + c) : Nat) : Int) := by omega
          have e9 : dimV (g 71 (278 + f)) c = dm := by rw [← hk, hd]
          rw [w_m_mergedValue_h33_s]
          have dm01 := dimV_01 (b 17 f) c
          rw [← hd] at dm01
          rcases dm01 with z | z
          · rw [z, if_pos rfl] at hv
            simp (disch := omega) only [m_dim_e, e9, ek, tl _ (o5.symm.trans hv.symm), e_T, e_F, e_t, e_f, e_gd, e_bg0, e_bg1, e_nz, Int.toNat_natCast, Int.toNat_add, Int.toNat_mul, xw_al, xw_ar, xw_ml, xw_mr, xw_sl, xw_sr, xw_id, x_sl_c, mc3, mc6, mc8, mc12, mc64, mc72, Nat.add_assoc, Int.reduceToNat, L_isLine_t, L_isLine_f, R_has_t, R_has_f, R_isCh_t, R_isCh_f, V_isCurve_t, V_isCurve_f, Q_isCue_t, Q_isCue_f, Q_isList_t, Q_isList_f, B_isPb_t, B_isPb_f, m_in_t, m_in_f, m_isLine_t, m_isLine_f, m_isPb_t, m_isPb_f, m_isFx_t, m_isFx_f, F_note_e, m_finds_e, Int.reduceToNat, noted_neg, up_eq, up_r, up_i, fil_in, fil_i, fil_r]
          · rw [z, if_neg (by decide)] at hv
            simp (disch := omega) only [m_dim_e, e9, ek, tl _ (by rw [hv, o5, s1]), e_T, e_F, e_t, e_f, e_gd, e_bg0, e_bg1, e_nz, Int.toNat_natCast, Int.toNat_add, Int.toNat_mul, xw_al, xw_ar, xw_ml, xw_mr, xw_sl, xw_sr, xw_id, x_sl_c, mc3, mc6, mc8, mc12, mc64, mc72, Nat.add_assoc, Int.reduceToNat, L_isLine_t, L_isLine_f, R_has_t, R_has_f, R_isCh_t, R_isCh_f, V_isCurve_t, V_isCurve_f, Q_isCue_t, Q_isCue_f, Q_isList_t, Q_isList_f, B_isPb_t, B_isPb_f, m_in_t, m_in_f, m_isLine_t, m_isLine_f, m_isPb_t, m_isPb_f, m_isFx_t, m_isFx_f, F_note_e, m_finds_e, Int.reduceToNat, noted_neg, up_eq, up_r, up_i, fil_in, fil_i, fil_r]
      obtain ⟨gr2, la2, lb2, best2, lt2, t0, t1, t2, t3, t4, t5, t6, t7, t8⟩ := step
      obtain ⟨gr', la', rr, z0, z1, z2, z3, z4, z5, z6⟩ := merged_k hf hc hC hS h0 h3 hk hd hBL k (p + 1) (by omega) gr2 la2 lb2 best2 lt2 t1 t2 t3 t4 t5 t6
      exact ⟨gr', la', rr, z0.trans t0.symm, z1, z2, z3, z4, fun Q K hK => t7 Q K (z5 Q K hK), fun Q K hK => t8 Q K (z6 Q K hK)⟩
    · obtain ⟨gr', la', rr, z0, z1, z2, z3, z4, z5, z6⟩ := merged_k hf hc hC hS h0 h3 hk hd hBL k (p + 1) (by omega) gr la lb best lt g0 g1 l0 l1 r0 r1
      refine ⟨gr', la', rr, z0.trans (by show _ = (if b 48 (p * 72 + (f * 3 + c)) = 0 then _ else _); rw [if_pos o1]), z1, z2, z3, z4, fun Q K hK => ?_, fun Q K hK => ?_⟩
      · have z5 := z5 Q K hK
        rw [w_X_merged_h11_s]
        simp (disch := omega) only [e_T, e_F, e_t, e_f, e_gd, e_bg0, e_bg1, e_nz, Int.toNat_natCast, Int.toNat_add, Int.toNat_mul, xw_al, xw_ar, xw_ml, xw_mr, xw_sl, xw_sr, xw_id, x_sl_c, mc3, mc6, mc8, mc12, mc64, mc72, Nat.add_assoc, Int.reduceToNat, L_isLine_t, L_isLine_f, R_has_t, R_has_f, R_isCh_t, R_isCh_f, V_isCurve_t, V_isCurve_f, Q_isCue_t, Q_isCue_f, Q_isList_t, Q_isList_f, B_isPb_t, B_isPb_f, m_in_t, m_in_f, m_isLine_t, m_isLine_f, m_isPb_t, m_isPb_f, m_isFx_t, m_isFx_f, F_note_e, m_finds_e, Int.reduceToNat, noted_neg, up_eq, up_r, up_i, fil_in, fil_i, fil_r]
        rw [ep]
        exact z5
      · have z6 := z6 Q K hK
        rw [w_m_mergedValue_h33_s]
        simp (disch := omega) only [e_T, e_F, e_t, e_f, e_gd, e_bg0, e_bg1, e_nz, Int.toNat_natCast, Int.toNat_add, Int.toNat_mul, xw_al, xw_ar, xw_ml, xw_mr, xw_sl, xw_sr, xw_id, x_sl_c, mc3, mc6, mc8, mc12, mc64, mc72, Nat.add_assoc, Int.reduceToNat, L_isLine_t, L_isLine_f, R_has_t, R_has_f, R_isCh_t, R_isCh_f, V_isCurve_t, V_isCurve_f, Q_isCue_t, Q_isCue_f, Q_isList_t, Q_isList_f, B_isPb_t, B_isPb_f, m_in_t, m_in_f, m_isLine_t, m_isLine_f, m_isPb_t, m_isPb_f, m_isFx_t, m_isFx_f, F_note_e, m_finds_e, Int.reduceToNat, noted_neg, up_eq, up_r, up_i, fil_in, fil_i, fil_r]
        rw [ep]
        exact z6
def mgR (b : xB) (f c : Nat) : Int := if b 44 (f * 3 + c) = 0 then (mgF b (f * 3 + c) (dimV (b 17 f) c) 4 0 0 0 0).1 else (mgF b (f * 3 + c) (dimV (b 17 f) c) 4 0 0 0 0).2
theorem merged_A {b g : xB} {f c : Nat} (hf : f < 24) (hc : c < 3) (hC : ∀ p, p < 4 → rC b (g 71) p) (hS : ∀ p, p < 4 → b 282 p = g 71 (1734 + p) ∧ 0 ≤ b 282 p ∧ b 282 p ≤ 100) (h0 : 0 ≤ b 17 f) (h3 : b 17 f ≤ 3) (hk : b 17 f = g 71 (278 + f)) (h44 : b 44 (f * 3 + c) = g 71 (734 + (f * 3 + c))) (h44' : b 44 (f * 3 + c) = 0 ∨ b 44 (f * 3 + c) = 1) : ∃ r : Int, r = mgR b f c ∧ 0 ≤ r ∧ r ≤ kTop (b 17 f) c ∧ (∀ Q : Int → xB → Prop, Q r b → w_X_merged b ((f * 3 + c : Nat) : Int) (dimV (b 17 f) c) Q) ∧ (∀ Q : Int → xB → Prop, Q r g → w_m_mergedValue g f c Q = True) := by
  have kt : 0 ≤ kTop (b 17 f) c := by
    unfold kTop
    split <;> omega
  obtain ⟨gr', la', rr, z0, z1, z2, z3, z4, z5, z6⟩ := merged_k hf hc hC hS h0 h3 hk rfl h44' 4 0 (by omega) 0 0 0 0 0 (by omega) kt (by omega) kt (fun _ => rfl) (fun _ => ⟨rfl, rfl⟩)
  have er : rr = mgR b f c := by
    unfold mgR
    rw [← z0]
    rcases h44' with z | z
    · rw [if_pos z]
      exact z3 z
    · rw [if_neg (by omega)]
      exact z4 z
  refine ⟨rr, er, z1, z2, fun Q hQ => ⟨4 + 1, z5 Q _ ?_⟩, fun Q hQ => eq_true ?_⟩
  · rcases h44' with z | z
    · rw [z3 z] at hQ
      simp (disch := omega) only [e_T, e_F, e_t, e_f, e_gd, e_bg0, e_bg1, e_nz, Int.toNat_natCast, Int.toNat_add, Int.toNat_mul, xw_al, xw_ar, xw_ml, xw_mr, xw_sl, xw_sr, xw_id, x_sl_c, mc3, mc6, mc8, mc12, mc64, mc72, Nat.add_assoc, Int.reduceToNat, L_isLine_t, L_isLine_f, R_has_t, R_has_f, R_isCh_t, R_isCh_f, V_isCurve_t, V_isCurve_f, Q_isCue_t, Q_isCue_f, Q_isList_t, Q_isList_f, B_isPb_t, B_isPb_f, m_in_t, m_in_f, m_isLine_t, m_isLine_f, m_isPb_t, m_isPb_f, m_isFx_t, m_isFx_f, F_note_e, m_finds_e, Int.reduceToNat, noted_neg, up_eq, up_r, up_i, fil_in, fil_i, fil_r]
      exact hQ
    · rw [z4 z] at hQ
      simp (disch := omega) only [e_T, e_F, e_t, e_f, e_gd, e_bg0, e_bg1, e_nz, Int.toNat_natCast, Int.toNat_add, Int.toNat_mul, xw_al, xw_ar, xw_ml, xw_mr, xw_sl, xw_sr, xw_id, x_sl_c, mc3, mc6, mc8, mc12, mc64, mc72, Nat.add_assoc, Int.reduceToNat, L_isLine_t, L_isLine_f, R_has_t, R_has_f, R_isCh_t, R_isCh_f, V_isCurve_t, V_isCurve_f, Q_isCue_t, Q_isCue_f, Q_isList_t, Q_isList_f, B_isPb_t, B_isPb_f, m_in_t, m_in_f, m_isLine_t, m_isLine_f, m_isPb_t, m_isPb_f, m_isFx_t, m_isFx_f, F_note_e, m_finds_e, Int.reduceToNat, noted_neg, up_eq, up_r, up_i, fil_in, fil_i, fil_r]
      exact hQ
  · have z6 := z6 Q (fun g4 v3 => Q v3 g4) hQ
    unfold w_m_mergedValue
    rw [show xw (xw (734 + xw (3 * (f : Int))) + (c : Int)) = ((734 + (f * 3 + c) : Nat) : Int) from (by rw [xw_ar, xw_al]; exact (xw_id (by omega) (by omega)).trans (by omega)), Int.toNat_natCast, e_gd (by omega) (by omega), ← h44]
    rcases h44' with z | z
    · rw [z] at z6 ⊢
      rw [e_f (by decide)]
      exact ⟨4 + 1, z6⟩
    · rw [z] at z6 ⊢
      rw [e_t rfl]
      exact ⟨4 + 1, z6⟩
