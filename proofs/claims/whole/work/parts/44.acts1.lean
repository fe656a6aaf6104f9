/-! ===== acts on both sides: frame ===== -/
/-- the model's memory beside its array stays, but for what is scratch -/
def mS (g g' : xB) : Prop := ∀ r, r ≠ 71 → r ≠ 74 → r ≠ 75 → r ≠ 76 → r ≠ 78 → r ≠ 1506 → r ≠ 1507 → g' r = g r
theorem mS_up {g g' : xB} {i : Nat} {v : Int} (h : mS g g') : mS g (x_up g' 71 i v) := fun r a b c d e f i => (upR a).trans (h r a b c d e f i)
theorem mS_fil {g g' : xB} {i n : Nat} {v : Int} (h : mS g g') : mS g (x_fil g' 71 i n v) := fun r a b c d e f i => (filR a).trans (h r a b c d e f i)
theorem mS_rf {g : xB} : mS g g := fun _ _ _ _ _ _ _ _ => rfl
theorem mS_tr {g g' g'' : xB} (h : mS g g') (h' : mS g' g'') : mS g g'' := fun r a b c d e f i => (h' r a b c d e f i).trans (h r a b c d e f i)
/-- what an act leaves -/
def pO (n : Nat) (b g b' g' : xB) : Prop := rB (n + 1) b' (g' 71) ∧ mS g g' ∧ b' 172 = b 172 ∧ b' 24 = b 24
/-- an act on both sides -/
def aC (n : Nat) (b g : xB) (w m : (Int → xB → Prop) → Prop) (c a1 a2 a3 a4 a5 : Int) : Prop :=
  ∃ r b' g', (∀ Q, Q r b' → w Q) ∧ (∀ Q, w_m_noted g' r c a1 a2 a3 a4 a5 Q → m Q) ∧ pO n b g b' g' ∧ b' 108 = b 108
theorem rB_le {n m : Nat} {b : xB} {s : Nat → Int} (hm : n ≤ m) (h : rB n b s) : rB m b s := by
  obtain ⟨hF, hL, hR, hP, hV, hQ, hY, hE, hX, hT, hW⟩ := h
  exact ⟨hF, hL, hR, hP, hV, hQ, hY, hE, hX, hT, rW_c hW (by omega) (by omega) rfl rfl rfl⟩
section
variable {n : Nat} {b g : xB} {w m : (Int → xB → Prop) → Prop} {c a1 a2 a3 a4 a5 : Int}
theorem aC_bad (h : rB n b (g 71)) (r : Int) (hw : ∀ Q : Int → xB → Prop, Q r b → w Q) (hm : ∀ Q, w_m_noted g r c a1 a2 a3 a4 a5 Q → m Q) : aC n b g w m c a1 a2 a3 a4 a5 :=
  ⟨r, b, g, hw, hm, ⟨rB_le (Nat.le_succ n) h, mS_rf, rfl, rfl⟩, rfl⟩
theorem rB_find {f : Nat} (h : rB n b (g 71)) (h1 : 1 ≤ f) (h2 : f ≤ 6) : rB n (x_up b 10 f (xw (b 10 f + 1))) (x_up g 71 (3772 + f) (xw (g 71 (3772 + f) + 1)) 71) := by
  obtain ⟨hF, hL, hR, hP, hV, hQ, hY, hE, hX, hT, hW⟩ := h
  refine ⟨?_, rL_c hL rfl rfl rfl rfl rfl rfl (fun i hi => up_i (by omega)), rR_c hR rfl rfl rfl rfl rfl rfl rfl rfl rfl (fun i hi => up_i (by omega)), rP_c hP rfl rfl rfl rfl rfl rfl rfl (fun i hi => up_i (by omega)), rV_c hV rfl rfl rfl rfl rfl (fun i _ hi => up_i (by omega)), rQ_c hQ rfl rfl rfl rfl rfl rfl rfl rfl (Int.le_refl _) (fun i _ hi => up_i (by omega)), rY_c hY rfl rfl rfl rfl rfl rfl rfl rfl rfl rfl rfl rfl rfl (fun _ _ => Int.le_refl _) (Int.le_refl _) (Int.le_refl _) (fun _ _ => rfl) (Int.le_refl _) (fun i _ _ hi => up_i (by omega)), rE_c hE rfl rfl (fun i _ hi => up_i (by omega)), rX_c hX rfl rfl rfl rfl rfl (Int.le_refl _) (fun _ _ => rfl) (fun i hi => up_i (by omega)), rT_c hT rfl rfl (up_i (by omega)) (up_i (by omega)), rW_c hW (Int.le_refl _) (Int.le_refl _) rfl (up_i (by omega)) (up_i (by omega))⟩
  intro j j1 j2
  by_cases e : j = f
  · subst e
    rw [up_eq, up_eq, hF j j1 j2]
  · rw [up_i e, up_i (by omega)]
    exact hF j j1 j2
theorem aC_find (h : rB n b (g 71)) (f : Nat) (h1 : 1 ≤ f) (h2 : f ≤ 6) (hw : ∀ Q : Int → xB → Prop, Q (-10 - (f : Int)) (x_up b 10 f (xw (b 10 f + 1))) → w Q) (hm : ∀ Q, w_m_noted (x_up g 71 (3772 + f) (xw (g 71 (3772 + f) + 1))) (-10 - (f : Int)) c a1 a2 a3 a4 a5 Q → m Q) : aC n b g w m c a1 a2 a3 a4 a5 :=
  ⟨_, _, _, hw, hm, ⟨rB_le (Nat.le_succ n) (rB_find h h1 h2), mS_up mS_rf, rfl, rfl⟩, rfl⟩
end
/-! ===== acts on LINES ===== -/
theorem L_blank_k {l m : Nat} (hl : l < 4) (hm : m ≤ 64) {Q : xB → Prop} : ∀ (k p : Nat) (b : xB), b 12 l = (m : Int) → p + k = m → Q (x_fil b 11 (l * 64 + p) k 0) → w_L_blank_h2 Q Q (k + 1) b l p
  | 0, p, b, h1, h2, hQ => by
    rw [w_L_blank_h2_s]
    simp (disch := omega) only [e_T, e_F, e_t, e_f, e_gd, e_bg0, e_bg1, e_nz, Int.toNat_natCast, Int.toNat_add, Int.toNat_mul, xw_al, xw_ar, xw_ml, xw_mr, xw_sl, xw_sr, xw_id, x_sl_c, mc3, mc6, mc8, mc12, mc64, mc72, Nat.add_assoc, Int.reduceToNat]
    rw [fil0] at hQ
    exact hQ
  | k + 1, p, b, h1, h2, hQ => by
    rw [w_L_blank_h2_s]
    simp (disch := omega) only [e_T, e_F, e_t, e_f, e_gd, e_bg0, e_bg1, e_nz, Int.toNat_natCast, Int.toNat_add, Int.toNat_mul, xw_al, xw_ar, xw_ml, xw_mr, xw_sl, xw_sr, xw_id, x_sl_c, mc3, mc6, mc8, mc12, mc64, mc72, Nat.add_assoc, Int.reduceToNat]
    exact L_blank_k hl hm k (p + 1) _ h1 (by omega) (by rw [← Nat.add_assoc, fil_s]; exact hQ)
theorem L_blank_i {b : xB} {l m : Nat} (hl : l < 4) (hm : m ≤ 64) (h : b 12 l = (m : Int)) {Q : xB → Prop} (hQ : Q (x_fil b 11 (l * 64) m 0)) : w_L_blank b l Q :=
  ⟨m + 1, L_blank_k hl hm m 0 b h (by omega) hQ⟩
theorem m_darken_k {l : Nat} (hl : l < 4) {Q : xB → Prop} : ∀ (k p : Nat) (g : xB), p + k = 64 → Q (x_fil g 71 (8 + (l * 64 + p)) k 0) → w_m_darken_h2 Q Q (k + 1) g l p
  | 0, p, g, h2, hQ => by
    rw [w_m_darken_h2_s]
    simp (disch := omega) only [e_T, e_F, e_t, e_f, e_gd, e_bg0, e_bg1, e_nz, Int.toNat_natCast, Int.toNat_add, Int.toNat_mul, xw_al, xw_ar, xw_ml, xw_mr, xw_sl, xw_sr, xw_id, x_sl_c, mc3, mc6, mc8, mc12, mc64, mc72, Nat.add_assoc, Int.reduceToNat]
    rw [fil0] at hQ
    exact hQ
  | k + 1, p, g, h2, hQ => by
    rw [w_m_darken_h2_s]
    simp (disch := omega) only [e_T, e_F, e_t, e_f, e_gd, e_bg0, e_bg1, e_nz, Int.toNat_natCast, Int.toNat_add, Int.toNat_mul, xw_al, xw_ar, xw_ml, xw_mr, xw_sl, xw_sr, xw_id, x_sl_c, mc3, mc6, mc8, mc12, mc64, mc72, Nat.add_assoc, Int.reduceToNat]
    exact m_darken_k hl k (p + 1) _ (by omega) (by rw [show 8 + (l * 64 + (p + 1)) = 8 + (l * 64 + p) + 1 by omega, fil_s]; exact hQ)
theorem m_darken_i {g : xB} {l : Nat} (hl : l < 4) {Q : xB → Prop} (hQ : Q (x_fil g 71 (8 + l * 64) 64 0)) : w_m_darken g l Q :=
  ⟨64 + 1, m_darken_k hl 64 0 g (by omega) hQ⟩
section
variable {n : Nat} {b g : xB}
/-- limit -/
theorem a_limit {l v : Int} (h : rB n b (g 71)) : aC n b g (w_L_setLimit b l v) (w_m_limit g l v) 19 l v 0 0 0 := by
  by_cases hl : 0 ≤ l ∧ l < 4
  · by_cases h0 : v < 0
    · exact aC_bad h (-2) (fun Q hQ => by simp (disch := omega) only [w_L_setLimit, e_T, e_F, e_t, e_f, e_gd, e_bg0, e_bg1, e_nz, Int.toNat_natCast, Int.toNat_add, Int.toNat_mul, xw_al, xw_ar, xw_ml, xw_mr, xw_sl, xw_sr, xw_id, x_sl_c, mc3, mc6, mc8, mc12, mc64, mc72, Nat.add_assoc, Int.reduceToNat, L_isLine_t, L_isLine_f, R_has_t, R_has_f, R_isCh_t, R_isCh_f, V_isCurve_t, V_isCurve_f, Q_isCue_t, Q_isCue_f, Q_isList_t, Q_isList_f, B_isPb_t, B_isPb_f, m_in_t, m_in_f, m_isLine_t, m_isLine_f, m_isPb_t, m_isPb_f, m_isFx_t, m_isFx_f, F_note_e, m_finds_e, Int.reduceToNat, noted_neg]; exact hQ) (fun Q hQ => by simp (disch := omega) only [w_m_limit, e_T, e_F, e_t, e_f, e_gd, e_bg0, e_bg1, e_nz, Int.toNat_natCast, Int.toNat_add, Int.toNat_mul, xw_al, xw_ar, xw_ml, xw_mr, xw_sl, xw_sr, xw_id, x_sl_c, mc3, mc6, mc8, mc12, mc64, mc72, Nat.add_assoc, Int.reduceToNat, L_isLine_t, L_isLine_f, R_has_t, R_has_f, R_isCh_t, R_isCh_f, V_isCurve_t, V_isCurve_f, Q_isCue_t, Q_isCue_f, Q_isList_t, Q_isList_f, B_isPb_t, B_isPb_f, m_in_t, m_in_f, m_isLine_t, m_isLine_f, m_isPb_t, m_isPb_f, m_isFx_t, m_isFx_f, F_note_e, m_finds_e, Int.reduceToNat, noted_neg] at hQ ⊢; exact hQ)
    · by_cases h1 : 1000000 < v
      · exact aC_bad h (-2) (fun Q hQ => by simp (disch := omega) only [w_L_setLimit, e_T, e_F, e_t, e_f, e_gd, e_bg0, e_bg1, e_nz, Int.toNat_natCast, Int.toNat_add, Int.toNat_mul, xw_al, xw_ar, xw_ml, xw_mr, xw_sl, xw_sr, xw_id, x_sl_c, mc3, mc6, mc8, mc12, mc64, mc72, Nat.add_assoc, Int.reduceToNat, L_isLine_t, L_isLine_f, R_has_t, R_has_f, R_isCh_t, R_isCh_f, V_isCurve_t, V_isCurve_f, Q_isCue_t, Q_isCue_f, Q_isList_t, Q_isList_f, B_isPb_t, B_isPb_f, m_in_t, m_in_f, m_isLine_t, m_isLine_f, m_isPb_t, m_isPb_f, m_isFx_t, m_isFx_f, F_note_e, m_finds_e, Int.reduceToNat, noted_neg]; exact hQ) (fun Q hQ => by simp (disch := omega) only [w_m_limit, e_T, e_F, e_t, e_f, e_gd, e_bg0, e_bg1, e_nz, Int.toNat_natCast, Int.toNat_add, Int.toNat_mul, xw_al, xw_ar, xw_ml, xw_mr, xw_sl, xw_sr, xw_id, x_sl_c, mc3, mc6, mc8, mc12, mc64, mc72, Nat.add_assoc, Int.reduceToNat, L_isLine_t, L_isLine_f, R_has_t, R_has_f, R_isCh_t, R_isCh_f, V_isCurve_t, V_isCurve_f, Q_isCue_t, Q_isCue_f, Q_isList_t, Q_isList_f, B_isPb_t, B_isPb_f, m_in_t, m_in_f, m_isLine_t, m_isLine_f, m_isPb_t, m_isPb_f, m_isFx_t, m_isFx_f, F_note_e, m_finds_e, Int.reduceToNat, noted_neg] at hQ ⊢; exact hQ)
      · obtain ⟨j, rfl⟩ : ∃ j : Nat, l = (j : Int) := ⟨l.toNat, by omega⟩
        refine ⟨1, x_up b 14 j v, x_up g 71 (264 + j) v, fun Q hQ => by simp (disch := omega) only [w_L_setLimit, e_T, e_F, e_t, e_f, e_gd, e_bg0, e_bg1, e_nz, Int.toNat_natCast, Int.toNat_add, Int.toNat_mul, xw_al, xw_ar, xw_ml, xw_mr, xw_sl, xw_sr, xw_id, x_sl_c, mc3, mc6, mc8, mc12, mc64, mc72, Nat.add_assoc, Int.reduceToNat, L_isLine_t, L_isLine_f, R_has_t, R_has_f, R_isCh_t, R_isCh_f, V_isCurve_t, V_isCurve_f, Q_isCue_t, Q_isCue_f, Q_isList_t, Q_isList_f, B_isPb_t, B_isPb_f, m_in_t, m_in_f, m_isLine_t, m_isLine_f, m_isPb_t, m_isPb_f, m_isFx_t, m_isFx_f, F_note_e, m_finds_e, Int.reduceToNat, noted_neg]; exact hQ, fun Q hQ => by simp (disch := omega) only [w_m_limit, e_T, e_F, e_t, e_f, e_gd, e_bg0, e_bg1, e_nz, Int.toNat_natCast, Int.toNat_add, Int.toNat_mul, xw_al, xw_ar, xw_ml, xw_mr, xw_sl, xw_sr, xw_id, x_sl_c, mc3, mc6, mc8, mc12, mc64, mc72, Nat.add_assoc, Int.reduceToNat, L_isLine_t, L_isLine_f, R_has_t, R_has_f, R_isCh_t, R_isCh_f, V_isCurve_t, V_isCurve_f, Q_isCue_t, Q_isCue_f, Q_isList_t, Q_isList_f, B_isPb_t, B_isPb_f, m_in_t, m_in_f, m_isLine_t, m_isLine_f, m_isPb_t, m_isPb_f, m_isFx_t, m_isFx_f, F_note_e, m_finds_e, Int.reduceToNat, noted_neg]; exact hQ, ⟨rB_le (Nat.le_succ n) ?_, mS_up mS_rf, rfl, rfl⟩, rfl⟩
        obtain ⟨hF, hL, hR, hP, hV, hQ, hY, hE, hX, hT, hW⟩ := h
        refine ⟨rF_c hF rfl (fun i _ _ => up_i (by omega)), ?_, rR_c hR rfl rfl rfl rfl rfl rfl rfl rfl rfl (fun i hi => up_i (by omega)), rP_c hP rfl rfl rfl rfl rfl rfl rfl (fun i hi => up_i (by omega)), rV_c hV rfl rfl rfl rfl rfl (fun i _ hi => up_i (by omega)), rQ_c hQ rfl rfl rfl rfl rfl rfl rfl rfl (Int.le_refl _) (fun i _ hi => up_i (by omega)), rY_c hY rfl rfl rfl rfl rfl rfl rfl rfl rfl rfl rfl rfl rfl (fun _ _ => Int.le_refl _) (Int.le_refl _) (Int.le_refl _) (fun _ _ => rfl) (Int.le_refl _) (fun i _ _ hi => up_i (by omega)), rE_c hE rfl rfl (fun i _ hi => up_i (by omega)), rX_c hX rfl rfl rfl rfl rfl (Int.le_refl _) (fun _ _ => rfl) (fun i hi => up_i (by omega)), rT_c hT rfl rfl (up_i (by omega)) (up_i (by omega)), rW_c hW (Int.le_refl _) (Int.le_refl _) rfl (up_i (by omega)) (up_i (by omega))⟩
        intro k hk
        by_cases e : k = j
        · subst e
          obtain ⟨q1, q2, q3, q4, q5, q6, q7⟩ := hL k hk
          refine ⟨by rw [up_eq, up_eq], by rw [up_r (by omega), up_i (by omega)]; exact q2, by rw [up_r (by omega), up_i (by omega)]; exact q3, by rw [up_eq]; omega, by rw [up_eq]; omega, q6, ?_⟩
          rcases q7 with ⟨c1, c2, c3, c4, c5, c6⟩ | ⟨c1, c2, c3, c4, c5⟩ | ⟨c1, c2, c3, c4⟩
          · exact Or.inl ⟨c1, by rw [up_i (by omega)]; exact c2, by rw [up_i (i' := 4 + k) (by omega)]; exact c3, c4, c5, fun p hp => by rw [up_i (i' := 8 + (k * 64 + p)) (by have := c5; have : (p : Int) < b 12 k := hp; omega)]; exact c6 p hp⟩
          · exact Or.inr (Or.inl ⟨c1, by rw [up_i (by omega)]; exact c2, by rw [up_i (i' := 4 + k) (by omega)]; exact c3, c4, c5⟩)
          · exact Or.inr (Or.inr ⟨c1, by rw [up_i (by omega)]; exact c2, c3, by rw [up_i (i' := 4 + k) (by omega)]; exact c4⟩)
        · exact rL1_c hk (hL k hk) (fun _ _ => rfl) rfl rfl (up_i e) rfl rfl (up_i (by omega)) (up_i (by omega)) (up_i (by omega)) (up_i (by omega)) (up_i (by omega)) (fun p hp => up_i (by omega))
  · exact aC_bad h (-2) (fun Q hQ => by simp (disch := omega) only [w_L_setLimit, e_T, e_F, e_t, e_f, e_gd, e_bg0, e_bg1, e_nz, Int.toNat_natCast, Int.toNat_add, Int.toNat_mul, xw_al, xw_ar, xw_ml, xw_mr, xw_sl, xw_sr, xw_id, x_sl_c, mc3, mc6, mc8, mc12, mc64, mc72, Nat.add_assoc, Int.reduceToNat, L_isLine_t, L_isLine_f, R_has_t, R_has_f, R_isCh_t, R_isCh_f, V_isCurve_t, V_isCurve_f, Q_isCue_t, Q_isCue_f, Q_isList_t, Q_isList_f, B_isPb_t, B_isPb_f, m_in_t, m_in_f, m_isLine_t, m_isLine_f, m_isPb_t, m_isPb_f, m_isFx_t, m_isFx_f, F_note_e, m_finds_e, Int.reduceToNat, noted_neg]; exact hQ) (fun Q hQ => by simp (disch := omega) only [w_m_limit, e_T, e_F, e_t, e_f, e_gd, e_bg0, e_bg1, e_nz, Int.toNat_natCast, Int.toNat_add, Int.toNat_mul, xw_al, xw_ar, xw_ml, xw_mr, xw_sl, xw_sr, xw_id, x_sl_c, mc3, mc6, mc8, mc12, mc64, mc72, Nat.add_assoc, Int.reduceToNat, L_isLine_t, L_isLine_f, R_has_t, R_has_f, R_isCh_t, R_isCh_f, V_isCurve_t, V_isCurve_f, Q_isCue_t, Q_isCue_f, Q_isList_t, Q_isList_f, B_isPb_t, B_isPb_f, m_in_t, m_in_f, m_isLine_t, m_isLine_f, m_isPb_t, m_isPb_f, m_isFx_t, m_isFx_f, F_note_e, m_finds_e, Int.reduceToNat, noted_neg] at hQ ⊢; exact hQ)
end
