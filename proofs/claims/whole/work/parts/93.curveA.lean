/-! ===== curve: the 0 below 0 ===== -/
theorem F_fneg (a : UInt32) : FP.Core.val32 (FP.Core.fneg a) = FP.Core.negate (FP.Core.val32 a) := FP.Core.val32_fneg a
theorem F_fsub (a b : UInt32) : FP.fsub a b = FP.fadd a (FP.Core.fneg b) := FP.Core.fsub_eq a b
theorem F_comm (a b : UInt32) : FP.fadd a b = FP.fadd b a := FP.Core.fadd_comm a b
theorem F_self {a : UInt32} {s c q} (h : FP.Core.val32 a = .fin s c q) : FP.fsub a a = FP.fconst0 := FP.Core.fsub_self h
theorem F_zn {a : UInt32} (h : FP.Core.val32 a ≠ .nan) : FP.fadd a FP.Core.fzeroNeg = a := FP.Core.fadd_zeroNeg h
theorem F_z {a : UInt32} (h : FP.Core.val32 a ≠ .nan) (hz : a ≠ FP.Core.fzeroNeg) : FP.fadd a FP.fconst0 = a := FP.Core.fadd_zero h hz
theorem zm1 : FP.Core.zval FP.Core.b32 (FP.Core.val32 (UInt32.ofNat 2147483649)) = -1 := by decide +kernel
theorem zp1 : FP.Core.zval FP.Core.b32 (FP.Core.val32 (UInt32.ofNat 1)) = 1 := by decide +kernel
theorem nnm1 : FP.Core.val32 (UInt32.ofNat 2147483649) ≠ .nan := by decide +kernel
theorem nnp1 : FP.Core.val32 (UInt32.ofNat 1) ≠ .nan := by decide +kernel
theorem u32_0 {a : UInt32} (h : a.toNat = 0) : a = UInt32.ofNat 0 := UInt32.toNat_inj.mp (by rw [h]; rfl)
theorem u32_s {a : UInt32} (h : a.toNat = 2147483648) : a = UInt32.ofNat 2147483648 := UInt32.toNat_inj.mp (by rw [h]; rfl)
theorem z00 : (FP.fadd (UInt32.ofNat 0) (UInt32.ofNat 0)).toNat ≠ 2147483648 := by decide +kernel
theorem z0s : (FP.fadd (UInt32.ofNat 0) (UInt32.ofNat 2147483648)).toNat ≠ 2147483648 := by decide +kernel
theorem neg0_left {a b : UInt32} (ha : FP.Core.FFin a) (hb : FP.Core.val32 b ≠ .nan) (h : (FP.fadd a b).toNat = 2147483648) : a.toNat = 2147483648 := by
  have hf : FP.Core.FFin (FP.fadd a b) := (FP.Core.fin_bits32 _).mpr (by rw [h]; decide)
  have hb2 : FP.Core.FFin b := by
    cases e : FP.Core.val32 b with
    | nan => exact absurd e hb
    | inf s =>
      obtain ⟨s1, c1, q1, e1⟩ := ha
      obtain ⟨s2, c2, q2, e2⟩ := hf
      have e3 := FP.Core.val32_fadd a b
      rw [e1, e, e2] at e3
      have e4 : FP.Core.Datum.fin s2 c2 q2 = FP.Core.Datum.inf s := e3
      cases e4
    | fin s c q => exact ⟨s, c, q, e⟩
  have z := (FP.Core.zval_eq_zero32 hf.ne_nan).mpr (by rw [h])
  have zs : FP.Core.zval FP.Core.b32 (FP.Core.val32 a) + FP.Core.zval FP.Core.b32 (FP.Core.val32 b) = 0 := by
    rcases Int.lt_trichotomy (FP.Core.zval FP.Core.b32 (FP.Core.val32 a) + FP.Core.zval FP.Core.b32 (FP.Core.val32 b)) 0 with l | l | l
    · have := FP.Core.sum_le FP.Core.good_b32 ha hb2 (FP.Core.val32_fits a) (FP.Core.val32_fits b) (FP.Core.val32_fits (UInt32.ofNat 2147483649)) nnm1 (by rw [zm1]; omega)
      rw [← FP.Core.val32_fadd, zm1, z] at this
      omega
    · exact l
    · have := FP.Core.sum_ge FP.Core.good_b32 ha hb2 (FP.Core.val32_fits a) (FP.Core.val32_fits b) (FP.Core.val32_fits (UInt32.ofNat 1)) nnp1 (by rw [zp1]; omega)
      rw [← FP.Core.val32_fadd, zp1, z] at this
      omega
  by_cases y0 : FP.Core.zval FP.Core.b32 (FP.Core.val32 b) = 0
  · have a0 := (FP.Core.zval_eq_zero32 ha.ne_nan).mp (by omega)
    have b0 := (FP.Core.zval_eq_zero32 hb).mp y0
    have la := a.toNat_lt
    have lb := b.toNat_lt
    by_cases ea : a.toNat = 2147483648
    · exact ea
    · have ea := u32_0 (a := a) (by omega)
      subst ea
      have : b.toNat = 0 ∨ b.toNat = 2147483648 := by omega
      rcases this with e | e
      · have e := u32_0 e
        subst e
        exact absurd h z00
      · have e := u32_s e
        subst e
        exact absurd h z0s
  · have hnb : ¬ FP.Core.FZero b := fun q => y0 q.zval
    have e : FP.Core.fneg a = b := FP.Core.eq_bits32 hnb (FP.Core.fcmp_eq.mpr ⟨by rw [F_fneg]; exact FP.Core.negate_ne_nan ha.ne_nan, hb, by rw [F_fneg, FP.Core.zval_negate]; omega⟩)
    obtain ⟨s, c, q, ev⟩ := ha
    rw [← e, ← F_fsub, F_self ev] at h
    exact absurd h (by decide)
/-- the sign of a product with what is above 0 -/
theorem fmul_sg {a p : UInt32} (ha : FP.Core.val32 a ≠ .nan) (hp : FP.Core.FFin p) (hz : ¬ FP.Core.FZero p) (hs : FP.Core.sgn (FP.Core.val32 p) = false) : 2147483648 ≤ (FP.fmul a p).toNat ↔ 2147483648 ≤ a.toNat := by
  have hn : FP.Core.val32 (FP.fmul a p) ≠ .nan := n32_iff (FP.Core.fmul_out' ((FP.Core.notNaN_iff32 a).mpr ha) hp hz)
  have e1 := FP.Core.sgn_bits32 hn
  have e2 := FP.Core.sgn_bits32 ha
  have e3 := FP.Core.val32_fmul a p
  have key : FP.Core.sgn (FP.Core.val32 (FP.fmul a p)) = FP.Core.sgn (FP.Core.val32 a) := by
    obtain ⟨t, d, r, ep⟩ := hp
    rw [ep] at hs e3
    have hs : t = false := hs
    subst hs
    have hd : d ≠ 0 := fun z => hz ⟨false, r, by rw [ep, z]⟩
    rw [e3]
    cases e : FP.Core.val32 a with
    | nan => exact absurd e ha
    | inf s =>
      have : FP.Core.exactProduct (.inf s) (.fin false d r) = .inf (s != false) := if_neg hd
      rw [this]
      show (s != false) = s
      cases s <;> rfl
    | fin s c q =>
      show FP.Core.sgn (FP.Core.roundRatio FP.Core.b32 (s != false) (c * d) 1 (q + r)) = s
      rw [FP.Core.sgn_roundRatio]
      cases s <;> rfl
  rw [e1, e2] at key
  constructor
  · intro h
    exact of_decide_eq_true (key ▸ decide_eq_true h)
  · intro h
    exact of_decide_eq_true (key.symm ▸ decide_eq_true h)
theorem zneg0 : FP.Core.fzeroNeg.toNat = 2147483648 := by decide
theorem d00 : FP.fsub FP.Core.fzeroNeg FP.Core.fzeroNeg = FP.fconst0 := by decide +kernel
theorem ngz : FP.Core.fneg FP.Core.fzeroNeg = FP.fconst0 := by decide +kernel
/-- the height is the 0 below 0 -/
theorem hgt_neg0 {yl yr p : UInt32} (hl : FP.Core.FFin yl) (hr : FP.Core.FFin yr) (hp : FP.Core.FFin p) (hz : ¬ FP.Core.FZero p) (hs : FP.Core.sgn (FP.Core.val32 p) = false) : (FP.fadd yl (FP.fmul (FP.fsub yr yl) p)).toNat = 2147483648 ↔ (yl.toNat = 2147483648 ∧ FP.Core.zval FP.Core.b32 (FP.Core.val32 yr) < 0 ∧ FP.Core.zval FP.Core.b32 (FP.Core.val32 (FP.fadd yl (FP.fmul (FP.fsub yr yl) p))) = 0) := by
  have dn := FP.Core.fsub_out (hr.notNaN) hl
  have tn := FP.Core.fmul_out' dn hp hz
  by_cases el : yl.toNat = 2147483648
  · have e0 : yl = FP.Core.fzeroNeg := UInt32.toNat_inj.mp (by rw [el, zneg0])
    subst e0
    have e1 : FP.fadd FP.Core.fzeroNeg (FP.fmul (FP.fsub yr FP.Core.fzeroNeg) p) = FP.fmul (FP.fsub yr FP.Core.fzeroNeg) p := by
      rw [F_comm, F_zn (n32_iff tn)]
    rw [e1]
    have sg := fmul_sg (a := FP.fsub yr FP.Core.fzeroNeg) (n32_iff dn) hp hz hs
    have zq := FP.Core.zval_eq_zero32 (n32_iff tn)
    have lt := (FP.fmul (FP.fsub yr FP.Core.fzeroNeg) p).toNat_lt
    have hy : 2147483648 ≤ (FP.fsub yr FP.Core.fzeroNeg).toNat ↔ FP.Core.zval FP.Core.b32 (FP.Core.val32 yr) < 0 := by
      by_cases er : yr = FP.Core.fzeroNeg
      · subst er
        rw [d00]
        have : FP.Core.zval FP.Core.b32 (FP.Core.val32 FP.Core.fzeroNeg) = 0 := by decide +kernel
        rw [this]
        have : FP.fconst0.toNat = 0 := by decide
        rw [this]
        omega
      · rw [F_fsub, ngz, F_z hr.ne_nan er]
        have lr := yr.toNat_lt
        by_cases yz : yr.toNat % 2147483648 = 0
        · have y0 : yr.toNat ≠ 2147483648 := fun z => er (UInt32.toNat_inj.mp (by rw [z, zneg0]))
          have := (FP.Core.zval_eq_zero32 hr.ne_nan).mpr yz
          omega
        · exact (zv_sgn hr.ne_nan yz).symm
    constructor
    · intro h
      exact ⟨el, hy.mp (sg.mp (by omega)), zq.mpr (by rw [h])⟩
    · intro ⟨_, h2, h3⟩
      have h4 := sg.mpr (hy.mpr h2)
      have h5 : (FP.fmul (FP.fsub yr FP.Core.fzeroNeg) p).toNat % 2147483648 = 0 := zq.mp h3
      omega
  · constructor
    · intro h
      exact absurd (neg0_left hl (n32_iff tn) h) el
    · intro h
      exact absurd h.1 el
theorem v_pos : ∀ v : Nat, v < 256 → (FP.i2f (Int32.ofInt (v : Int))).toNat ≠ 2147483648 := by decide +kernel
theorem f2i_s {a : UInt32} (h : a.toNat = 2147483648) : x_f2i a = -2147483648 := by
  rw [u32_s h]
  decide
theorem i2f_s {z : Int} (h : x_in z) : (x_i2f z).toNat = 2147483648 ↔ z = -2147483648 := by
  constructor
  · intro e
    have := i2f_nat h
    have h1 := h.1
    have h2 := h.2
    omega
  · intro e
    subst e
    decide
/-- the bits of a height that isn't no number -/
theorem bits_A {b : xB} {L : Nat} {h yr : UInt32} {z : Int} (hL : L < 31) (e205 : b 205 0 = (L : Int)) (e206 : b 206 0 = ((L + 1 : Nat) : Int)) (e31 : b 31 L = z) (e33 : x_i2f (b 33 (L + 1)) = yr) (hz : x_in z) (hn : FP.Core.val32 h ≠ .nan) (hyr : FP.Core.val32 yr ≠ .nan) (key : h.toNat = 2147483648 ↔ (z = -2147483648 ∧ FP.Core.zval FP.Core.b32 (FP.Core.val32 yr) < 0 ∧ FP.Core.zval FP.Core.b32 (FP.Core.val32 h) = 0)) {Q : Int → xB → Prop} (hQ : Q (x_f2i h) b) : x_br (((Op.cmpValue (FP.fcmp h FP.fconst0) CmpOp.l).toInt) = 0) (w_V_fadesBelowZero b (fun r8 b9 => x_br (r8 = 0) (w_V_bitsAt_j96 Q b9 h) (Q (-2147483648) b9))) (w_V_bitsAt_j96 Q b h) := by
  have c1 := (cmp_lt (op := CmpOp.l) hn nn0 rfl z0).2.2
  have c2 := (cmp_lt (op := CmpOp.g) hyr nn0 rfl z0).1
  have fin : h.toNat ≠ 2147483648 → w_V_bitsAt_j96 Q b h := fun hne => V_bitsOf_i (Q := fun r => Q r b) hn hne hQ
  by_cases q1 : FP.Core.zval FP.Core.b32 (FP.Core.val32 h) = 0
  · rw [e_t (c1.mpr q1)]
    unfold w_V_fadesBelowZero
    rw [e205, Int.toNat_natCast, e31, e_gd (by omega) (by omega)]
    by_cases q2 : z = -2147483648
    · rw [e_t q2, e206, Int.toNat_natCast, e33, e_gd (by omega) (by omega)]
      by_cases q3 : FP.Core.zval FP.Core.b32 (FP.Core.val32 yr) < 0
      · rw [e_t (c2.mpr q3)]
        dsimp only
        rw [e_f (by decide)]
        rw [f2i_s (key.mpr ⟨q2, q3, q1⟩)] at hQ
        exact hQ
      · rw [e_f (fun w => q3 (c2.mp w))]
        dsimp only
        rw [e_t rfl]
        exact fin (fun w => q3 (key.mp w).2.1)
    · rw [e_f q2]
      dsimp only
      rw [e_t rfl]
      exact fin (fun w => q2 (key.mp w).1)
  · rw [e_f (fun w => q1 (c1.mp w))]
    exact fin (fun w => q1 (key.mp w).2.2)
theorem q_curve {n : Nat} {b g : xB} {c v : Int} (h : rB n b (g 71)) : qC n b g (w_V_bitsAt b c v) (w_m_curve g c v) := by
  by_cases hc : 0 ≤ c ∧ c < 4
  · by_cases hv : 0 ≤ v ∧ v ≤ 255
    · obtain ⟨C, rfl⟩ := nat_of hc.1
      obtain ⟨V, rfl⟩ := nat_of hv.1
      have hV := h.2.2.2.2.1 C (by omega)
      have hO : ∀ L R : Int, pO n b g (x_up (x_up b 205 0 L) 206 0 R) g := by
        intro L R
        obtain ⟨hF, hL, hR, hP, hV, hQ, hY, hE, hX, hT, hW⟩ := h
        exact ⟨rB_le (Nat.le_succ n) ⟨rF_c hF rfl (fun i _ _ => by simp (disch := omega) only [up_i, fil_i]), rL_c hL rfl rfl rfl rfl rfl rfl (fun i hi => by simp (disch := omega) only [up_i, fil_i]), rR_c hR rfl rfl rfl rfl rfl rfl rfl rfl rfl (fun i hi => by simp (disch := omega) only [up_i, fil_i]), rP_c hP rfl rfl rfl rfl rfl rfl rfl (fun i hi => by simp (disch := omega) only [up_i, fil_i]), rV_c hV rfl rfl rfl rfl rfl (fun i _ hi => by simp (disch := omega) only [up_i, fil_i]), rQ_c hQ rfl rfl rfl rfl rfl rfl rfl rfl (Int.le_refl _) (fun i _ hi => by simp (disch := omega) only [up_i, fil_i]), rY_c hY rfl rfl rfl rfl rfl rfl rfl rfl rfl rfl rfl rfl rfl (fun _ _ => Int.le_refl _) (Int.le_refl _) (Int.le_refl _) (fun _ _ => rfl) (Int.le_refl _) (fun i _ _ hi => by simp (disch := omega) only [up_i, fil_i]), rE_c hE rfl rfl (fun i _ hi => by simp (disch := omega) only [up_i, fil_i]), rX_c hX rfl rfl rfl rfl rfl (Int.le_refl _) (fun _ _ => rfl) (fun i hi => by simp (disch := omega) only [up_i, fil_i]), rT_c hT rfl rfl (by simp (disch := omega) only [up_i, fil_i]) (by simp (disch := omega) only [up_i, fil_i]), rW_c hW (Int.le_refl _) (Int.le_refl _) rfl (by simp (disch := omega) only [up_i, fil_i]) (by simp (disch := omega) only [up_i, fil_i])⟩, mS_rf, rfl, rfl⟩
      have mW : ∀ (r : Int), (∀ Q : Int → xB → Prop, Q r g → w_m_curveAt g C V Q = True) → ∀ Q : Int → xB → Prop, Q r g → w_m_curve g C V Q := by
        intro r hm Q hQ
        have := hm (fun r3 g4 => Q r3 g4) hQ
        unfold w_m_curve
        rw [m_in_t (by omega) (by omega), e_f (by decide), m_in_t (by omega) (by omega), e_f (by decide), this]
        trivial
      rcases curve_cases (v := V) (by omega) hV (by omega) with ⟨n0, hm⟩ | ⟨n0, L, R, _, hL8, hR8, hsk, hLb, hRb, hx0, hx1, hx2, hcase⟩
      · have hn : FP.Core.val32 (FP.i2f (Int32.ofInt (V : Int))) ≠ .nan := by
          rw [fz_i2f (by omega)]
          exact fz_nn _ _
        refine ⟨x_f2i (FP.i2f (Int32.ofInt (V : Int))), b, g, fun Q hQ => ?_, mW _ hm, ⟨rB_le (Nat.le_succ n) h, mS_rf, rfl, rfl⟩, rfl⟩
        unfold w_V_bitsAt
        rw [V_isCurve_t (by omega) (by omega), e_f (by decide), e_f (by omega), e_f (by omega), e_gd (by omega) (by omega), Int.toNat_natCast, e_t n0]
        exact V_bitsOf_i (Q := fun r => Q r b) hn (v_pos V (by omega)) hQ
      · have cls : ∀ (Q : Int → xB → Prop), w_V_isHole (x_up (x_up b 205 0 ((C * 8 + L : Nat) : Int)) 206 0 ((C * 8 + R : Nat) : Int)) (fun r3 b4 => x_br (r3 = 0) (x_br ((b4 205 0) = (b4 206 0)) (x_gd (b4 205 0) 32 (Q (b4 31 ((b4 205 0).toNat)) b4)) (w_V_height b4 V (fun r5 b6 => x_br (((Op.cmpValue (FP.fcmp r5 FP.fconst0) CmpOp.l).toInt) = 0) (w_V_fadesBelowZero b6 (fun r8 b9 => x_br (r8 = 0) (w_V_bitsAt_j96 Q b9 r5) (Q (-2147483648) b9))) (w_V_bitsAt_j96 Q b6 r5)))) (Q 2143289344 b4)) → w_V_bitsAt b C V Q := by
          intro Q hQ
          unfold w_V_bitsAt
          rw [V_isCurve_t (by omega) (by omega), e_f (by decide), e_f (by omega), e_f (by omega), e_gd (by omega) (by omega), Int.toNat_natCast, e_f n0]
          exact hsk _ hQ
        rcases hcase with ⟨hh, hm⟩ | ⟨q1, q2, q3, q4, q5, hm⟩ | ⟨q1, q2, q3, q4, q5, q6, q7, q8, q9, hm⟩
        · refine ⟨2143289344, _, g, fun Q hQ => cls Q ?_, mW _ hm, hO ((C * 8 + L : Nat) : Int) ((C * 8 + R : Nat) : Int), rfl⟩
          rcases hLb with e | e
          · have e2 : b 32 (C * 8 + R) = 1 := by omega
            simp (disch := omega) only [w_V_isHole, e_T, e_F, e_t, e_f, e_gd, e_bg0, e_bg1, e_nz, Int.toNat_natCast, Int.toNat_add, Int.toNat_mul, xw_al, xw_ar, xw_ml, xw_mr, xw_sl, xw_sr, xw_id, x_sl_c, mc3, mc6, mc8, mc12, mc64, mc72, Nat.add_assoc, Int.reduceToNat, L_isLine_t, L_isLine_f, R_has_t, R_has_f, R_isCh_t, R_isCh_f, V_isCurve_t, V_isCurve_f, Q_isCue_t, Q_isCue_f, Q_isList_t, Q_isList_f, B_isPb_t, B_isPb_f, m_in_t, m_in_f, m_isLine_t, m_isLine_f, m_isPb_t, m_isPb_f, m_isFx_t, m_isFx_f, F_note_e, m_finds_e, Int.reduceToNat, noted_neg, up_eq, up_r, up_i, fil_in, fil_i, fil_r]
            exact hQ
          · simp (disch := omega) only [w_V_isHole, e_T, e_F, e_t, e_f, e_gd, e_bg0, e_bg1, e_nz, Int.toNat_natCast, Int.toNat_add, Int.toNat_mul, xw_al, xw_ar, xw_ml, xw_mr, xw_sl, xw_sr, xw_id, x_sl_c, mc3, mc6, mc8, mc12, mc64, mc72, Nat.add_assoc, Int.reduceToNat, L_isLine_t, L_isLine_f, R_has_t, R_has_f, R_isCh_t, R_isCh_f, V_isCurve_t, V_isCurve_f, Q_isCue_t, Q_isCue_f, Q_isList_t, Q_isList_f, B_isPb_t, B_isPb_f, m_in_t, m_in_f, m_isLine_t, m_isLine_f, m_isPb_t, m_isPb_f, m_isFx_t, m_isFx_f, F_note_e, m_finds_e, Int.reduceToNat, noted_neg, up_eq, up_r, up_i, fil_in, fil_i, fil_r]
            exact hQ
        · subst q2
          refine ⟨b 31 (C * 8 + R), _, g, fun Q hQ => cls Q ?_, mW _ hm, hO ((C * 8 + R : Nat) : Int) ((C * 8 + R : Nat) : Int), rfl⟩
          simp (disch := omega) only [w_V_isHole, e_T, e_F, e_t, e_f, e_gd, e_bg0, e_bg1, e_nz, Int.toNat_natCast, Int.toNat_add, Int.toNat_mul, xw_al, xw_ar, xw_ml, xw_mr, xw_sl, xw_sr, xw_id, x_sl_c, mc3, mc6, mc8, mc12, mc64, mc72, Nat.add_assoc, Int.reduceToNat, L_isLine_t, L_isLine_f, R_has_t, R_has_f, R_isCh_t, R_isCh_f, V_isCurve_t, V_isCurve_f, Q_isCue_t, Q_isCue_f, Q_isList_t, Q_isList_f, B_isPb_t, B_isPb_f, m_in_t, m_in_f, m_isLine_t, m_isLine_f, m_isPb_t, m_isPb_f, m_isFx_t, m_isFx_f, F_note_e, m_finds_e, Int.reduceToNat, noted_neg, up_eq, up_r, up_i, fil_in, fil_i, fil_r]
          exact hQ
        · subst q3
          have ok := hgt_ok (b := b) (i := C * 8 + L) (v := (V : Int)) q4 q5 hx0 (by rw [← Nat.add_assoc] at hx2; exact hx2) q8 q9
          refine ⟨x_f2i (hgt b (C * 8 + L) V), _, g, fun Q hQ => cls Q ?_, mW _ hm, hO ((C * 8 + L : Nat) : Int) ((C * 8 + (L + 1) : Nat) : Int), rfl⟩
          obtain ⟨n1, e1⟩ := nat_of (l := (V : Int) - b 30 (C * 8 + L)) (by omega)
          obtain ⟨n2, e2⟩ := nat_of (l := b 30 (C * 8 + L + 1) - b 30 (C * 8 + L)) (by omega)
          obtain ⟨p1, p2, p3⟩ := part_ok (n1 := n1) (n2 := n2) (by omega) (by omega) (by rw [← Nat.add_assoc] at hx2; omega)
          rw [← e1, ← e2] at p1 p2 p3
          have key := hgt_neg0 q8 q9 p1 p2 p3
          have iz : (x_i2f (b 33 (C * 8 + L))).toNat = 2147483648 ↔ b 31 (C * 8 + L) = -2147483648 := by
            rw [q7]
            exact i2f_s q6
          rw [iz] at key
          have q5' : (V : Int) < b 30 (C * 8 + (L + 1)) := by rw [← Nat.add_assoc]; exact q5
          have fin := bits_A (b := x_up (x_up b 205 0 ((C * 8 + L : Nat) : Int)) 206 0 ((C * 8 + (L + 1) : Nat) : Int)) (L := C * 8 + L) (h := hgt b (C * 8 + L) V) (z := b 31 (C * 8 + L)) (yr := x_i2f (b 33 (C * 8 + L + 1))) (by omega) (by simp (disch := omega) only [up_eq, up_r, up_i, fil_in, fil_i, fil_r]) (by simp (disch := omega) only [up_eq, up_r, up_i, fil_in, fil_i, fil_r]; rfl) (by simp (disch := omega) only [up_eq, up_r, up_i, fil_in, fil_i, fil_r]) (by simp (disch := omega) only [up_eq, up_r, up_i, fil_in, fil_i, fil_r]) q6 ok.2.2.2 q9.ne_nan key (Q := Q) hQ
          unfold hgt at fin
          have ok' := ok
          unfold hgt at ok'
          rw [Nat.add_assoc] at ok' fin
          simp (disch := omega) only [w_V_isHole, w_V_height, e_T, e_F, e_t, e_f, e_gd, e_bg0, e_bg1, e_nz, Int.toNat_natCast, Int.toNat_add, Int.toNat_mul, xw_al, xw_ar, xw_ml, xw_mr, xw_sl, xw_sr, xw_id, x_sl_c, mc3, mc6, mc8, mc12, mc64, mc72, Nat.add_assoc, Int.reduceToNat, L_isLine_t, L_isLine_f, R_has_t, R_has_f, R_isCh_t, R_isCh_f, V_isCurve_t, V_isCurve_f, Q_isCue_t, Q_isCue_f, Q_isList_t, Q_isList_f, B_isPb_t, B_isPb_f, m_in_t, m_in_f, m_isLine_t, m_isLine_f, m_isPb_t, m_isPb_f, m_isFx_t, m_isFx_f, F_note_e, m_finds_e, Int.reduceToNat, noted_neg, up_eq, up_r, up_i, fil_in, fil_i, fil_r]
          exact ⟨n32_of ok'.1, n32_of ok'.2.1, n32_of ok'.2.2.1, n32_of ok'.2.2.2, fin⟩
    · refine qC_u h 0 (fun Q hQ => ?_) (fun Q hQ => ?_)
      · unfold w_V_bitsAt
        rw [V_isCurve_t (by omega) (by omega), e_f (by decide)]
        by_cases e : v < 0
        · rw [e_t e]
          exact hQ
        · rw [e_f e, e_t (by omega)]
          exact hQ
      · unfold w_m_curve
        rw [m_in_t (by omega) (by omega), e_f (by decide), m_in_f (by omega), e_t rfl]
        exact hQ
  · refine qC_u h 0 (fun Q hQ => ?_) (fun Q hQ => ?_)
    · unfold w_V_bitsAt
      rw [V_isCurve_f (by omega), e_t rfl]
      exact hQ
    · unfold w_m_curve
      rw [m_in_f (by omega), e_t rfl]
      exact hQ
