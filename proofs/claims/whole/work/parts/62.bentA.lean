/-! ===== a CHANNEL is BENT, on both sides; a POINT more ===== -/
theorem v_half : ∀ v : Nat, v < 256 → bentR (FP.fadd (FP.i2f (Int32.ofInt (v : Int))) (UInt32.ofNat (Int.toNat 1056964608))) = (v : Int) := by decide +kernel
theorem half_nn {h : UInt32} (hn : FP.Core.val32 h ≠ .nan) : FP.Core.val32 (FP.fadd h (UInt32.ofNat (Int.toNat 1056964608))) ≠ .nan := n32_iff (FP.Core.fadd_out ((FP.Core.notNaN_iff32 h).mpr hn) finH)
/-- the model's end, when the bits are no hole -/
theorem m_bent_j {g : xB} {ch : Nat} {h : UInt32} {r1 : Int} (hch : ch < 72) (hr : x_i2f r1 = h) (h1 : r1 ≠ 2143289344) (hn : FP.Core.val32 h ≠ .nan) {Q : Int → xB → Prop} (hQ : Q (bentR (FP.fadd h (UInt32.ofNat (Int.toNat 1056964608)))) (x_up g 71 (662 + ch) (bentR (FP.fadd h (UInt32.ofNat (Int.toNat 1056964608)))))) : x_br (r1 = 2143289344) (w_m_bentValue_j84 Q g ch) (vn_sni2f (Int32.ofInt r1) = false ∧ (vf_n32 (FP.fadd (x_i2f r1) (UInt32.ofNat (Int.toNat 1056964608))) ∧ (x_br (((FP.f2i (FP.fadd (x_i2f r1) (UInt32.ofNat (Int.toNat 1056964608)))).toInt) < 0) (w_m_bentValue_j83 Q g ch (xw (662 + ch)) 0) (x_br ((255 : Int) < ((FP.f2i (FP.fadd (x_i2f r1) (UInt32.ofNat (Int.toNat 1056964608)))).toInt)) (w_m_bentValue_j83 Q g ch (xw (662 + ch)) 255) (w_m_bentValue_j83 Q g ch (xw (662 + ch)) ((FP.f2i (FP.fadd (x_i2f r1) (UInt32.ofNat (Int.toNat 1056964608)))).toInt)))))) := by
  have fin : ∀ z : Int, Q z (x_up g 71 (662 + ch) z) → w_m_bentValue_j83 Q g ch (xw (662 + ch)) z = True := by
    intro z hz
    refine eq_true ?_
    simp (disch := omega) only [w_m_bentValue_j83, w_m_bentValue_j84, e_T, e_F, e_t, e_f, e_gd, e_bg0, e_bg1, e_nz, Int.toNat_natCast, Int.toNat_add, Int.toNat_mul, xw_al, xw_ar, xw_ml, xw_mr, xw_sl, xw_sr, xw_id, x_sl_c, mc3, mc6, mc8, mc12, mc64, mc72, Nat.add_assoc, Int.reduceToNat, L_isLine_t, L_isLine_f, R_has_t, R_has_f, R_isCh_t, R_isCh_f, V_isCurve_t, V_isCurve_f, Q_isCue_t, Q_isCue_f, Q_isList_t, Q_isList_f, B_isPb_t, B_isPb_f, m_in_t, m_in_f, m_isLine_t, m_isLine_f, m_isPb_t, m_isPb_f, m_isFx_t, m_isFx_f, F_note_e, m_finds_e, Int.reduceToNat, noted_neg, up_eq, up_r, up_i, fil_in, fil_i, fil_r]
    exact hz
  rw [e_f h1]
  refine ⟨sni_f (by rw [hr]; exact hn), by rw [hr]; exact n32_of (half_nn hn), ?_⟩
  rw [hr]
  unfold bentR at hQ
  generalize (FP.f2i (FP.fadd h (UInt32.ofNat (Int.toNat 1056964608)))).toInt = z at *
  by_cases h2 : z < 0
  · rw [if_pos h2] at hQ
    rw [e_t h2, fin 0 hQ]
    trivial
  · rw [if_neg h2] at hQ
    rw [e_f h2]
    by_cases h3 : 255 < z
    · rw [if_pos h3] at hQ
      rw [e_t h3, fin 255 hQ]
      trivial
    · rw [if_neg h3] at hQ
      rw [e_f h3, fin z hQ]
      trivial
/-- what a CHANNEL becomes when it is BENT -/
def bntP (b : xB) (cu : Nat) (v : Int) (held r : Int) : Prop := (b 29 cu = 0 ∧ r = v) ∨ (b 29 cu ≠ 0 ∧ ∃ K, skK b cu (b 29 cu).toNat v K ∧
  r = (if b 32 (cu * 8 + (skL b cu (b 29 cu).toNat v K).1) = 1 ∨ b 32 (cu * 8 + (skL b cu (b 29 cu).toNat v K).2) = 1 then held else
    if (skL b cu (b 29 cu).toNat v K).2 = (skL b cu (b 29 cu).toNat v K).1 then bentR (FP.fadd (x_i2f (b 33 (cu * 8 + (skL b cu (b 29 cu).toNat v K).1))) (UInt32.ofNat (Int.toNat 1056964608)))
    else bentR (FP.fadd (hgt b (cu * 8 + (skL b cu (b 29 cu).toNat v K).1) v) (UInt32.ofNat (Int.toNat 1056964608)))))
theorem bntP_u {b : xB} {cu : Nat} {v held r r' : Int} (h : bntP b cu v held r) (h' : bntP b cu v held r') : r = r' := by
  rcases h with ⟨a1, a2⟩ | ⟨a1, K, a2, a3⟩ <;> rcases h' with ⟨b1, b2⟩ | ⟨b1, K', b2, b3⟩
  · rw [a2, b2]
  · exact absurd a1 b1
  · exact absurd b1 a1
  · have e := skK_u a2 b2
    subst e
    rw [a3, b3]
theorem bntP_c {b b' : xB} {cu : Nat} {v held r : Int} (h : bntP b cu v held r) (e29 : b' 29 = b 29) (e30 : b' 30 = b 30) (e32 : b' 32 = b 32) (e33 : b' 33 = b 33) : bntP b' cu v held r := by
  unfold bntP skK skL hgt at *
  rw [e29, e30, e32, e33]
  exact h
theorem bent_A {b g : xB} {ch cu v : Nat} (hch : ch < 72) (hcu : cu < 4) (hV : rV b (g 71)) (s590 : g 71 (590 + ch) = (cu : Int)) (hv : v ≤ 255) (h43 : b 43 ch = g 71 (662 + ch)) (h0 : 0 ≤ b 43 ch) (h255 : b 43 ch ≤ 255) : ∃ (r : Int) (b' : xB), bntP b cu v (b 43 ch) r ∧ 0 ≤ r ∧ r ≤ 255 ∧ (∀ r', r' ≠ 205 → r' ≠ 206 → b' r' = b r') ∧ (∀ Q : Int → xB → Prop, Q r b' → w_V_bentAt b cu v (b 43 ch) Q) ∧ (∀ Q : Int → xB → Prop, Q r (x_up g 71 (662 + ch) r) → w_m_bentValue g ch v Q = True) := by
  have wrap : ∀ (Q : Int → xB → Prop) (r1 : Int), (∀ Q' : Int → xB → Prop, Q' r1 g → w_m_curveAt g cu v Q' = True) → (x_br (r1 = 2143289344) (w_m_bentValue_j84 Q g ch) (vn_sni2f (Int32.ofInt r1) = false ∧ (vf_n32 (FP.fadd (x_i2f r1) (UInt32.ofNat (Int.toNat 1056964608))) ∧ (x_br (((FP.f2i (FP.fadd (x_i2f r1) (UInt32.ofNat (Int.toNat 1056964608)))).toInt) < 0) (w_m_bentValue_j83 Q g ch (xw (662 + ch)) 0) (x_br ((255 : Int) < ((FP.f2i (FP.fadd (x_i2f r1) (UInt32.ofNat (Int.toNat 1056964608)))).toInt)) (w_m_bentValue_j83 Q g ch (xw (662 + ch)) 255) (w_m_bentValue_j83 Q g ch (xw (662 + ch)) ((FP.f2i (FP.fadd (x_i2f r1) (UInt32.ofNat (Int.toNat 1056964608)))).toInt))))))) → w_m_bentValue g ch v Q = True := by
    intro Q r1 hc hj
    have := hc (fun r1 g2 => x_br (r1 = 2143289344) (w_m_bentValue_j84 Q g2 ch) (vn_sni2f (Int32.ofInt r1) = false ∧ (vf_n32 (FP.fadd (x_i2f r1) (UInt32.ofNat (Int.toNat 1056964608))) ∧ (x_br (((FP.f2i (FP.fadd (x_i2f r1) (UInt32.ofNat (Int.toNat 1056964608)))).toInt) < 0) (w_m_bentValue_j83 Q g2 ch (xw (662 + ch)) 0) (x_br ((255 : Int) < ((FP.f2i (FP.fadd (x_i2f r1) (UInt32.ofNat (Int.toNat 1056964608)))).toInt)) (w_m_bentValue_j83 Q g2 ch (xw (662 + ch)) 255) (w_m_bentValue_j83 Q g2 ch (xw (662 + ch)) ((FP.f2i (FP.fadd (x_i2f r1) (UInt32.ofNat (Int.toNat 1056964608)))).toInt))))))) hj
    refine eq_true ?_
    unfold w_m_bentValue
    rw [show xw (590 + (ch : Int)) = ((590 + ch : Nat) : Int) from (xw_id (by omega) (by omega)).trans (by omega), Int.toNat_natCast, s590, e_gd (by omega) (by omega), e_f (by omega), e_gd (by omega) (by omega), this]
    trivial
  rcases curve_cases (v := v) hcu (hV cu hcu) hv with ⟨n0, hm⟩ | ⟨n0, L, R, ⟨K, hKK, hLR⟩, hL8, hR8, hsk, hLb, hRb, hx0, hx1, hx2, hcase⟩
  · have hn : FP.Core.val32 (FP.i2f (Int32.ofInt (v : Int))) ≠ .nan := by
      rw [fz_i2f (by omega)]
      exact fz_nn _ _
    refine ⟨v, b, Or.inl ⟨n0, rfl⟩, by omega, by omega, fun _ _ _ => rfl, fun Q hQ => ?_, fun Q hQ => wrap Q _ hm (m_bent_j hch (i2f_f2i _) (hole_bits hn) hn ?_)⟩
    · simp (disch := omega) only [w_V_bentAt, e_T, e_F, e_t, e_f, e_gd, e_bg0, e_bg1, e_nz, Int.toNat_natCast, Int.toNat_add, Int.toNat_mul, xw_al, xw_ar, xw_ml, xw_mr, xw_sl, xw_sr, xw_id, x_sl_c, mc3, mc6, mc8, mc12, mc64, mc72, Nat.add_assoc, Int.reduceToNat, L_isLine_t, L_isLine_f, R_has_t, R_has_f, R_isCh_t, R_isCh_f, V_isCurve_t, V_isCurve_f, Q_isCue_t, Q_isCue_f, Q_isList_t, Q_isList_f, B_isPb_t, B_isPb_f, m_in_t, m_in_f, m_isLine_t, m_isLine_f, m_isPb_t, m_isPb_f, m_isFx_t, m_isFx_f, F_note_e, m_finds_e, Int.reduceToNat, noted_neg, up_eq, up_r, up_i, fil_in, fil_i, fil_r]
      exact hQ
    · rw [v_half v (by omega)]
      exact hQ
  · have cls : ∀ (Q : Int → xB → Prop), w_V_isHole (x_up (x_up b 205 0 ((cu * 8 + L : Nat) : Int)) 206 0 ((cu * 8 + R : Nat) : Int)) (fun r2 b3 => x_br (r2 = 0) (w_V_height b3 v (fun r4 b5 => vf_n32 (FP.fadd r4 (UInt32.ofNat (Int.toNat 1056964608))) ∧ (x_br (((Op.cmpValue (FP.fcmp (FP.fadd r4 (UInt32.ofNat (Int.toNat 1056964608))) (UInt32.ofNat (Int.toNat 1132396544))) CmpOp.l).toInt) < 0) (x_br ((0 : Int) < ((Op.cmpValue (FP.fcmp (FP.fadd r4 (UInt32.ofNat (Int.toNat 1056964608))) FP.fconst0) CmpOp.g).toInt)) (Q ((FP.f2i (FP.fadd r4 (UInt32.ofNat (Int.toNat 1056964608)))).toInt) b5) (Q 0 b5)) (Q 255 b5)))) (Q (b 43 ch) b3)) → w_V_bentAt b cu v (b 43 ch) Q := by
      intro Q h
      unfold w_V_bentAt
      rw [e_gd (by omega) (by omega), Int.toNat_natCast, e_f n0]
      exact hsk _ h
    rcases hcase with ⟨hh, hm⟩ | ⟨q1, q2, q3, q4, q5, hm⟩ | ⟨q1, q2, q3, q4, q5, q6, q7, q8, q9, hm⟩
    · refine ⟨b 43 ch, x_up (x_up b 205 0 ((cu * 8 + L : Nat) : Int)) 206 0 ((cu * 8 + R : Nat) : Int), Or.inr ⟨n0, K, hKK, by rw [hLR]; exact (if_pos hh).symm⟩, h0, h255, fun r' a1 a2 => by rw [upR a2, upR a1], fun Q hQ => cls Q ?_, fun Q hQ => wrap Q _ hm ?_⟩
      · rcases hLb with e | e
        · have e2 : b 32 (cu * 8 + R) = 1 := by omega
          simp (disch := omega) only [w_V_isHole, e_T, e_F, e_t, e_f, e_gd, e_bg0, e_bg1, e_nz, Int.toNat_natCast, Int.toNat_add, Int.toNat_mul, xw_al, xw_ar, xw_ml, xw_mr, xw_sl, xw_sr, xw_id, x_sl_c, mc3, mc6, mc8, mc12, mc64, mc72, Nat.add_assoc, Int.reduceToNat, L_isLine_t, L_isLine_f, R_has_t, R_has_f, R_isCh_t, R_isCh_f, V_isCurve_t, V_isCurve_f, Q_isCue_t, Q_isCue_f, Q_isList_t, Q_isList_f, B_isPb_t, B_isPb_f, m_in_t, m_in_f, m_isLine_t, m_isLine_f, m_isPb_t, m_isPb_f, m_isFx_t, m_isFx_f, F_note_e, m_finds_e, Int.reduceToNat, noted_neg, up_eq, up_r, up_i, fil_in, fil_i, fil_r]
          exact hQ
        · simp (disch := omega) only [w_V_isHole, e_T, e_F, e_t, e_f, e_gd, e_bg0, e_bg1, e_nz, Int.toNat_natCast, Int.toNat_add, Int.toNat_mul, xw_al, xw_ar, xw_ml, xw_mr, xw_sl, xw_sr, xw_id, x_sl_c, mc3, mc6, mc8, mc12, mc64, mc72, Nat.add_assoc, Int.reduceToNat, L_isLine_t, L_isLine_f, R_has_t, R_has_f, R_isCh_t, R_isCh_f, V_isCurve_t, V_isCurve_f, Q_isCue_t, Q_isCue_f, Q_isList_t, Q_isList_f, B_isPb_t, B_isPb_f, m_in_t, m_in_f, m_isLine_t, m_isLine_f, m_isPb_t, m_isPb_f, m_isFx_t, m_isFx_f, F_note_e, m_finds_e, Int.reduceToNat, noted_neg, up_eq, up_r, up_i, fil_in, fil_i, fil_r]
          exact hQ
      · rw [e_t rfl]
        rw [up_self h43.symm, h43] at hQ
        simp (disch := omega) only [w_m_bentValue_j84, e_T, e_F, e_t, e_f, e_gd, e_bg0, e_bg1, e_nz, Int.toNat_natCast, Int.toNat_add, Int.toNat_mul, xw_al, xw_ar, xw_ml, xw_mr, xw_sl, xw_sr, xw_id, x_sl_c, mc3, mc6, mc8, mc12, mc64, mc72, Nat.add_assoc, Int.reduceToNat, L_isLine_t, L_isLine_f, R_has_t, R_has_f, R_isCh_t, R_isCh_f, V_isCurve_t, V_isCurve_f, Q_isCue_t, Q_isCue_f, Q_isList_t, Q_isList_f, B_isPb_t, B_isPb_f, m_in_t, m_in_f, m_isLine_t, m_isLine_f, m_isPb_t, m_isPb_f, m_isFx_t, m_isFx_f, F_note_e, m_finds_e, Int.reduceToNat, noted_neg, up_eq, up_r, up_i, fil_in, fil_i, fil_r]
        exact hQ
    · subst q2
      refine ⟨bentR (FP.fadd (x_i2f (b 33 (cu * 8 + R))) (UInt32.ofNat (Int.toNat 1056964608))), x_up (x_up b 205 0 ((cu * 8 + R : Nat) : Int)) 206 0 ((cu * 8 + R : Nat) : Int), Or.inr ⟨n0, K, hKK, by rw [hLR]; exact ((if_neg (show ¬ (b 32 (cu * 8 + R) = 1 ∨ b 32 (cu * 8 + R) = 1) by omega)).trans (if_pos rfl)).symm⟩, (bentR_bd _).1, (bentR_bd _).2, fun r' a1 a2 => by rw [upR a2, upR a1], fun Q hQ => cls Q ?_, fun Q hQ => wrap Q _ hm ?_⟩
      · have hn : FP.Core.val32 (x_i2f (b 33 (cu * 8 + R))) ≠ .nan := by rw [q5]; exact q4.ne_nan
        simp (disch := omega) only [w_V_isHole, w_V_height, e_T, e_F, e_t, e_f, e_gd, e_bg0, e_bg1, e_nz, Int.toNat_natCast, Int.toNat_add, Int.toNat_mul, xw_al, xw_ar, xw_ml, xw_mr, xw_sl, xw_sr, xw_id, x_sl_c, mc3, mc6, mc8, mc12, mc64, mc72, Nat.add_assoc, Int.reduceToNat, L_isLine_t, L_isLine_f, R_has_t, R_has_f, R_isCh_t, R_isCh_f, V_isCurve_t, V_isCurve_f, Q_isCue_t, Q_isCue_f, Q_isList_t, Q_isList_f, B_isPb_t, B_isPb_f, m_in_t, m_in_f, m_isLine_t, m_isLine_f, m_isPb_t, m_isPb_f, m_isFx_t, m_isFx_f, F_note_e, m_finds_e, Int.reduceToNat, noted_neg, up_eq, up_r, up_i, fil_in, fil_i, fil_r]
        exact ⟨n32_of (half_nn hn), bentR_e (Q := fun r => Q r (x_up (x_up b 205 0 ((cu * 8 + R : Nat) : Int)) 206 0 ((cu * 8 + R : Nat) : Int))) (half_nn hn) hQ⟩
      · rw [q5] at hQ
        refine m_bent_j hch rfl ?_ q4.ne_nan hQ
        intro z
        rw [z] at q4
        exact q4.ne_nan (by decide +kernel)
    · subst q3
      have ok := hgt_ok (b := b) (i := cu * 8 + L) (v := (v : Int)) q4 q5 hx0 (by rw [← Nat.add_assoc] at hx2; exact hx2) q8 q9
      refine ⟨bentR (FP.fadd (hgt b (cu * 8 + L) v) (UInt32.ofNat (Int.toNat 1056964608))), x_up (x_up b 205 0 ((cu * 8 + L : Nat) : Int)) 206 0 ((cu * 8 + (L + 1) : Nat) : Int), Or.inr ⟨n0, K, hKK, by rw [hLR]; exact ((if_neg (show ¬ (b 32 (cu * 8 + L) = 1 ∨ b 32 (cu * 8 + (L + 1)) = 1) by omega)).trans (if_neg (show ¬ (L + 1 = L) by omega))).symm⟩, (bentR_bd _).1, (bentR_bd _).2, fun r' a1 a2 => by rw [upR a2, upR a1], fun Q hQ => cls Q ?_, fun Q hQ => wrap Q _ hm (m_bent_j hch (i2f_f2i _) (hole_bits ok.2.2.2) ok.2.2.2 hQ)⟩
      have hn := ok.2.2.2
      have q5' : (v : Int) < b 30 (cu * 8 + (L + 1)) := by rw [← Nat.add_assoc]; exact q5
      have ok' := ok
      unfold hgt at ok' hQ hn
      rw [Nat.add_assoc] at ok' hQ hn
      simp (disch := omega) only [w_V_isHole, w_V_height, e_T, e_F, e_t, e_f, e_gd, e_bg0, e_bg1, e_nz, Int.toNat_natCast, Int.toNat_add, Int.toNat_mul, xw_al, xw_ar, xw_ml, xw_mr, xw_sl, xw_sr, xw_id, x_sl_c, mc3, mc6, mc8, mc12, mc64, mc72, Nat.add_assoc, Int.reduceToNat, L_isLine_t, L_isLine_f, R_has_t, R_has_f, R_isCh_t, R_isCh_f, V_isCurve_t, V_isCurve_f, Q_isCue_t, Q_isCue_f, Q_isList_t, Q_isList_f, B_isPb_t, B_isPb_f, m_in_t, m_in_f, m_isLine_t, m_isLine_f, m_isPb_t, m_isPb_f, m_isFx_t, m_isFx_f, F_note_e, m_finds_e, Int.reduceToNat, noted_neg, up_eq, up_r, up_i, fil_in, fil_i, fil_r]
      exact ⟨n32_of ok'.1, n32_of ok'.2.1, n32_of ok'.2.2.1, n32_of ok'.2.2.2, n32_of (half_nn hn), bentR_e (Q := fun r => Q r (x_up (x_up b 205 0 ((cu * 8 + L : Nat) : Int)) 206 0 ((cu * 8 + (L + 1) : Nat) : Int))) (half_nn hn) hQ⟩
/-- point -/
theorem a_point {n : Nat} {b g : xB} {c x y : Int} (hy : x_in y) (h : rB n b (g 71)) : aC n b g (w_V_add b c x y) (w_m_point g c x y) 9 c x y 0 0 := by
  by_cases he : x_and y 2147483647 = 2139095040
  · by_cases hc : 0 ≤ c ∧ c < 4
    · by_cases hx0 : x < 0
      · exact aC_bad h (-2) (fun Q hQ => by simp (disch := omega) only [w_V_add, e_T, e_F, e_t, e_f, e_gd, e_bg0, e_bg1, e_nz, Int.toNat_natCast, Int.toNat_add, Int.toNat_mul, xw_al, xw_ar, xw_ml, xw_mr, xw_sl, xw_sr, xw_id, x_sl_c, mc3, mc6, mc8, mc12, mc64, mc72, Nat.add_assoc, Int.reduceToNat, L_isLine_t, L_isLine_f, R_has_t, R_has_f, R_isCh_t, R_isCh_f, V_isCurve_t, V_isCurve_f, Q_isCue_t, Q_isCue_f, Q_isList_t, Q_isList_f, B_isPb_t, B_isPb_f, m_in_t, m_in_f, m_isLine_t, m_isLine_f, m_isPb_t, m_isPb_f, m_isFx_t, m_isFx_f, F_note_e, m_finds_e, Int.reduceToNat, noted_neg]; exact hQ) (fun Q hQ => by simp (disch := omega) only [w_m_point, w_m_pointed, w_m_pointed_j14, e_T, e_F, e_t, e_f, e_gd, e_bg0, e_bg1, e_nz, Int.toNat_natCast, Int.toNat_add, Int.toNat_mul, xw_al, xw_ar, xw_ml, xw_mr, xw_sl, xw_sr, xw_id, x_sl_c, mc3, mc6, mc8, mc12, mc64, mc72, Nat.add_assoc, Int.reduceToNat, L_isLine_t, L_isLine_f, R_has_t, R_has_f, R_isCh_t, R_isCh_f, V_isCurve_t, V_isCurve_f, Q_isCue_t, Q_isCue_f, Q_isList_t, Q_isList_f, B_isPb_t, B_isPb_f, m_in_t, m_in_f, m_isLine_t, m_isLine_f, m_isPb_t, m_isPb_f, m_isFx_t, m_isFx_f, F_note_e, m_finds_e, Int.reduceToNat, noted_neg] at hQ ⊢; exact hQ)
      · by_cases hx1 : 255 < x
        · exact aC_bad h (-2) (fun Q hQ => by simp (disch := omega) only [w_V_add, e_T, e_F, e_t, e_f, e_gd, e_bg0, e_bg1, e_nz, Int.toNat_natCast, Int.toNat_add, Int.toNat_mul, xw_al, xw_ar, xw_ml, xw_mr, xw_sl, xw_sr, xw_id, x_sl_c, mc3, mc6, mc8, mc12, mc64, mc72, Nat.add_assoc, Int.reduceToNat, L_isLine_t, L_isLine_f, R_has_t, R_has_f, R_isCh_t, R_isCh_f, V_isCurve_t, V_isCurve_f, Q_isCue_t, Q_isCue_f, Q_isList_t, Q_isList_f, B_isPb_t, B_isPb_f, m_in_t, m_in_f, m_isLine_t, m_isLine_f, m_isPb_t, m_isPb_f, m_isFx_t, m_isFx_f, F_note_e, m_finds_e, Int.reduceToNat, noted_neg]; exact hQ) (fun Q hQ => by simp (disch := omega) only [w_m_point, w_m_pointed, w_m_pointed_j14, e_T, e_F, e_t, e_f, e_gd, e_bg0, e_bg1, e_nz, Int.toNat_natCast, Int.toNat_add, Int.toNat_mul, xw_al, xw_ar, xw_ml, xw_mr, xw_sl, xw_sr, xw_id, x_sl_c, mc3, mc6, mc8, mc12, mc64, mc72, Nat.add_assoc, Int.reduceToNat, L_isLine_t, L_isLine_f, R_has_t, R_has_f, R_isCh_t, R_isCh_f, V_isCurve_t, V_isCurve_f, Q_isCue_t, Q_isCue_f, Q_isList_t, Q_isList_f, B_isPb_t, B_isPb_f, m_in_t, m_in_f, m_isLine_t, m_isLine_f, m_isPb_t, m_isPb_f, m_isFx_t, m_isFx_f, F_note_e, m_finds_e, Int.reduceToNat, noted_neg] at hQ ⊢; exact hQ)
        · exact aC_bad h (-2) (fun Q hQ => by simp (disch := omega) only [w_V_add, e_T, e_F, e_t, e_f, e_gd, e_bg0, e_bg1, e_nz, Int.toNat_natCast, Int.toNat_add, Int.toNat_mul, xw_al, xw_ar, xw_ml, xw_mr, xw_sl, xw_sr, xw_id, x_sl_c, mc3, mc6, mc8, mc12, mc64, mc72, Nat.add_assoc, Int.reduceToNat, L_isLine_t, L_isLine_f, R_has_t, R_has_f, R_isCh_t, R_isCh_f, V_isCurve_t, V_isCurve_f, Q_isCue_t, Q_isCue_f, Q_isList_t, Q_isList_f, B_isPb_t, B_isPb_f, m_in_t, m_in_f, m_isLine_t, m_isLine_f, m_isPb_t, m_isPb_f, m_isFx_t, m_isFx_f, F_note_e, m_finds_e, Int.reduceToNat, noted_neg]; exact hQ) (fun Q hQ => by simp (disch := omega) only [w_m_point, w_m_pointed, w_m_pointed_j14, e_T, e_F, e_t, e_f, e_gd, e_bg0, e_bg1, e_nz, Int.toNat_natCast, Int.toNat_add, Int.toNat_mul, xw_al, xw_ar, xw_ml, xw_mr, xw_sl, xw_sr, xw_id, x_sl_c, mc3, mc6, mc8, mc12, mc64, mc72, Nat.add_assoc, Int.reduceToNat, L_isLine_t, L_isLine_f, R_has_t, R_has_f, R_isCh_t, R_isCh_f, V_isCurve_t, V_isCurve_f, Q_isCue_t, Q_isCue_f, Q_isList_t, Q_isList_f, B_isPb_t, B_isPb_f, m_in_t, m_in_f, m_isLine_t, m_isLine_f, m_isPb_t, m_isPb_f, m_isFx_t, m_isFx_f, F_note_e, m_finds_e, Int.reduceToNat, noted_neg] at hQ ⊢; exact hQ)
    · exact aC_bad h (-2) (fun Q hQ => by simp (disch := omega) only [w_V_add, e_T, e_F, e_t, e_f, e_gd, e_bg0, e_bg1, e_nz, Int.toNat_natCast, Int.toNat_add, Int.toNat_mul, xw_al, xw_ar, xw_ml, xw_mr, xw_sl, xw_sr, xw_id, x_sl_c, mc3, mc6, mc8, mc12, mc64, mc72, Nat.add_assoc, Int.reduceToNat, L_isLine_t, L_isLine_f, R_has_t, R_has_f, R_isCh_t, R_isCh_f, V_isCurve_t, V_isCurve_f, Q_isCue_t, Q_isCue_f, Q_isList_t, Q_isList_f, B_isPb_t, B_isPb_f, m_in_t, m_in_f, m_isLine_t, m_isLine_f, m_isPb_t, m_isPb_f, m_isFx_t, m_isFx_f, F_note_e, m_finds_e, Int.reduceToNat, noted_neg]; exact hQ) (fun Q hQ => by simp (disch := omega) only [w_m_point, w_m_pointed, w_m_pointed_j14, e_T, e_F, e_t, e_f, e_gd, e_bg0, e_bg1, e_nz, Int.toNat_natCast, Int.toNat_add, Int.toNat_mul, xw_al, xw_ar, xw_ml, xw_mr, xw_sl, xw_sr, xw_id, x_sl_c, mc3, mc6, mc8, mc12, mc64, mc72, Nat.add_assoc, Int.reduceToNat, L_isLine_t, L_isLine_f, R_has_t, R_has_f, R_isCh_t, R_isCh_f, V_isCurve_t, V_isCurve_f, Q_isCue_t, Q_isCue_f, Q_isList_t, Q_isList_f, B_isPb_t, B_isPb_f, m_in_t, m_in_f, m_isLine_t, m_isLine_f, m_isPb_t, m_isPb_f, m_isFx_t, m_isFx_f, F_note_e, m_finds_e, Int.reduceToNat, noted_neg] at hQ ⊢; exact hQ)
  · by_cases hc : 0 ≤ c ∧ c < 4
    · by_cases hx0 : x < 0
      · exact aC_bad h (-2) (fun Q hQ => by simp (disch := omega) only [w_V_add, e_T, e_F, e_t, e_f, e_gd, e_bg0, e_bg1, e_nz, Int.toNat_natCast, Int.toNat_add, Int.toNat_mul, xw_al, xw_ar, xw_ml, xw_mr, xw_sl, xw_sr, xw_id, x_sl_c, mc3, mc6, mc8, mc12, mc64, mc72, Nat.add_assoc, Int.reduceToNat, L_isLine_t, L_isLine_f, R_has_t, R_has_f, R_isCh_t, R_isCh_f, V_isCurve_t, V_isCurve_f, Q_isCue_t, Q_isCue_f, Q_isList_t, Q_isList_f, B_isPb_t, B_isPb_f, m_in_t, m_in_f, m_isLine_t, m_isLine_f, m_isPb_t, m_isPb_f, m_isFx_t, m_isFx_f, F_note_e, m_finds_e, Int.reduceToNat, noted_neg]; exact hQ) (fun Q hQ => by simp (disch := omega) only [w_m_point, w_m_pointed, w_m_pointed_j14, e_T, e_F, e_t, e_f, e_gd, e_bg0, e_bg1, e_nz, Int.toNat_natCast, Int.toNat_add, Int.toNat_mul, xw_al, xw_ar, xw_ml, xw_mr, xw_sl, xw_sr, xw_id, x_sl_c, mc3, mc6, mc8, mc12, mc64, mc72, Nat.add_assoc, Int.reduceToNat, L_isLine_t, L_isLine_f, R_has_t, R_has_f, R_isCh_t, R_isCh_f, V_isCurve_t, V_isCurve_f, Q_isCue_t, Q_isCue_f, Q_isList_t, Q_isList_f, B_isPb_t, B_isPb_f, m_in_t, m_in_f, m_isLine_t, m_isLine_f, m_isPb_t, m_isPb_f, m_isFx_t, m_isFx_f, F_note_e, m_finds_e, Int.reduceToNat, noted_neg] at hQ ⊢; exact hQ)
      by_cases hx1 : 255 < x
      · exact aC_bad h (-2) (fun Q hQ => by simp (disch := omega) only [w_V_add, e_T, e_F, e_t, e_f, e_gd, e_bg0, e_bg1, e_nz, Int.toNat_natCast, Int.toNat_add, Int.toNat_mul, xw_al, xw_ar, xw_ml, xw_mr, xw_sl, xw_sr, xw_id, x_sl_c, mc3, mc6, mc8, mc12, mc64, mc72, Nat.add_assoc, Int.reduceToNat, L_isLine_t, L_isLine_f, R_has_t, R_has_f, R_isCh_t, R_isCh_f, V_isCurve_t, V_isCurve_f, Q_isCue_t, Q_isCue_f, Q_isList_t, Q_isList_f, B_isPb_t, B_isPb_f, m_in_t, m_in_f, m_isLine_t, m_isLine_f, m_isPb_t, m_isPb_f, m_isFx_t, m_isFx_f, F_note_e, m_finds_e, Int.reduceToNat, noted_neg]; exact hQ) (fun Q hQ => by simp (disch := omega) only [w_m_point, w_m_pointed, w_m_pointed_j14, e_T, e_F, e_t, e_f, e_gd, e_bg0, e_bg1, e_nz, Int.toNat_natCast, Int.toNat_add, Int.toNat_mul, xw_al, xw_ar, xw_ml, xw_mr, xw_sl, xw_sr, xw_id, x_sl_c, mc3, mc6, mc8, mc12, mc64, mc72, Nat.add_assoc, Int.reduceToNat, L_isLine_t, L_isLine_f, R_has_t, R_has_f, R_isCh_t, R_isCh_f, V_isCurve_t, V_isCurve_f, Q_isCue_t, Q_isCue_f, Q_isList_t, Q_isList_f, B_isPb_t, B_isPb_f, m_in_t, m_in_f, m_isLine_t, m_isLine_f, m_isPb_t, m_isPb_f, m_isFx_t, m_isFx_f, F_note_e, m_finds_e, Int.reduceToNat, noted_neg] at hQ ⊢; exact hQ)
      obtain ⟨C, rfl⟩ := nat_of hc.1
      obtain ⟨c1, c2, c3, c4, c5⟩ := h.2.2.2.2.1 C (by omega)
      obtain ⟨m, hm⟩ := nat_of c2
      have hg : g 71 (806 + C) = (m : Int) := by omega
      have last : ∀ (hm0 : 0 < m), b 30 (C * 8 + (m - 1)) = g 71 (810 + (C * 8 + (m - 1))) := fun hm0 => (c4 (m - 1) (by omega)).1
      have ix : (C : Int) * 8 + m - 1 = ((C * 8 + m : Nat) : Int) - 1 := by omega
      by_cases hlast : 0 < m ∧ x ≤ b 30 (C * 8 + (m - 1))
      · have l1 := last hlast.1
        have iy : (C : Int) * 8 + m - 1 = ((C * 8 + (m - 1) : Nat) : Int) := by omega
        have iz : (810 : Int) + 8 * C + m - 1 = ((810 + (C * 8 + (m - 1)) : Nat) : Int) := by omega
        refine aC_bad h (-2) (fun Q hQ => ?_) (fun Q hQ => ?_)
        · simp (disch := omega) only [w_V_add, hm, iy, e_T, e_F, e_t, e_f, e_gd, e_bg0, e_bg1, e_nz, Int.toNat_natCast, Int.toNat_add, Int.toNat_mul, xw_al, xw_ar, xw_ml, xw_mr, xw_sl, xw_sr, xw_id, x_sl_c, mc3, mc6, mc8, mc12, mc64, mc72, Nat.add_assoc, Int.reduceToNat, L_isLine_t, L_isLine_f, R_has_t, R_has_f, R_isCh_t, R_isCh_f, V_isCurve_t, V_isCurve_f, Q_isCue_t, Q_isCue_f, Q_isList_t, Q_isList_f, B_isPb_t, B_isPb_f, m_in_t, m_in_f, m_isLine_t, m_isLine_f, m_isPb_t, m_isPb_f, m_isFx_t, m_isFx_f, F_note_e, m_finds_e, Int.reduceToNat, noted_neg]
          exact hQ
        · simp (disch := omega) only [w_m_point, w_m_pointed, w_m_pointed_j14, hg, iz, e_T, e_F, e_t, e_f, e_gd, e_bg0, e_bg1, e_nz, Int.toNat_natCast, Int.toNat_add, Int.toNat_mul, xw_al, xw_ar, xw_ml, xw_mr, xw_sl, xw_sr, xw_id, x_sl_c, mc3, mc6, mc8, mc12, mc64, mc72, Nat.add_assoc, Int.reduceToNat, L_isLine_t, L_isLine_f, R_has_t, R_has_f, R_isCh_t, R_isCh_f, V_isCurve_t, V_isCurve_f, Q_isCue_t, Q_isCue_f, Q_isList_t, Q_isList_f, B_isPb_t, B_isPb_f, m_in_t, m_in_f, m_isLine_t, m_isLine_f, m_isPb_t, m_isPb_f, m_isFx_t, m_isFx_f, F_note_e, m_finds_e, Int.reduceToNat, noted_neg] at hQ ⊢
          exact hQ
      · have tail : ∀ Q : Int → xB → Prop, w_V_add_j68 Q b C x y ((C : Int) * 8 + m) → w_V_add b C x y Q := by
          intro Q hQ
          by_cases hm0 : 0 < m
          · have l1 := last hm0
            have iy : (C : Int) * 8 + m - 1 = ((C * 8 + (m - 1) : Nat) : Int) := by omega
            simp (disch := omega) only [w_V_add, hm, iy, e_T, e_F, e_t, e_f, e_gd, e_bg0, e_bg1, e_nz, Int.toNat_natCast, Int.toNat_add, Int.toNat_mul, xw_al, xw_ar, xw_ml, xw_mr, xw_sl, xw_sr, xw_id, x_sl_c, mc3, mc6, mc8, mc12, mc64, mc72, Nat.add_assoc, Int.reduceToNat, L_isLine_t, L_isLine_f, R_has_t, R_has_f, R_isCh_t, R_isCh_f, V_isCurve_t, V_isCurve_f, Q_isCue_t, Q_isCue_f, Q_isList_t, Q_isList_f, B_isPb_t, B_isPb_f, m_in_t, m_in_f, m_isLine_t, m_isLine_f, m_isPb_t, m_isPb_f, m_isFx_t, m_isFx_f, F_note_e, m_finds_e, Int.reduceToNat, noted_neg]
            exact hQ
          · simp (disch := omega) only [w_V_add, hm, e_T, e_F, e_t, e_f, e_gd, e_bg0, e_bg1, e_nz, Int.toNat_natCast, Int.toNat_add, Int.toNat_mul, xw_al, xw_ar, xw_ml, xw_mr, xw_sl, xw_sr, xw_id, x_sl_c, mc3, mc6, mc8, mc12, mc64, mc72, Nat.add_assoc, Int.reduceToNat, L_isLine_t, L_isLine_f, R_has_t, R_has_f, R_isCh_t, R_isCh_f, V_isCurve_t, V_isCurve_f, Q_isCue_t, Q_isCue_f, Q_isList_t, Q_isList_f, B_isPb_t, B_isPb_f, m_in_t, m_in_f, m_isLine_t, m_isLine_f, m_isPb_t, m_isPb_f, m_isFx_t, m_isFx_f, F_note_e, m_finds_e, Int.reduceToNat, noted_neg]
            exact hQ
        have tailm : ∀ Q : Int → xB → Prop, w_m_pointed_j86 (fun r1 g2 => w_m_noted g2 r1 9 C x y 0 0 (fun r3 g4 => Q r3 g4)) g C x y m → w_m_point g C x y Q := by
          intro Q hQ
          by_cases hm0 : 0 < m
          · have l1 := last hm0
            have iz : (810 : Int) + 8 * C + m - 1 = ((810 + (C * 8 + (m - 1)) : Nat) : Int) := by omega
            simp (disch := omega) only [w_m_point, w_m_pointed, w_m_pointed_j14, hg, iz, e_T, e_F, e_t, e_f, e_gd, e_bg0, e_bg1, e_nz, Int.toNat_natCast, Int.toNat_add, Int.toNat_mul, xw_al, xw_ar, xw_ml, xw_mr, xw_sl, xw_sr, xw_id, x_sl_c, mc3, mc6, mc8, mc12, mc64, mc72, Nat.add_assoc, Int.reduceToNat, L_isLine_t, L_isLine_f, R_has_t, R_has_f, R_isCh_t, R_isCh_f, V_isCurve_t, V_isCurve_f, Q_isCue_t, Q_isCue_f, Q_isList_t, Q_isList_f, B_isPb_t, B_isPb_f, m_in_t, m_in_f, m_isLine_t, m_isLine_f, m_isPb_t, m_isPb_f, m_isFx_t, m_isFx_f, F_note_e, m_finds_e, Int.reduceToNat, noted_neg]
            exact hQ
          · simp (disch := omega) only [w_m_point, w_m_pointed, w_m_pointed_j14, hg, e_T, e_F, e_t, e_f, e_gd, e_bg0, e_bg1, e_nz, Int.toNat_natCast, Int.toNat_add, Int.toNat_mul, xw_al, xw_ar, xw_ml, xw_mr, xw_sl, xw_sr, xw_id, x_sl_c, mc3, mc6, mc8, mc12, mc64, mc72, Nat.add_assoc, Int.reduceToNat, L_isLine_t, L_isLine_f, R_has_t, R_has_f, R_isCh_t, R_isCh_f, V_isCurve_t, V_isCurve_f, Q_isCue_t, Q_isCue_f, Q_isList_t, Q_isList_f, B_isPb_t, B_isPb_f, m_in_t, m_in_f, m_isLine_t, m_isLine_f, m_isPb_t, m_isPb_f, m_isFx_t, m_isFx_f, F_note_e, m_finds_e, Int.reduceToNat, noted_neg]
            exact hQ
        by_cases h8 : m = 8
        · subst h8
          refine aC_bad h (-4) (fun Q hQ => tail Q ?_) (fun Q hQ => tailm Q ?_)
          · simp (disch := omega) only [w_V_add_j68, hm, e_T, e_F, e_t, e_f, e_gd, e_bg0, e_bg1, e_nz, Int.toNat_natCast, Int.toNat_add, Int.toNat_mul, xw_al, xw_ar, xw_ml, xw_mr, xw_sl, xw_sr, xw_id, x_sl_c, mc3, mc6, mc8, mc12, mc64, mc72, Nat.add_assoc, Int.reduceToNat, L_isLine_t, L_isLine_f, R_has_t, R_has_f, R_isCh_t, R_isCh_f, V_isCurve_t, V_isCurve_f, Q_isCue_t, Q_isCue_f, Q_isList_t, Q_isList_f, B_isPb_t, B_isPb_f, m_in_t, m_in_f, m_isLine_t, m_isLine_f, m_isPb_t, m_isPb_f, m_isFx_t, m_isFx_f, F_note_e, m_finds_e, Int.reduceToNat, noted_neg]
            exact hQ
          · simp (disch := omega) only [w_m_pointed_j86, e_T, e_F, e_t, e_f, e_gd, e_bg0, e_bg1, e_nz, Int.toNat_natCast, Int.toNat_add, Int.toNat_mul, xw_al, xw_ar, xw_ml, xw_mr, xw_sl, xw_sr, xw_id, x_sl_c, mc3, mc6, mc8, mc12, mc64, mc72, Nat.add_assoc, Int.reduceToNat, L_isLine_t, L_isLine_f, R_has_t, R_has_f, R_isCh_t, R_isCh_f, V_isCurve_t, V_isCurve_f, Q_isCue_t, Q_isCue_f, Q_isList_t, Q_isList_f, B_isPb_t, B_isPb_f, m_in_t, m_in_f, m_isLine_t, m_isLine_f, m_isPb_t, m_isPb_f, m_isFx_t, m_isFx_f, F_note_e, m_finds_e, Int.reduceToNat, noted_neg] at hQ ⊢
            exact hQ
        · have fin : ∀ (hb : Int) (fb : Int), ((isHole y ∧ hb = 1) ∨ (¬ isHole y ∧ hb = 0 ∧ fb = y)) → rB (n + 1) (x_up (x_up (x_up (x_up (x_up b 30 (C * 8 + m) x) 31 (C * 8 + m) y) 32 (C * 8 + m) hb) 33 (C * 8 + m) fb) 29 C (m + 1)) (x_up (x_up (x_up g 71 (810 + (C * 8 + m)) x) 71 (842 + (C * 8 + m)) y) 71 (806 + C) (m + 1) 71) := by
            intro hb fb hbf
            refine rB_le (Nat.le_succ n) ?_
            obtain ⟨hF, hL, hR, hP, hV, hQ, hY, hE, hX, hT, hW⟩ := h
            refine ⟨rF_c hF rfl (fun i _ _ => by simp (disch := omega) only [up_i, fil_i]), rL_c hL rfl rfl rfl rfl rfl rfl (fun i hi => by simp (disch := omega) only [up_i, fil_i]), rR_c hR rfl rfl rfl rfl rfl rfl rfl rfl rfl (fun i hi => by simp (disch := omega) only [up_i, fil_i]), rP_c hP rfl rfl rfl rfl rfl rfl rfl (fun i hi => by simp (disch := omega) only [up_i, fil_i]), ?_, rQ_c hQ rfl rfl rfl rfl rfl rfl rfl rfl (Int.le_refl _) (fun i _ hi => by simp (disch := omega) only [up_i, fil_i]), rY_c hY rfl rfl rfl rfl rfl rfl rfl rfl rfl rfl rfl rfl rfl (fun _ _ => Int.le_refl _) (Int.le_refl _) (Int.le_refl _) (fun _ _ => rfl) (Int.le_refl _) (fun i _ _ hi => by simp (disch := omega) only [up_i, fil_i]), rE_c hE rfl rfl (fun i _ hi => by simp (disch := omega) only [up_i, fil_i]), rX_c hX rfl rfl rfl rfl rfl (Int.le_refl _) (fun _ _ => rfl) (fun i hi => by simp (disch := omega) only [up_i, fil_i]), rT_c hT rfl rfl (by simp (disch := omega) only [up_i, fil_i]) (by simp (disch := omega) only [up_i, fil_i]), rW_c hW (Int.le_refl _) (Int.le_refl _) rfl (by simp (disch := omega) only [up_i, fil_i]) (by simp (disch := omega) only [up_i, fil_i])⟩
            intro k hk
            by_cases e : k = C
            · subst e
              refine ⟨by simp (disch := omega) only [up_eq, up_r, up_i, fil_in, fil_i, fil_r], by simp (disch := omega) only [up_eq, up_r, up_i, fil_in, fil_i, fil_r]; omega, by simp (disch := omega) only [up_eq, up_r, up_i, fil_in, fil_i, fil_r]; omega, fun i hi => ?_, fun i j hij hj => ?_⟩
              · have hi : (i : Int) < m + 1 := by
                  have : x_up (x_up (x_up (x_up (x_up b 30 (k * 8 + m) x) 31 (k * 8 + m) y) 32 (k * 8 + m) hb) 33 (k * 8 + m) fb) 29 k (m + 1) 29 k = m + 1 := by simp (disch := omega) only [up_eq, up_r, up_i, fil_in, fil_i, fil_r]
                  omega
                by_cases e2 : i = m
                · subst e2
                  refine ⟨by simp (disch := omega) only [up_eq, up_r, up_i, fil_in, fil_i, fil_r], by simp (disch := omega) only [up_eq, up_r, up_i, fil_in, fil_i, fil_r]; omega, by simp (disch := omega) only [up_eq, up_r, up_i, fil_in, fil_i, fil_r]; omega, by simp (disch := omega) only [up_eq, up_r, up_i, fil_in, fil_i, fil_r], by simp (disch := omega) only [up_eq, up_r, up_i, fil_in, fil_i, fil_r]; exact hy, by simp (disch := omega) only [up_eq, up_r, up_i, fil_in, fil_i, fil_r]; exact he, ?_⟩
                  simp (disch := omega) only [up_eq, up_r, up_i, fil_in, fil_i, fil_r]
                  exact hbf
                · simp (disch := omega) only [up_eq, up_r, up_i, fil_in, fil_i, fil_r]
                  exact c4 i (by omega)
              · have hj : (j : Int) < m + 1 := by
                  have : x_up (x_up (x_up (x_up (x_up b 30 (k * 8 + m) x) 31 (k * 8 + m) y) 32 (k * 8 + m) hb) 33 (k * 8 + m) fb) 29 k (m + 1) 29 k = m + 1 := by simp (disch := omega) only [up_eq, up_r, up_i, fil_in, fil_i, fil_r]
                  omega
                by_cases e2 : j = m
                · subst e2
                  simp (disch := omega) only [up_eq, up_r, up_i, fil_in, fil_i, fil_r]
                  have : b 30 (k * 8 + (j - 1)) < x := by omega
                  by_cases e3 : i = j - 1
                  · subst e3
                    exact this
                  · have := c5 i (j - 1) (by omega) (by omega)
                    omega
                · simp (disch := omega) only [up_eq, up_r, up_i, fil_in, fil_i, fil_r]
                  exact c5 i j hij (by omega)
            · exact rV1_c hk (hV k hk) (by simp (disch := omega) only [up_eq, up_r, up_i, fil_in, fil_i, fil_r]) (fun i hi => by simp (disch := omega) only [up_eq, up_r, up_i, fil_in, fil_i, fil_r]) (fun i hi => by simp (disch := omega) only [up_eq, up_r, up_i, fil_in, fil_i, fil_r]) (fun i hi => by simp (disch := omega) only [up_eq, up_r, up_i, fil_in, fil_i, fil_r]) (fun i hi => by simp (disch := omega) only [up_eq, up_r, up_i, fil_in, fil_i, fil_r]) (by simp (disch := omega) only [up_eq, up_r, up_i, fil_in, fil_i, fil_r]) (fun i hi => by simp (disch := omega) only [up_eq, up_r, up_i, fil_in, fil_i, fil_r]) (fun i hi => by simp (disch := omega) only [up_eq, up_r, up_i, fil_in, fil_i, fil_r])
          have mq : ∀ Q : Int → xB → Prop, w_m_noted (x_up (x_up (x_up g 71 (810 + (C * 8 + m)) x) 71 (842 + (C * 8 + m)) y) 71 (806 + C) (m + 1)) (m + 1) 9 C x y 0 0 Q → w_m_point g C x y Q := by
            intro Q hQ
            refine tailm Q ?_
            simp (disch := omega) only [w_m_pointed_j86, hg, e_T, e_F, e_t, e_f, e_gd, e_bg0, e_bg1, e_nz, Int.toNat_natCast, Int.toNat_add, Int.toNat_mul, xw_al, xw_ar, xw_ml, xw_mr, xw_sl, xw_sr, xw_id, x_sl_c, mc3, mc6, mc8, mc12, mc64, mc72, Nat.add_assoc, Int.reduceToNat, L_isLine_t, L_isLine_f, R_has_t, R_has_f, R_isCh_t, R_isCh_f, V_isCurve_t, V_isCurve_f, Q_isCue_t, Q_isCue_f, Q_isList_t, Q_isList_f, B_isPb_t, B_isPb_f, m_in_t, m_in_f, m_isLine_t, m_isLine_f, m_isPb_t, m_isPb_f, m_isFx_t, m_isFx_f, F_note_e, m_finds_e, Int.reduceToNat, noted_neg, up_eq, up_r, up_i, fil_in, fil_i, fil_r]
            exact hQ
          by_cases hh : isHole y
          · have hh' : 2139095040 < x_and y 2147483647 := hh
            refine ⟨m + 1, _, _, fun Q hQ => tail Q ?_, mq, ⟨fin 1 (x_f2i FP.fconst0) (Or.inl ⟨hh, rfl⟩), mS_up (mS_up (mS_up mS_rf)), rfl, rfl⟩, rfl⟩
            simp (disch := omega) only [w_V_add_j68, w_V_add_j118, w_V_add_j143, hm, e_T, e_F, e_t, e_f, e_gd, e_bg0, e_bg1, e_nz, Int.toNat_natCast, Int.toNat_add, Int.toNat_mul, xw_al, xw_ar, xw_ml, xw_mr, xw_sl, xw_sr, xw_id, x_sl_c, mc3, mc6, mc8, mc12, mc64, mc72, Nat.add_assoc, Int.reduceToNat, L_isLine_t, L_isLine_f, R_has_t, R_has_f, R_isCh_t, R_isCh_f, V_isCurve_t, V_isCurve_f, Q_isCue_t, Q_isCue_f, Q_isList_t, Q_isList_f, B_isPb_t, B_isPb_f, m_in_t, m_in_f, m_isLine_t, m_isLine_f, m_isPb_t, m_isPb_f, m_isFx_t, m_isFx_f, F_note_e, m_finds_e, Int.reduceToNat, noted_neg, up_eq, up_r, up_i, fil_in, fil_i, fil_r]
            exact hQ
          · have hh' : ¬ 2139095040 < x_and y 2147483647 := hh
            refine ⟨m + 1, _, _, fun Q hQ => tail Q ?_, mq, ⟨fin 0 y (Or.inr ⟨hh, rfl, rfl⟩), mS_up (mS_up (mS_up mS_rf)), rfl, rfl⟩, rfl⟩
            simp (disch := omega) only [w_V_add_j68, w_V_add_j118, w_V_add_j143, hm, e_T, e_F, e_t, e_f, e_gd, e_bg0, e_bg1, e_nz, Int.toNat_natCast, Int.toNat_add, Int.toNat_mul, xw_al, xw_ar, xw_ml, xw_mr, xw_sl, xw_sr, xw_id, x_sl_c, mc3, mc6, mc8, mc12, mc64, mc72, Nat.add_assoc, Int.reduceToNat, L_isLine_t, L_isLine_f, R_has_t, R_has_f, R_isCh_t, R_isCh_f, V_isCurve_t, V_isCurve_f, Q_isCue_t, Q_isCue_f, Q_isList_t, Q_isList_f, B_isPb_t, B_isPb_f, m_in_t, m_in_f, m_isLine_t, m_isLine_f, m_isPb_t, m_isPb_f, m_isFx_t, m_isFx_f, F_note_e, m_finds_e, Int.reduceToNat, noted_neg, up_eq, up_r, up_i, fil_in, fil_i, fil_r]
            refine V_floatOf_i hy ?_ ?_
            · rw [x_and31 hy] at hh' he
              omega
            · rw [f2i_i2f hy]
              exact hQ
    · exact aC_bad h (-2) (fun Q hQ => by simp (disch := omega) only [w_V_add, e_T, e_F, e_t, e_f, e_gd, e_bg0, e_bg1, e_nz, Int.toNat_natCast, Int.toNat_add, Int.toNat_mul, xw_al, xw_ar, xw_ml, xw_mr, xw_sl, xw_sr, xw_id, x_sl_c, mc3, mc6, mc8, mc12, mc64, mc72, Nat.add_assoc, Int.reduceToNat, L_isLine_t, L_isLine_f, R_has_t, R_has_f, R_isCh_t, R_isCh_f, V_isCurve_t, V_isCurve_f, Q_isCue_t, Q_isCue_f, Q_isList_t, Q_isList_f, B_isPb_t, B_isPb_f, m_in_t, m_in_f, m_isLine_t, m_isLine_f, m_isPb_t, m_isPb_f, m_isFx_t, m_isFx_f, F_note_e, m_finds_e, Int.reduceToNat, noted_neg]; exact hQ) (fun Q hQ => by simp (disch := omega) only [w_m_point, w_m_pointed, w_m_pointed_j14, e_T, e_F, e_t, e_f, e_gd, e_bg0, e_bg1, e_nz, Int.toNat_natCast, Int.toNat_add, Int.toNat_mul, xw_al, xw_ar, xw_ml, xw_mr, xw_sl, xw_sr, xw_id, x_sl_c, mc3, mc6, mc8, mc12, mc64, mc72, Nat.add_assoc, Int.reduceToNat, L_isLine_t, L_isLine_f, R_has_t, R_has_f, R_isCh_t, R_isCh_f, V_isCurve_t, V_isCurve_f, Q_isCue_t, Q_isCue_f, Q_isList_t, Q_isList_f, B_isPb_t, B_isPb_f, m_in_t, m_in_f, m_isLine_t, m_isLine_f, m_isPb_t, m_isPb_f, m_isFx_t, m_isFx_f, F_note_e, m_finds_e, Int.reduceToNat, noted_neg] at hQ ⊢; exact hQ)
