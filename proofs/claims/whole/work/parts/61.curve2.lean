/-! ===== CURVES on both sides ===== -/
theorem pt_fin {z : Int} (hz : x_in z) (h1 : x_and z 2147483647 ≠ 2139095040) (h2 : ¬ isHole z) : FP.Core.FFin (x_i2f z) := by
  unfold isHole at h2
  rw [x_and31 hz] at h1 h2
  rw [FP.Core.fin_bits32]
  omega
theorem sni_f {z : Int} (h : FP.Core.val32 (x_i2f z) ≠ .nan) : vn_sni2f (Int32.ofInt z) = false := by
  have h1 := (FP.Core.ne_nan32 _).mp h
  unfold vn_sni2f
  have : ¬ ((Int32.ofInt z).toUInt32 &&& 0x7fffffff > 0x7f800000) := by
    intro h2
    have h2 := UInt32.lt_iff_toNat_lt.mp h2
    rw [FP.Core.mask_toNat32] at h2
    have : (0x7f800000 : UInt32).toNat = 2139095040 := rfl
    have e : ((Int32.ofInt z).toUInt32).toNat = (x_i2f z).toNat := rfl
    omega
  rw [decide_eq_false this, Bool.false_and]
theorem hole_bits {h : UInt32} (hn : FP.Core.val32 h ≠ .nan) : x_f2i h ≠ 2143289344 := by
  intro e
  have : h = x_i2f 2143289344 := by rw [← e, i2f_f2i]
  subst this
  exact hn (by decide +kernel)
theorem J_f2b {h : UInt32} (hn : FP.Core.val32 h ≠ .nan) {Q : Int → Prop} : w_J_floatToIntBits h Q = Q (x_f2i h) := by
  unfold w_J_floatToIntBits w_J_isNaN
  rw [e_t ((cmp_lt hn hn rfl rfl).2.2.mpr rfl)]
  exact e_t rfl
theorem m_none_t {z : Int} {Q : Int → Prop} (h : isHole z) : w_m_isNone z Q = Q 1 := e_t h
theorem m_none_f {z : Int} {Q : Int → Prop} (h : ¬ isHole z) : w_m_isNone z Q = Q 0 := e_f h
/-- the height between two POINTS -/
def hgt (b : xB) (i : Nat) (v : Int) : UInt32 := FP.fadd (x_i2f (b 33 i)) (FP.fmul (FP.fsub (x_i2f (b 33 (i + 1))) (x_i2f (b 33 i))) (FP.fdiv (FP.i2f (Int32.ofInt (v - b 30 i))) (FP.i2f (Int32.ofInt (b 30 (i + 1) - b 30 i)))))
/-- no act on the way gives what is no number -/
theorem hgt_ok {b : xB} {i : Nat} {v : Int} (h1 : b 30 i < v) (h2 : v < b 30 (i + 1)) (h3 : 0 ≤ b 30 i) (h4 : b 30 (i + 1) ≤ 255) (f1 : FP.Core.FFin (x_i2f (b 33 i))) (f2 : FP.Core.FFin (x_i2f (b 33 (i + 1)))) : FP.Core.val32 (FP.fdiv (FP.i2f (Int32.ofInt (v - b 30 i))) (FP.i2f (Int32.ofInt (b 30 (i + 1) - b 30 i)))) ≠ .nan ∧ FP.Core.val32 (FP.fsub (x_i2f (b 33 (i + 1))) (x_i2f (b 33 i))) ≠ .nan ∧ FP.Core.val32 (FP.fmul (FP.fsub (x_i2f (b 33 (i + 1))) (x_i2f (b 33 i))) (FP.fdiv (FP.i2f (Int32.ofInt (v - b 30 i))) (FP.i2f (Int32.ofInt (b 30 (i + 1) - b 30 i))))) ≠ .nan ∧ FP.Core.val32 (hgt b i v) ≠ .nan := by
  obtain ⟨n1, e1⟩ := nat_of (l := v - b 30 i) (by omega)
  obtain ⟨n2, e2⟩ := nat_of (l := b 30 (i + 1) - b 30 i) (by omega)
  unfold hgt
  rw [e1, e2]
  obtain ⟨p1, p2, p3⟩ := part_ok (n1 := n1) (n2 := n2) (by omega) (by omega) (by omega)
  have d := FP.Core.fsub_out (f2.notNaN) f1
  have t := FP.Core.fmul_out' d p1 p2
  exact ⟨p1.ne_nan, n32_iff d, n32_iff t, n32_iff (FP.Core.fadd_out' f1 t)⟩
theorem curve_cases {b g : xB} {c : Nat} {v : Nat} (hc : c < 4) (hV : rV1 b (g 71) c) (hv : v ≤ 255) :
    (b 29 c = 0 ∧ ∀ Q : Int → xB → Prop, Q (x_f2i (FP.i2f (Int32.ofInt (v : Int)))) g → w_m_curveAt g c v Q = True) ∨
    (b 29 c ≠ 0 ∧ ∃ L R : Nat, (∃ K, skK b c (b 29 c).toNat v K ∧ skL b c (b 29 c).toNat v K = (L, R)) ∧ L < 8 ∧ R < 8 ∧ (∀ Q : xB → Prop, Q (x_up (x_up b 205 0 ((c * 8 + L : Nat) : Int)) 206 0 ((c * 8 + R : Nat) : Int)) → w_V_seek b c v Q) ∧ (b 32 (c * 8 + L) = 0 ∨ b 32 (c * 8 + L) = 1) ∧ (b 32 (c * 8 + R) = 0 ∨ b 32 (c * 8 + R) = 1) ∧ 0 ≤ b 30 (c * 8 + L) ∧ b 30 (c * 8 + L) ≤ 255 ∧ b 30 (c * 8 + R) ≤ 255 ∧
      (((b 32 (c * 8 + L) = 1 ∨ b 32 (c * 8 + R) = 1) ∧ ∀ Q : Int → xB → Prop, Q 2143289344 g → w_m_curveAt g c v Q = True) ∨
       (b 32 (c * 8 + L) = 0 ∧ R = L ∧ x_in (b 31 (c * 8 + L)) ∧ FP.Core.FFin (x_i2f (b 31 (c * 8 + L))) ∧ b 33 (c * 8 + L) = b 31 (c * 8 + L) ∧ ∀ Q : Int → xB → Prop, Q (b 31 (c * 8 + L)) g → w_m_curveAt g c v Q = True) ∨
       (b 32 (c * 8 + L) = 0 ∧ b 32 (c * 8 + R) = 0 ∧ R = L + 1 ∧ b 30 (c * 8 + L) < v ∧ (v : Int) < b 30 (c * 8 + L + 1) ∧ x_in (b 31 (c * 8 + L)) ∧ b 33 (c * 8 + L) = b 31 (c * 8 + L) ∧ FP.Core.FFin (x_i2f (b 33 (c * 8 + L))) ∧ FP.Core.FFin (x_i2f (b 33 (c * 8 + L + 1))) ∧ ∀ Q : Int → xB → Prop, Q (x_f2i (hgt b (c * 8 + L) v)) g → w_m_curveAt g c v Q = True))) := by
  obtain ⟨c1, c2, c3, c4, c5⟩ := hV
  by_cases h0 : b 29 c = 0
  · left
    refine ⟨h0, fun Q hQ => eq_true ?_⟩
    have hn : FP.Core.val32 (FP.i2f (Int32.ofInt (v : Int))) ≠ .nan := by
      rw [fz_i2f (by omega)]
      exact fz_nn _ _
    simp (disch := omega) only [w_m_curveAt, e_T, e_F, e_t, e_f, e_gd, e_bg0, e_bg1, e_nz, Int.toNat_natCast, Int.toNat_add, Int.toNat_mul, xw_al, xw_ar, xw_ml, xw_mr, xw_sl, xw_sr, xw_id, x_sl_c, mc3, mc6, mc8, mc12, mc64, mc72, Nat.add_assoc, Int.reduceToNat, L_isLine_t, L_isLine_f, R_has_t, R_has_f, R_isCh_t, R_isCh_f, V_isCurve_t, V_isCurve_f, Q_isCue_t, Q_isCue_f, Q_isList_t, Q_isList_f, B_isPb_t, B_isPb_f, m_in_t, m_in_f, m_isLine_t, m_isLine_f, m_isPb_t, m_isPb_f, m_isFx_t, m_isFx_f, F_note_e, m_finds_e, Int.reduceToNat, noted_neg, up_eq, up_r, up_i, fil_in, fil_i, fil_r]
    rw [J_f2b hn]
    exact hQ
  · right
    refine ⟨h0, ?_⟩
    obtain ⟨n, hn⟩ := nat_of c2
    have hn8 : n ≤ 8 := by omega
    obtain ⟨K, hK, hm⟩ := m_cK (b := b) (g := g) (v := (v : Int)) hc hn8 (fun k hk => (c4 k (by omega)).1) (fun k j hk hj => c5 k j hk (by omega)) n 0 (by omega) (fun i hi => absurd hi (Nat.not_lt_zero i))
    have sk := fun (Q : xB → Prop) hQ => V_seek_i (Q := Q) hc hn8 (by omega) hn hK (fun k j hk hj => c5 k j hk (by omega)) hQ
    have s29 : g 71 (806 + c) = (n : Int) := by omega
    have wrap : ∀ Q : Int → xB → Prop, w_m_curveAt_j70 Q g v n ((810 + c * 8 : Nat) : Int) ((842 + c * 8 : Nat) : Int) K → w_m_curveAt g c v Q = True := by
      intro Q hj
      have := hm Q (fun g6 v2_1 v3_2 v4_3 v5_4 v6_5 => w_m_curveAt_j70 Q g6 v2_1 v3_2 v4_3 v5_4 v6_5) hj
      refine eq_true ?_
      simp (disch := omega) only [w_m_curveAt, s29, e_T, e_F, e_t, e_f, e_gd, e_bg0, e_bg1, e_nz, Int.toNat_natCast, Int.toNat_add, Int.toNat_mul, xw_al, xw_ar, xw_ml, xw_mr, xw_sl, xw_sr, xw_id, x_sl_c, mc3, mc6, mc8, mc12, mc64, mc72, Nat.add_assoc, Int.reduceToNat, L_isLine_t, L_isLine_f, R_has_t, R_has_f, R_isCh_t, R_isCh_f, V_isCurve_t, V_isCurve_f, Q_isCue_t, Q_isCue_f, Q_isList_t, Q_isList_f, B_isPb_t, B_isPb_f, m_in_t, m_in_f, m_isLine_t, m_isLine_f, m_isPb_t, m_isPb_f, m_isFx_t, m_isFx_f, F_note_e, m_finds_e, Int.reduceToNat, noted_neg, up_eq, up_r, up_i, fil_in, fil_i, fil_r]
      rw [show (810 : Int) + 8 * c = ((810 + c * 8 : Nat) : Int) by omega, show (842 : Int) + 8 * c = ((842 + c * 8 : Nat) : Int) by omega]
      exact ⟨n + 1, this⟩
    have hKn : skK b c (b 29 c).toNat v K := by rw [hn, Int.toNat_natCast]; exact hK
    have en : (b 29 c).toNat = n := by rw [hn, Int.toNat_natCast]
    obtain ⟨k1, k2, k3⟩ := hK
    have single : ∀ S : Nat, S < n → skL b c n v K = (S, S) → (∀ Q : Int → xB → Prop, w_m_curveAt_j115 Q g ((842 + c * 8 : Nat) : Int) S = True → w_m_curveAt_j70 Q g v n ((810 + c * 8 : Nat) : Int) ((842 + c * 8 : Nat) : Int) K) → ∃ L R : Nat, (∃ K, skK b c (b 29 c).toNat v K ∧ skL b c (b 29 c).toNat v K = (L, R)) ∧ L < 8 ∧ R < 8 ∧ (∀ Q : xB → Prop, Q (x_up (x_up b 205 0 ((c * 8 + L : Nat) : Int)) 206 0 ((c * 8 + R : Nat) : Int)) → w_V_seek b c v Q) ∧ (b 32 (c * 8 + L) = 0 ∨ b 32 (c * 8 + L) = 1) ∧ (b 32 (c * 8 + R) = 0 ∨ b 32 (c * 8 + R) = 1) ∧ 0 ≤ b 30 (c * 8 + L) ∧ b 30 (c * 8 + L) ≤ 255 ∧ b 30 (c * 8 + R) ≤ 255 ∧
      (((b 32 (c * 8 + L) = 1 ∨ b 32 (c * 8 + R) = 1) ∧ ∀ Q : Int → xB → Prop, Q 2143289344 g → w_m_curveAt g c v Q = True) ∨
       (b 32 (c * 8 + L) = 0 ∧ R = L ∧ x_in (b 31 (c * 8 + L)) ∧ FP.Core.FFin (x_i2f (b 31 (c * 8 + L))) ∧ b 33 (c * 8 + L) = b 31 (c * 8 + L) ∧ ∀ Q : Int → xB → Prop, Q (b 31 (c * 8 + L)) g → w_m_curveAt g c v Q = True) ∨
       (b 32 (c * 8 + L) = 0 ∧ b 32 (c * 8 + R) = 0 ∧ R = L + 1 ∧ b 30 (c * 8 + L) < v ∧ (v : Int) < b 30 (c * 8 + L + 1) ∧ x_in (b 31 (c * 8 + L)) ∧ b 33 (c * 8 + L) = b 31 (c * 8 + L) ∧ FP.Core.FFin (x_i2f (b 33 (c * 8 + L))) ∧ FP.Core.FFin (x_i2f (b 33 (c * 8 + L + 1))) ∧ ∀ Q : Int → xB → Prop, Q (x_f2i (hgt b (c * 8 + L) v)) g → w_m_curveAt g c v Q = True)) := by
      intro S hS hsk hj
      obtain ⟨p1, p2, p3, p4, p5, p6, p7⟩ := c4 S (by omega)
      rw [hsk] at sk
      rcases p7 with ⟨q1, q2⟩ | ⟨q1, q2, q3⟩
      · refine ⟨S, S, ⟨K, hKn, by rw [en]; exact hsk⟩, by omega, by omega, sk, Or.inr q2, Or.inr q2, p2, p3, p3, Or.inl ⟨Or.inl q2, fun Q hQ => wrap Q (hj Q (eq_true ?_))⟩⟩
        have : isHole (g 71 (842 + (c * 8 + S))) := by rw [← p4]; exact q1
        simp (disch := omega) only [w_m_curveAt_j115, m_none_t this, e_T, e_F, e_t, e_f, e_gd, e_bg0, e_bg1, e_nz, Int.toNat_natCast, Int.toNat_add, Int.toNat_mul, xw_al, xw_ar, xw_ml, xw_mr, xw_sl, xw_sr, xw_id, x_sl_c, mc3, mc6, mc8, mc12, mc64, mc72, Nat.add_assoc, Int.reduceToNat, L_isLine_t, L_isLine_f, R_has_t, R_has_f, R_isCh_t, R_isCh_f, V_isCurve_t, V_isCurve_f, Q_isCue_t, Q_isCue_f, Q_isList_t, Q_isList_f, B_isPb_t, B_isPb_f, m_in_t, m_in_f, m_isLine_t, m_isLine_f, m_isPb_t, m_isPb_f, m_isFx_t, m_isFx_f, F_note_e, m_finds_e, Int.reduceToNat, noted_neg, up_eq, up_r, up_i, fil_in, fil_i, fil_r]
        exact hQ
      · refine ⟨S, S, ⟨K, hKn, by rw [en]; exact hsk⟩, by omega, by omega, sk, Or.inl q2, Or.inl q2, p2, p3, p3, Or.inr (Or.inl ⟨q2, rfl, p5, pt_fin p5 p6 q1, q3, fun Q hQ => wrap Q (hj Q (eq_true ?_))⟩)⟩
        have : ¬ isHole (g 71 (842 + (c * 8 + S))) := by rw [← p4]; exact q1
        rw [p4] at hQ
        simp (disch := omega) only [w_m_curveAt_j115, m_none_f this, e_T, e_F, e_t, e_f, e_gd, e_bg0, e_bg1, e_nz, Int.toNat_natCast, Int.toNat_add, Int.toNat_mul, xw_al, xw_ar, xw_ml, xw_mr, xw_sl, xw_sr, xw_id, x_sl_c, mc3, mc6, mc8, mc12, mc64, mc72, Nat.add_assoc, Int.reduceToNat, L_isLine_t, L_isLine_f, R_has_t, R_has_f, R_isCh_t, R_isCh_f, V_isCurve_t, V_isCurve_f, Q_isCue_t, Q_isCue_f, Q_isList_t, Q_isList_f, B_isPb_t, B_isPb_f, m_in_t, m_in_f, m_isLine_t, m_isLine_f, m_isPb_t, m_isPb_f, m_isFx_t, m_isFx_f, F_note_e, m_finds_e, Int.reduceToNat, noted_neg, up_eq, up_r, up_i, fil_in, fil_i, fil_r]
        exact hQ
    by_cases e : K = n
    · refine single (n - 1) (by omega) (if_pos e) (fun Q h => ?_)
      simp (disch := omega) only [w_m_curveAt_j70, w_m_curveAt_j95, e_T, e_F, e_t, e_f, e_gd, e_bg0, e_bg1, e_nz, Int.toNat_natCast, Int.toNat_add, Int.toNat_mul, xw_al, xw_ar, xw_ml, xw_mr, xw_sl, xw_sr, xw_id, x_sl_c, mc3, mc6, mc8, mc12, mc64, mc72, Nat.add_assoc, Int.reduceToNat, L_isLine_t, L_isLine_f, R_has_t, R_has_f, R_isCh_t, R_isCh_f, V_isCurve_t, V_isCurve_f, Q_isCue_t, Q_isCue_f, Q_isList_t, Q_isList_f, B_isPb_t, B_isPb_f, m_in_t, m_in_f, m_isLine_t, m_isLine_f, m_isPb_t, m_isPb_f, m_isFx_t, m_isFx_f, F_note_e, m_finds_e, Int.reduceToNat, noted_neg, up_eq, up_r, up_i, fil_in, fil_i, fil_r]
      rw [show (n : Int) - 1 = ((n - 1 : Nat) : Int) by omega]
      simp only [h]
    · by_cases e2 : b 30 (c * 8 + K) = v ∨ K = 0
      · refine single K (by omega) ((if_neg e).trans (if_pos e2)) (fun Q h => ?_)
        have p1 := (c4 K (by omega)).1
        by_cases e3 : K = 0
        · simp (disch := omega) only [w_m_curveAt_j70, w_m_curveAt_j95, e_T, e_F, e_t, e_f, e_gd, e_bg0, e_bg1, e_nz, Int.toNat_natCast, Int.toNat_add, Int.toNat_mul, xw_al, xw_ar, xw_ml, xw_mr, xw_sl, xw_sr, xw_id, x_sl_c, mc3, mc6, mc8, mc12, mc64, mc72, Nat.add_assoc, Int.reduceToNat, L_isLine_t, L_isLine_f, R_has_t, R_has_f, R_isCh_t, R_isCh_f, V_isCurve_t, V_isCurve_f, Q_isCue_t, Q_isCue_f, Q_isList_t, Q_isList_f, B_isPb_t, B_isPb_f, m_in_t, m_in_f, m_isLine_t, m_isLine_f, m_isPb_t, m_isPb_f, m_isFx_t, m_isFx_f, F_note_e, m_finds_e, Int.reduceToNat, noted_neg, up_eq, up_r, up_i, fil_in, fil_i, fil_r]
          simp only [h]
        · simp (disch := omega) only [w_m_curveAt_j70, w_m_curveAt_j95, e_T, e_F, e_t, e_f, e_gd, e_bg0, e_bg1, e_nz, Int.toNat_natCast, Int.toNat_add, Int.toNat_mul, xw_al, xw_ar, xw_ml, xw_mr, xw_sl, xw_sr, xw_id, x_sl_c, mc3, mc6, mc8, mc12, mc64, mc72, Nat.add_assoc, Int.reduceToNat, L_isLine_t, L_isLine_f, R_has_t, R_has_f, R_isCh_t, R_isCh_f, V_isCurve_t, V_isCurve_f, Q_isCue_t, Q_isCue_f, Q_isList_t, Q_isList_f, B_isPb_t, B_isPb_f, m_in_t, m_in_f, m_isLine_t, m_isLine_f, m_isPb_t, m_isPb_f, m_isFx_t, m_isFx_f, F_note_e, m_finds_e, Int.reduceToNat, noted_neg, up_eq, up_r, up_i, fil_in, fil_i, fil_r]
          simp only [h]
      · have hsk : skL b c n v K = (K - 1, K) := (if_neg e).trans (if_neg e2)
        rw [hsk] at sk
        have h0 := k3 K (by omega) (by omega)
        have h1 := k2 (K - 1) (by omega)
        obtain ⟨p1, p2, p3, p4, p5, p6, p7⟩ := c4 (K - 1) (by omega)
        obtain ⟨o1, o2, o3, o4, o5, o6, o7⟩ := c4 K (by omega)
        have eK : c * 8 + (K - 1) + 1 = c * 8 + K := by omega
        have iy : ((842 + c * 8 : Nat) : Int) + K - 1 = ((842 + (c * 8 + (K - 1)) : Nat) : Int) := by omega
        have ix : ((810 + c * 8 : Nat) : Int) + K - 1 = ((810 + (c * 8 + (K - 1)) : Nat) : Int) := by omega
        refine ⟨K - 1, K, ⟨K, hKn, by rw [en]; exact hsk⟩, by omega, by omega, sk, ?_, ?_, p2, p3, o3, ?_⟩
        · rcases p7 with ⟨_, q⟩ | ⟨_, q, _⟩ <;> omega
        · rcases o7 with ⟨_, q⟩ | ⟨_, q, _⟩ <;> omega
        · rcases p7 with ⟨q1, q2⟩ | ⟨q1, q2, q3⟩
          · refine Or.inl ⟨Or.inl q2, fun Q hQ => wrap Q ?_⟩
            have t : isHole (g 71 (842 + (c * 8 + (K - 1)))) := by rw [← p4]; exact q1
            simp (disch := omega) only [w_m_curveAt_j70, iy, m_none_t t, e_T, e_F, e_t, e_f, e_gd, e_bg0, e_bg1, e_nz, Int.toNat_natCast, Int.toNat_add, Int.toNat_mul, xw_al, xw_ar, xw_ml, xw_mr, xw_sl, xw_sr, xw_id, x_sl_c, mc3, mc6, mc8, mc12, mc64, mc72, Nat.add_assoc, Int.reduceToNat, L_isLine_t, L_isLine_f, R_has_t, R_has_f, R_isCh_t, R_isCh_f, V_isCurve_t, V_isCurve_f, Q_isCue_t, Q_isCue_f, Q_isList_t, Q_isList_f, B_isPb_t, B_isPb_f, m_in_t, m_in_f, m_isLine_t, m_isLine_f, m_isPb_t, m_isPb_f, m_isFx_t, m_isFx_f, F_note_e, m_finds_e, Int.reduceToNat, noted_neg, up_eq, up_r, up_i, fil_in, fil_i, fil_r]
            exact hQ
          · have t : ¬ isHole (g 71 (842 + (c * 8 + (K - 1)))) := by rw [← p4]; exact q1
            rcases o7 with ⟨r1, r2⟩ | ⟨r1, r2, r3⟩
            · refine Or.inl ⟨Or.inr r2, fun Q hQ => wrap Q ?_⟩
              have t2 : isHole (g 71 (842 + (c * 8 + K))) := by rw [← o4]; exact r1
              simp (disch := omega) only [w_m_curveAt_j70, iy, m_none_f t, m_none_t t2, e_T, e_F, e_t, e_f, e_gd, e_bg0, e_bg1, e_nz, Int.toNat_natCast, Int.toNat_add, Int.toNat_mul, xw_al, xw_ar, xw_ml, xw_mr, xw_sl, xw_sr, xw_id, x_sl_c, mc3, mc6, mc8, mc12, mc64, mc72, Nat.add_assoc, Int.reduceToNat, L_isLine_t, L_isLine_f, R_has_t, R_has_f, R_isCh_t, R_isCh_f, V_isCurve_t, V_isCurve_f, Q_isCue_t, Q_isCue_f, Q_isList_t, Q_isList_f, B_isPb_t, B_isPb_f, m_in_t, m_in_f, m_isLine_t, m_isLine_f, m_isPb_t, m_isPb_f, m_isFx_t, m_isFx_f, F_note_e, m_finds_e, Int.reduceToNat, noted_neg, up_eq, up_r, up_i, fil_in, fil_i, fil_r]
              exact hQ
            · have t2 : ¬ isHole (g 71 (842 + (c * 8 + K))) := by rw [← o4]; exact r1
              have f1 := pt_fin p5 p6 q1
              have f2 := pt_fin o5 o6 r1
              have ok := hgt_ok (b := b) (i := c * 8 + (K - 1)) (v := (v : Int)) h1 (by rw [eK]; omega) p2 (by rw [eK]; exact o3) (by rw [q3]; exact f1) (by rw [eK, r3]; exact f2)
              refine Or.inr (Or.inr ⟨q2, r2, by omega, h1, by rw [eK]; omega, p5, q3, by rw [q3]; exact f1, by rw [eK, r3]; exact f2, fun Q hQ => wrap Q ?_⟩)
              unfold hgt at ok hQ
              rw [eK, q3, r3, p1, o1, p4, o4] at ok hQ
              rw [p4] at f1
              rw [o4] at f2
              simp (disch := omega) only [w_m_curveAt_j70, iy, ix, m_none_f t, m_none_f t2, e_T, e_F, e_t, e_f, e_gd, e_bg0, e_bg1, e_nz, Int.toNat_natCast, Int.toNat_add, Int.toNat_mul, xw_al, xw_ar, xw_ml, xw_mr, xw_sl, xw_sr, xw_id, x_sl_c, mc3, mc6, mc8, mc12, mc64, mc72, Nat.add_assoc, Int.reduceToNat, L_isLine_t, L_isLine_f, R_has_t, R_has_f, R_isCh_t, R_isCh_f, V_isCurve_t, V_isCurve_f, Q_isCue_t, Q_isCue_f, Q_isList_t, Q_isList_f, B_isPb_t, B_isPb_f, m_in_t, m_in_f, m_isLine_t, m_isLine_f, m_isPb_t, m_isPb_f, m_isFx_t, m_isFx_f, F_note_e, m_finds_e, Int.reduceToNat, noted_neg, up_eq, up_r, up_i, fil_in, fil_i, fil_r]
              refine ⟨sni_f f1.ne_nan, sni_f f2.ne_nan, n32_of ok.1, n32_of ok.2.1, n32_of ok.2.2.1, n32_of ok.2.2.2, ?_⟩
              rw [J_f2b ok.2.2.2]
              exact hQ
theorem skK_u {b : xB} {c n K K' : Nat} {v : Int} (h : skK b c n v K) (h' : skK b c n v K') : K = K' := by
  obtain ⟨a1, a2, a3⟩ := h
  obtain ⟨b1, b2, b3⟩ := h'
  rcases Nat.lt_trichotomy K K' with e | e | e
  · have := b2 K e
    have := a3 K (Nat.le_refl K) (by omega)
    omega
  · exact e
  · have := a2 K' e
    have := b3 K' (Nat.le_refl K') (by omega)
    omega
