/-! ===== the book cut ===== -/
theorem cut_A {t g : xB} {N : Nat} (hN : N ≤ 120) (ht : t 1322 0 = (N : Int)) (hr : ∀ i, i < N → rKr t g i) : ∀ (k i : Nat) (w : Int), i + k = N → 0 < w → w ≤ 2000 → bSum t i + w ≤ bSum t N → ∃ (j : Nat) (v : Int), i ≤ j ∧ j < N ∧ t 62 j = 21 ∧ 1 ≤ v ∧ v ≤ t 63 (j * 5) ∧ bSum t j + v = bSum t i + w ∧ (∀ (Q K : xB → Prop), Q (x_up (x_up t 63 (j * 5) v) 1322 0 (j + 1)) → ∃ n, w_K_cutBehind_h4 Q K n t w i) ∧ (∀ (Q : Int → xB → Prop) (K : xB → Int → Prop), K (x_up g 73 (j * 6 + 1) v) ((j + 1 : Nat) : Int) → ∃ n, w_m_back_h52 Q K n g w i)
  | 0, i, w, hi, h0, h2, hs => by
    have : i = N := by omega
    subst this
    omega
  | k + 1, i, w, hi, h0, h2, hs => by
    obtain ⟨r1, r2, r3⟩ := hr i (by omega)
    have q0 : t 63 (i * 5) = g 73 (i * 6 + 1) := r2 0 (by omega)
    have ei : (i : Int) + 1 = ((i + 1 : Nat) : Int) := by omega
    by_cases c21 : t 62 i = 21
    · have k6 := r3.2.2.2.2.2.2 c21
      by_cases hw : t 63 (i * 5) < w
      · obtain ⟨j, v, z1, z2, z3, z4, z5, z6, z7, z8⟩ := cut_A hN ht hr k (i + 1) (w - t 63 (i * 5)) (by omega) (by omega) (by omega) (by rw [bSum_s, if_pos c21]; omega)
        refine ⟨j, v, by omega, z2, z3, z4, z5, by rw [z6, bSum_s, if_pos c21]; omega, fun Q K hQ => ?_, fun Q K hK => ?_⟩
        · obtain ⟨n, z7⟩ := z7 Q K hQ
          refine ⟨n + 1, ?_⟩
          rw [w_K_cutBehind_h4_s, e_t (by omega), e_t (by omega), e_gd (by omega) (by omega), Int.toNat_natCast, e_t c21, show xw ((i : Int) * 5) = ((i * 5 : Nat) : Int) from (xw_id (by omega) (by omega)).trans (by omega), e_gd (by omega) (by omega), Int.toNat_natCast, e_t hw, xw_id (by omega) (by omega), xw_id (by omega) (by omega), ei]
          exact z7
        · obtain ⟨n, z8⟩ := z8 Q K hK
          refine ⟨n + 1, ?_⟩
          rw [w_m_back_h52_s, e_t h0, show xw (6 * (i : Int)) = ((i * 6 : Nat) : Int) from (xw_id (by omega) (by omega)).trans (by omega), e_gd (by omega) (by omega), Int.toNat_natCast, e_t (by omega), show xw (((i * 6 : Nat) : Int) + 1) = ((i * 6 + 1 : Nat) : Int) from (xw_id (by omega) (by omega)).trans (by omega), e_gd (by omega) (by omega), Int.toNat_natCast, e_t (by omega)]
          unfold w_m_back_j105 w_m_back_j119
          rw [e_gd (by omega) (by omega), Int.toNat_natCast, e_t (by omega), up_self rfl, ← q0, xw_id (by omega) (by omega), xw_id (by omega) (by omega), ei]
          exact z8
      · refine ⟨i, w, by omega, by omega, c21, by omega, by omega, rfl, fun Q K hQ => ⟨1, ?_⟩, fun Q K hK => ⟨2, ?_⟩⟩
        · rw [w_K_cutBehind_h4_s, e_t (by omega), e_t (by omega), e_gd (by omega) (by omega), Int.toNat_natCast, e_t c21, show xw ((i : Int) * 5) = ((i * 5 : Nat) : Int) from (xw_id (by omega) (by omega)).trans (by omega), e_gd (by omega) (by omega), Int.toNat_natCast, e_f hw, e_gd (by omega) (by omega), xw_id (by omega) (by omega)]
          exact hQ
        · rw [w_m_back_h52_s, e_t h0, show xw (6 * (i : Int)) = ((i * 6 : Nat) : Int) from (xw_id (by omega) (by omega)).trans (by omega), e_gd (by omega) (by omega), Int.toNat_natCast, e_t (by omega), show xw (((i * 6 : Nat) : Int) + 1) = ((i * 6 + 1 : Nat) : Int) from (xw_id (by omega) (by omega)).trans (by omega), e_gd (by omega) (by omega), Int.toNat_natCast, e_f (by omega)]
          unfold w_m_back_j105 w_m_back_j119
          rw [e_gd (by omega) (by omega), Int.toNat_natCast, e_f (by omega), xw_id (by omega) (by omega), xw_id (by omega) (by omega), ei, w_m_back_h52_s, e_f (by omega)]
          exact hK
    · obtain ⟨j, v, z1, z2, z3, z4, z5, z6, z7, z8⟩ := cut_A hN ht hr k (i + 1) w (by omega) h0 h2 (by rw [bSum_s, if_neg c21]; omega)
      refine ⟨j, v, by omega, z2, z3, z4, z5, by rw [z6, bSum_s, if_neg c21]; omega, fun Q K hQ => ?_, fun Q K hK => ?_⟩
      · obtain ⟨n, z7⟩ := z7 Q K hQ
        refine ⟨n + 1, ?_⟩
        rw [w_K_cutBehind_h4_s, e_t (by omega), e_t (by omega), e_gd (by omega) (by omega), Int.toNat_natCast, e_f c21, xw_id (by omega) (by omega), ei]
        exact z7
      · obtain ⟨n, z8⟩ := z8 Q K hK
        refine ⟨n + 1, ?_⟩
        rw [w_m_back_h52_s, e_t h0, show xw (6 * (i : Int)) = ((i * 6 : Nat) : Int) from (xw_id (by omega) (by omega)).trans (by omega), e_gd (by omega) (by omega), Int.toNat_natCast, e_f (by omega), xw_id (by omega) (by omega), ei]
        exact z8
