/-! ===== CURVES: which POINTS are wanted ===== -/
theorem up_up {b : xB} {r i : Nat} {v w : Int} : x_up (x_up b r i v) r i w = x_up b r i w := by
  funext r' i'
  unfold x_up
  split <;> rfl
theorem up_self {b : xB} {r i : Nat} {v : Int} (h : b r i = v) : x_up b r i v = b := by
  funext r' i'
  unfold x_up
  split
  · rename_i e
    rw [e.1, e.2, h]
  · rfl
/-- K: how many POINTS lie before v -/
def skK (b : xB) (c n : Nat) (v : Int) (K : Nat) : Prop := K ≤ n ∧ (∀ i, i < K → b 30 (c * 8 + i) < v) ∧ (∀ i, K ≤ i → i < n → v ≤ b 30 (c * 8 + i))
/-- the POINTS wanted: left, right -/
def skL (b : xB) (c n : Nat) (v : Int) (K : Nat) : Nat × Nat := if K = n then (n - 1, n - 1) else if b 30 (c * 8 + K) = v ∨ K = 0 then (K, K) else (K - 1, K)
theorem m_cK {b g : xB} {c n : Nat} {v : Int} (hc : c < 4) (hn : n ≤ 8) (hs : ∀ k, k < n → b 30 (c * 8 + k) = g 71 (810 + (c * 8 + k))) (hi : ∀ k j, k < j → j < n → b 30 (c * 8 + k) < b 30 (c * 8 + j)) : ∀ m k : Nat, k + m = n → (∀ i, i < k → b 30 (c * 8 + i) < v) → ∃ K, skK b c n v K ∧ ∀ (Q : Int → xB → Prop) (R : xB → Int → Int → Int → Int → Int → Prop), R g v n ((810 + c * 8 : Nat) : Int) ((842 + c * 8 : Nat) : Int) K → w_m_curveAt_h44 Q R (m + 1) g v n ((810 + c * 8 : Nat) : Int) ((842 + c * 8 : Nat) : Int) k
  | 0, k, hk, h => by
    refine ⟨k, ⟨by omega, h, fun i h1 h2 => by omega⟩, fun Q R hR => ?_⟩
    rw [w_m_curveAt_h44_s]
    simp (disch := omega) only [e_T, e_F, e_t, e_f, e_gd, e_bg0, e_bg1, e_nz, Int.toNat_natCast, Int.toNat_add, Int.toNat_mul, xw_al, xw_ar, xw_ml, xw_mr, xw_sl, xw_sr, xw_id, x_sl_c, mc3, mc6, mc8, mc12, mc64, mc72, Nat.add_assoc, Int.reduceToNat, L_isLine_t, L_isLine_f, R_has_t, R_has_f, R_isCh_t, R_isCh_f, V_isCurve_t, V_isCurve_f, Q_isCue_t, Q_isCue_f, Q_isList_t, Q_isList_f, B_isPb_t, B_isPb_f, m_in_t, m_in_f, m_isLine_t, m_isLine_f, m_isPb_t, m_isPb_f, m_isFx_t, m_isFx_f, F_note_e, m_finds_e, Int.reduceToNat, noted_neg, up_eq, up_r, up_i, fil_in, fil_i, fil_r]
    exact hR
  | m + 1, k, hk, h => by
    have e := hs k (by omega)
    by_cases hv : b 30 (c * 8 + k) < v
    · obtain ⟨K, h1, h2⟩ := m_cK hc hn hs hi m (k + 1) (by omega) (fun i hi' => by
        rcases Nat.lt_or_ge i k with a | a
        · exact h i a
        · rw [show i = k by omega]; exact hv)
      refine ⟨K, h1, fun Q R hR => ?_⟩
      have h2 := h2 Q R hR
      rw [w_m_curveAt_h44_s]
      simp (disch := omega) only [e_T, e_F, e_t, e_f, e_gd, e_bg0, e_bg1, e_nz, Int.toNat_natCast, Int.toNat_add, Int.toNat_mul, xw_al, xw_ar, xw_ml, xw_mr, xw_sl, xw_sr, xw_id, x_sl_c, mc3, mc6, mc8, mc12, mc64, mc72, Nat.add_assoc, Int.reduceToNat, L_isLine_t, L_isLine_f, R_has_t, R_has_f, R_isCh_t, R_isCh_f, V_isCurve_t, V_isCurve_f, Q_isCue_t, Q_isCue_f, Q_isList_t, Q_isList_f, B_isPb_t, B_isPb_f, m_in_t, m_in_f, m_isLine_t, m_isLine_f, m_isPb_t, m_isPb_f, m_isFx_t, m_isFx_f, F_note_e, m_finds_e, Int.reduceToNat, noted_neg, up_eq, up_r, up_i, fil_in, fil_i, fil_r]
      rw [show (k : Int) + 1 = ((k + 1 : Nat) : Int) by omega]
      exact h2
    · refine ⟨k, ⟨by omega, h, fun i h1 h2 => ?_⟩, fun Q R hR => ?_⟩
      · rcases Nat.lt_or_ge k i with a | a
        · have := hi k i a h2
          omega
        · rw [show i = k by omega]; omega
      · rw [w_m_curveAt_h44_s]
        simp (disch := omega) only [e_T, e_F, e_t, e_f, e_gd, e_bg0, e_bg1, e_nz, Int.toNat_natCast, Int.toNat_add, Int.toNat_mul, xw_al, xw_ar, xw_ml, xw_mr, xw_sl, xw_sr, xw_id, x_sl_c, mc3, mc6, mc8, mc12, mc64, mc72, Nat.add_assoc, Int.reduceToNat, L_isLine_t, L_isLine_f, R_has_t, R_has_f, R_isCh_t, R_isCh_f, V_isCurve_t, V_isCurve_f, Q_isCue_t, Q_isCue_f, Q_isList_t, Q_isList_f, B_isPb_t, B_isPb_f, m_in_t, m_in_f, m_isLine_t, m_isLine_f, m_isPb_t, m_isPb_f, m_isFx_t, m_isFx_f, F_note_e, m_finds_e, Int.reduceToNat, noted_neg, up_eq, up_r, up_i, fil_in, fil_i, fil_r]
        exact hR
theorem V_seek_k {b : xB} {c n K' : Nat} {v : Int} (hc : c < 4) (hn : n ≤ 8) (h1 : ∀ i, i < n → (b 30 (c * 8 + i) ≤ v ↔ i < K')) {Q : xB → Prop} {R : xB → Int → Int → Prop} (hR : R (x_up b 205 0 ((c * 8 + (min n K' - 1) : Nat) : Int)) v ((c : Int) * 8 + n - 1)) : ∀ m j : Nat, j + m = n → w_V_seek_h25 Q R (m + 1) (x_up b 205 0 ((c * 8 + (min j K' - 1) : Nat) : Int)) v ((c : Int) * 8 + n - 1) ((c * 8 + j : Nat) : Int)
  | 0, j, hj => by
    have : j = n := by omega
    subst this
    rw [w_V_seek_h25_s]
    simp (disch := omega) only [e_T, e_F, e_t, e_f, e_gd, e_bg0, e_bg1, e_nz, Int.toNat_natCast, Int.toNat_add, Int.toNat_mul, xw_al, xw_ar, xw_ml, xw_mr, xw_sl, xw_sr, xw_id, x_sl_c, mc3, mc6, mc8, mc12, mc64, mc72, Nat.add_assoc, Int.reduceToNat, L_isLine_t, L_isLine_f, R_has_t, R_has_f, R_isCh_t, R_isCh_f, V_isCurve_t, V_isCurve_f, Q_isCue_t, Q_isCue_f, Q_isList_t, Q_isList_f, B_isPb_t, B_isPb_f, m_in_t, m_in_f, m_isLine_t, m_isLine_f, m_isPb_t, m_isPb_f, m_isFx_t, m_isFx_f, F_note_e, m_finds_e, Int.reduceToNat, noted_neg, up_eq, up_r, up_i, fil_in, fil_i, fil_r]
    exact hR
  | m + 1, j, hj => by
    have ih := V_seek_k hc hn h1 (Q := Q) hR m (j + 1) (by omega)
    have hj1 := h1 j (by omega)
    rw [w_V_seek_h25_s]
    by_cases hlt : j < K'
    · have hle := hj1.mpr hlt
      simp (disch := omega) only [e_T, e_F, e_t, e_f, e_gd, e_bg0, e_bg1, e_nz, Int.toNat_natCast, Int.toNat_add, Int.toNat_mul, xw_al, xw_ar, xw_ml, xw_mr, xw_sl, xw_sr, xw_id, x_sl_c, mc3, mc6, mc8, mc12, mc64, mc72, Nat.add_assoc, Int.reduceToNat, L_isLine_t, L_isLine_f, R_has_t, R_has_f, R_isCh_t, R_isCh_f, V_isCurve_t, V_isCurve_f, Q_isCue_t, Q_isCue_f, Q_isList_t, Q_isList_f, B_isPb_t, B_isPb_f, m_in_t, m_in_f, m_isLine_t, m_isLine_f, m_isPb_t, m_isPb_f, m_isFx_t, m_isFx_f, F_note_e, m_finds_e, Int.reduceToNat, noted_neg, up_eq, up_r, up_i, fil_in, fil_i, fil_r]
      rw [show ((c * 8 + j : Nat) : Int) + 1 = ((c * 8 + (j + 1) : Nat) : Int) by omega, up_up]
      rw [show min (j + 1) K' - 1 = j by omega] at ih
      exact ih
    · have hle : v < b 30 (c * 8 + j) := by
        rcases Int.lt_or_le v (b 30 (c * 8 + j)) with a | a
        · exact a
        · exact absurd (hj1.mp a) hlt
      simp (disch := omega) only [e_T, e_F, e_t, e_f, e_gd, e_bg0, e_bg1, e_nz, Int.toNat_natCast, Int.toNat_add, Int.toNat_mul, xw_al, xw_ar, xw_ml, xw_mr, xw_sl, xw_sr, xw_id, x_sl_c, mc3, mc6, mc8, mc12, mc64, mc72, Nat.add_assoc, Int.reduceToNat, L_isLine_t, L_isLine_f, R_has_t, R_has_f, R_isCh_t, R_isCh_f, V_isCurve_t, V_isCurve_f, Q_isCue_t, Q_isCue_f, Q_isList_t, Q_isList_f, B_isPb_t, B_isPb_f, m_in_t, m_in_f, m_isLine_t, m_isLine_f, m_isPb_t, m_isPb_f, m_isFx_t, m_isFx_f, F_note_e, m_finds_e, Int.reduceToNat, noted_neg, up_eq, up_r, up_i, fil_in, fil_i, fil_r]
      rw [show ((c * 8 + j : Nat) : Int) + 1 = ((c * 8 + (j + 1) : Nat) : Int) by omega]
      rw [show min (j + 1) K' - 1 = min j K' - 1 by omega] at ih
      exact ih
theorem V_seek_i {b : xB} {c n K : Nat} {v : Int} (hc : c < 4) (hn : n ≤ 8) (hn1 : 1 ≤ n) (h29 : b 29 c = (n : Int)) (hK : skK b c n v K) (hi : ∀ k j, k < j → j < n → b 30 (c * 8 + k) < b 30 (c * 8 + j)) {Q : xB → Prop} (hQ : Q (x_up (x_up b 205 0 ((c * 8 + (skL b c n v K).1 : Nat) : Int)) 206 0 ((c * 8 + (skL b c n v K).2 : Nat) : Int))) : w_V_seek b c v Q := by
  obtain ⟨k1, k2, k3⟩ := hK
  have fin : ∀ L R K' : Nat, skL b c n v K = (L, R) → (∀ i, i < n → (b 30 (c * 8 + i) ≤ v ↔ i < K')) → min n K' - 1 = L → (R = L ∨ (R = L + 1 ∧ b 30 (c * 8 + L) < v ∧ L + 1 < n)) → (R = L → ¬ (b 30 (c * 8 + L) < v ∧ L + 1 < n)) → L < n → w_V_seek b c v Q := by
    intro L R K' hLR hK' hL hR1 hR2 hLn
    rw [hLR] at hQ
    have hQ : Q (x_up (x_up b 205 0 ((c * 8 + L : Nat) : Int)) 206 0 ((c * 8 + R : Nat) : Int)) := hQ
    have := V_seek_k hc hn hK' (Q := Q) (R := fun b3 v2_1 v4_2 => x_gd (b3 205 0) 32 (x_br ((b3 30 ((b3 205 0).toNat)) < v2_1) (x_br ((b3 205 0) < v4_2) (Q (x_up b3 206 0 (xw ((b3 205 0) + 1)))) (Q (x_up b3 206 0 (b3 205 0)))) (Q (x_up b3 206 0 (b3 205 0))))) (by
      rw [hL]
      rcases hR1 with e | ⟨e, e1, e2⟩
      · subst e
        have hR2 := hR2 rfl
        by_cases z : b 30 (c * 8 + R) < v
        · simp (disch := omega) only [e_T, e_F, e_t, e_f, e_gd, e_bg0, e_bg1, e_nz, Int.toNat_natCast, Int.toNat_add, Int.toNat_mul, xw_al, xw_ar, xw_ml, xw_mr, xw_sl, xw_sr, xw_id, x_sl_c, mc3, mc6, mc8, mc12, mc64, mc72, Nat.add_assoc, Int.reduceToNat, L_isLine_t, L_isLine_f, R_has_t, R_has_f, R_isCh_t, R_isCh_f, V_isCurve_t, V_isCurve_f, Q_isCue_t, Q_isCue_f, Q_isList_t, Q_isList_f, B_isPb_t, B_isPb_f, m_in_t, m_in_f, m_isLine_t, m_isLine_f, m_isPb_t, m_isPb_f, m_isFx_t, m_isFx_f, F_note_e, m_finds_e, Int.reduceToNat, noted_neg, up_eq, up_r, up_i, fil_in, fil_i, fil_r]
          exact hQ
        · simp (disch := omega) only [e_T, e_F, e_t, e_f, e_gd, e_bg0, e_bg1, e_nz, Int.toNat_natCast, Int.toNat_add, Int.toNat_mul, xw_al, xw_ar, xw_ml, xw_mr, xw_sl, xw_sr, xw_id, x_sl_c, mc3, mc6, mc8, mc12, mc64, mc72, Nat.add_assoc, Int.reduceToNat, L_isLine_t, L_isLine_f, R_has_t, R_has_f, R_isCh_t, R_isCh_f, V_isCurve_t, V_isCurve_f, Q_isCue_t, Q_isCue_f, Q_isList_t, Q_isList_f, B_isPb_t, B_isPb_f, m_in_t, m_in_f, m_isLine_t, m_isLine_f, m_isPb_t, m_isPb_f, m_isFx_t, m_isFx_f, F_note_e, m_finds_e, Int.reduceToNat, noted_neg, up_eq, up_r, up_i, fil_in, fil_i, fil_r]
          exact hQ
      · subst e
        simp (disch := omega) only [e_T, e_F, e_t, e_f, e_gd, e_bg0, e_bg1, e_nz, Int.toNat_natCast, Int.toNat_add, Int.toNat_mul, xw_al, xw_ar, xw_ml, xw_mr, xw_sl, xw_sr, xw_id, x_sl_c, mc3, mc6, mc8, mc12, mc64, mc72, Nat.add_assoc, Int.reduceToNat, L_isLine_t, L_isLine_f, R_has_t, R_has_f, R_isCh_t, R_isCh_f, V_isCurve_t, V_isCurve_f, Q_isCue_t, Q_isCue_f, Q_isList_t, Q_isList_f, B_isPb_t, B_isPb_f, m_in_t, m_in_f, m_isLine_t, m_isLine_f, m_isPb_t, m_isPb_f, m_isFx_t, m_isFx_f, F_note_e, m_finds_e, Int.reduceToNat, noted_neg, up_eq, up_r, up_i, fil_in, fil_i, fil_r]
        rw [show ((c * 8 + L : Nat) : Int) + 1 = ((c * 8 + (L + 1) : Nat) : Int) by omega]
        exact hQ) n 0 (by omega)
    simp (disch := omega) only [w_V_seek, h29, e_T, e_F, e_t, e_f, e_gd, e_bg0, e_bg1, e_nz, Int.toNat_natCast, Int.toNat_add, Int.toNat_mul, xw_al, xw_ar, xw_ml, xw_mr, xw_sl, xw_sr, xw_id, x_sl_c, mc3, mc6, mc8, mc12, mc64, mc72, Nat.add_assoc, Int.reduceToNat, L_isLine_t, L_isLine_f, R_has_t, R_has_f, R_isCh_t, R_isCh_f, V_isCurve_t, V_isCurve_f, Q_isCue_t, Q_isCue_f, Q_isList_t, Q_isList_f, B_isPb_t, B_isPb_f, m_in_t, m_in_f, m_isLine_t, m_isLine_f, m_isPb_t, m_isPb_f, m_isFx_t, m_isFx_f, F_note_e, m_finds_e, Int.reduceToNat, noted_neg, up_eq, up_r, up_i, fil_in, fil_i, fil_r]
    refine ⟨n + 1, ?_⟩
    rw [show min 0 K' - 1 = 0 by omega, show ((c * 8 + 0 : Nat) : Int) = (c : Int) * 8 by omega] at this
    exact this
  unfold skL at fin
  by_cases e : K = n
  · subst e
    exact fin (K - 1) (K - 1) K (if_pos rfl) (fun i hi' => ⟨fun _ => hi', fun h => by have := k2 i h; omega⟩) (by omega) (Or.inl rfl) (fun _ h => by omega) (by omega)
  · have hKn : K < n := by omega
    by_cases e2 : b 30 (c * 8 + K) = v ∨ K = 0
    · by_cases e3 : b 30 (c * 8 + K) = v
      · refine fin K K (K + 1) ((if_neg e).trans (if_pos e2)) (fun i hi' => ⟨fun h => ?_, fun h => ?_⟩) (by omega) (Or.inl rfl) (fun _ h => by omega) hKn
        · rcases Nat.lt_or_ge K i with a | a
          · have := hi K i a hi'
            omega
          · omega
        · rcases Nat.lt_or_ge i K with a | a
          · have := k2 i a
            omega
          · rw [show i = K by omega]; omega
      · have hK0 : K = 0 := by omega
        subst hK0
        have h0 := k3 0 (by omega) (by omega)
        refine fin 0 0 0 ((if_neg e).trans (if_pos e2)) (fun i hi' => ⟨fun h => ?_, fun h => by omega⟩) (by omega) (Or.inl rfl) (fun _ h => by omega) (by omega)
        rcases Nat.eq_zero_or_pos i with a | a
        · subst a
          omega
        · have := hi 0 i a hi'
          omega
    · have h0 := k3 K (by omega) hKn
      have h1 := k2 (K - 1) (by omega)
      refine fin (K - 1) K K ((if_neg e).trans (if_neg e2)) (fun i hi' => ⟨fun h => ?_, fun h => ?_⟩) (by omega) (Or.inr ⟨by omega, h1, by omega⟩) (fun z => by omega) (by omega)
      · rcases Nat.lt_or_ge i K with a | a
        · exact a
        · rcases Nat.lt_or_ge K i with a' | a'
          · have := hi K i a' hi'
            omega
          · have : i = K := by omega
            subst this
            omega
      · have := k2 i h
        omega
