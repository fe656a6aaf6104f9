/-! ===== acts: patch, unpatch ===== -/
theorem php : ∀ (N D : Nat) (φ : Nat → Nat), (∀ i, i < D → φ i < N) → (∀ i j, i < j → j < D → φ i ≠ φ j) → D ≤ N
  | 0, D, φ, h1, _ => by
    rcases Nat.eq_zero_or_pos D with e | e
    · omega
    · have := h1 0 e
      omega
  | N + 1, D, φ, h1, h2 => by
    by_cases h : ∃ i, i < D ∧ φ i = N
    · obtain ⟨i0, hi0, e0⟩ := h
      have := php N (D - 1) (fun i => if i = i0 then φ (D - 1) else φ i) (by
        intro i hi
        try dsimp only
        by_cases e : i = i0
        · rw [if_pos e]
          have a := h1 (D - 1) (by omega)
          have c := h2 i0 (D - 1) (by omega) (by omega)
          omega
        · rw [if_neg e]
          have a := h1 i (by omega)
          have c : φ i ≠ φ i0 := by
            rcases Nat.lt_or_gt_of_ne e with e | e
            · exact h2 i i0 e hi0
            · exact fun z => h2 i0 i e (by omega) z.symm
          omega) (by
        intro i j hi hj
        try dsimp only
        by_cases e : i = i0
        · rw [if_pos e, if_neg (by omega)]
          exact fun z => h2 j (D - 1) (by omega) (by omega) z.symm
        · rw [if_neg e]
          by_cases e' : j = i0
          · rw [if_pos e']
            exact h2 i (D - 1) (by omega) (by omega)
          · rw [if_neg e']
            exact h2 i j hi (by omega))
      omega
    · have := php N D φ (by
        intro i hi
        have a := h1 i hi
        have c : φ i ≠ N := fun z => h ⟨i, hi, z⟩
        omega) h2
      omega
def dI (b b' : xB) (f k i : Nat) : Prop :=
  (∀ r, r ≠ 28 → b' r = b r) ∧ k ≤ i ∧ (∀ j, k ≤ j → b' 28 j = b 28 j) ∧
  ∃ σ : Nat → Nat, (∀ j, j < k → σ j < i ∧ b' 28 j = b 28 (σ j) ∧ b 28 (σ j) ≠ (f : Int)) ∧ (∀ j j', j < j' → j' < k → σ j < σ j') ∧ (∀ i', i' < i → b 28 i' ≠ (f : Int) → ∃ j, j < k ∧ σ j = i')
theorem P_drop_k {b : xB} {f C : Nat} (hC : b 186 0 = (C : Int)) (hC24 : C ≤ 24) : ∀ (m i k : Nat) (b' : xB), i + m = C → dI b b' f k i → ∃ b'' D, dI b b'' f D C ∧ ∀ (Q : xB → Prop) (K : xB → Int → Int → Prop), K b'' f D → w_P_drop_h4 Q K (m + 1) b' f k i
  | 0, i, k, b', hi, hI => by
    have : i = C := by omega
    subst this
    refine ⟨b', k, hI, fun Q K hK => ?_⟩
    have e : b' 186 0 = (i : Int) := by rw [hI.1 186 (by omega)]; exact hC
    rw [w_P_drop_h4_s]
    simp (disch := omega) only [e_T, e_F, e_t, e_f, e_gd, e_bg0, e_bg1, e_nz, Int.toNat_natCast, Int.toNat_add, Int.toNat_mul, xw_al, xw_ar, xw_ml, xw_mr, xw_sl, xw_sr, xw_id, x_sl_c, mc3, mc6, mc8, mc12, mc64, mc72, Nat.add_assoc, Int.reduceToNat, L_isLine_t, L_isLine_f, R_has_t, R_has_f, R_isCh_t, R_isCh_f, V_isCurve_t, V_isCurve_f, Q_isCue_t, Q_isCue_f, Q_isList_t, Q_isList_f, B_isPb_t, B_isPb_f, m_in_t, m_in_f, m_isLine_t, m_isLine_f, m_isPb_t, m_isPb_f, m_isFx_t, m_isFx_f, F_note_e, m_finds_e, Int.reduceToNat, noted_neg, up_eq, up_r, up_i, fil_in, fil_i, fil_r]
    exact hK
  | m + 1, i, k, b', hi, hI => by
    have e : b' 186 0 = (C : Int) := by rw [hI.1 186 (by omega)]; exact hC
    obtain ⟨i1, i2, i3, σ, s1, s2, s3⟩ := hI
    have ei : b' 28 i = b 28 i := i3 i (by omega)
    by_cases hf : b 28 i = (f : Int)
    · obtain ⟨b'', D, h1, h2⟩ := P_drop_k hC hC24 m (i + 1) k b' (by omega) ⟨i1, by omega, i3, σ, fun j hj => ⟨by have := (s1 j hj).1; omega, (s1 j hj).2⟩, s2, fun i' hi' hne => s3 i' (by
        rcases Nat.lt_or_ge i' i with a | a
        · exact a
        · exfalso
          have : i' = i := by omega
          subst this
          exact hne hf) hne⟩
      refine ⟨b'', D, h1, fun Q K hK => ?_⟩
      rw [w_P_drop_h4_s]
      simp (disch := omega) only [e_T, e_F, e_t, e_f, e_gd, e_bg0, e_bg1, e_nz, Int.toNat_natCast, Int.toNat_add, Int.toNat_mul, xw_al, xw_ar, xw_ml, xw_mr, xw_sl, xw_sr, xw_id, x_sl_c, mc3, mc6, mc8, mc12, mc64, mc72, Nat.add_assoc, Int.reduceToNat, L_isLine_t, L_isLine_f, R_has_t, R_has_f, R_isCh_t, R_isCh_f, V_isCurve_t, V_isCurve_f, Q_isCue_t, Q_isCue_f, Q_isList_t, Q_isList_f, B_isPb_t, B_isPb_f, m_in_t, m_in_f, m_isLine_t, m_isLine_f, m_isPb_t, m_isPb_f, m_isFx_t, m_isFx_f, F_note_e, m_finds_e, Int.reduceToNat, noted_neg, up_eq, up_r, up_i, fil_in, fil_i, fil_r]
      exact h2 Q K hK
    · obtain ⟨b'', D, h1, h2⟩ := P_drop_k hC hC24 m (i + 1) (k + 1) (x_up b' 28 k (b 28 i)) (by omega) ⟨fun r hr => by rw [upR hr]; exact i1 r hr, by omega, fun j hj => by rw [up_i (by omega)]; exact i3 j (by omega), fun j => if j < k then σ j else i, fun j hj => by
        try dsimp only
        by_cases e : j < k
        · rw [if_pos e, up_i (by omega)]
          exact ⟨by have := (s1 j e).1; omega, (s1 j e).2⟩
        · rw [if_neg e, show j = k by omega, up_eq]
          exact ⟨by omega, rfl, hf⟩, fun j j' hj hj' => by
        try dsimp only
        by_cases e' : j' < k
        · rw [if_pos e', if_pos (by omega)]
          exact s2 j j' hj e'
        · rw [if_neg e', if_pos (by omega)]
          exact (s1 j (by omega)).1, fun i' hi' hne => by
        by_cases e : i' < i
        · obtain ⟨j, hj, ej⟩ := s3 i' e hne
          exact ⟨j, by omega, (if_pos hj).trans ej⟩
        · exact ⟨k, by omega, (if_neg (Nat.lt_irrefl k)).trans (by omega)⟩⟩
      refine ⟨b'', D, h1, fun Q K hK => ?_⟩
      rw [w_P_drop_h4_s]
      simp (disch := omega) only [ei, e_T, e_F, e_t, e_f, e_gd, e_bg0, e_bg1, e_nz, Int.toNat_natCast, Int.toNat_add, Int.toNat_mul, xw_al, xw_ar, xw_ml, xw_mr, xw_sl, xw_sr, xw_id, x_sl_c, mc3, mc6, mc8, mc12, mc64, mc72, Nat.add_assoc, Int.reduceToNat, L_isLine_t, L_isLine_f, R_has_t, R_has_f, R_isCh_t, R_isCh_f, V_isCurve_t, V_isCurve_f, Q_isCue_t, Q_isCue_f, Q_isList_t, Q_isList_f, B_isPb_t, B_isPb_f, m_in_t, m_in_f, m_isLine_t, m_isLine_f, m_isPb_t, m_isPb_f, m_isFx_t, m_isFx_f, F_note_e, m_finds_e, Int.reduceToNat, noted_neg, up_eq, up_r, up_i, fil_in, fil_i, fil_r]
      exact h2 Q K hK
theorem P_drop_A {b : xB} {f C : Nat} (hf : f < 24) (hC : b 186 0 = (C : Int)) (hC24 : C ≤ 24) : ∃ b'' D, dI b b'' f D C ∧ ∀ (Q : xB → Prop), Q (x_up (x_up (x_up b'' 186 0 D) 25 f (-1)) 26 f (-1)) → w_P_drop b f Q := by
  obtain ⟨b'', D, h1, h2⟩ := P_drop_k (b := b) (f := f) hC hC24 C 0 0 b (by omega) ⟨fun _ _ => rfl, Nat.le_refl 0, fun _ _ => rfl, id, fun j hj => absurd hj (Nat.not_lt_zero j), fun j j' _ hj' => absurd hj' (Nat.not_lt_zero j'), fun i hi => absurd hi (Nat.not_lt_zero i)⟩
  refine ⟨b'', D, h1, fun Q hQ => ⟨C + 1, ?_⟩⟩
  refine h2 Q _ ?_
  simp (disch := omega) only [e_T, e_F, e_t, e_f, e_gd, e_bg0, e_bg1, e_nz, Int.toNat_natCast, Int.toNat_add, Int.toNat_mul, xw_al, xw_ar, xw_ml, xw_mr, xw_sl, xw_sr, xw_id, x_sl_c, mc3, mc6, mc8, mc12, mc64, mc72, Nat.add_assoc, Int.reduceToNat, L_isLine_t, L_isLine_f, R_has_t, R_has_f, R_isCh_t, R_isCh_f, V_isCurve_t, V_isCurve_f, Q_isCue_t, Q_isCue_f, Q_isList_t, Q_isList_f, B_isPb_t, B_isPb_f, m_in_t, m_in_f, m_isLine_t, m_isLine_f, m_isPb_t, m_isPb_f, m_isFx_t, m_isFx_f, F_note_e, m_finds_e, Int.reduceToNat, noted_neg, up_eq, up_r, up_i, fil_in, fil_i, fil_r]
  exact hQ
section
variable {n : Nat} {b g : xB}
theorem a_unpatch {f : Int} (h : rB n b (g 71)) : aC n b g (w_P_takeOff b f) (w_m_unpatch g f) 7 f 0 0 0 0 := by
  obtain ⟨r1, r2, r3, r4, r5, r6, r7, r8, r9⟩ := h.2.2.1
  by_cases hf : 0 ≤ f ∧ f < b 161 0
  · obtain ⟨F, rfl⟩ := nat_of hf.1
    obtain ⟨p1, p2, p3, p4, p5, p6, p7, p8⟩ := h.2.2.2.1
    have hl := (p1 F (by omega)).1
    by_cases hN : b 25 F = -1
    · exact aC_bad h (-3) (fun Q hQ => by simp (disch := omega) only [w_P_takeOff, e_T, e_F, e_t, e_f, e_gd, e_bg0, e_bg1, e_nz, Int.toNat_natCast, Int.toNat_add, Int.toNat_mul, xw_al, xw_ar, xw_ml, xw_mr, xw_sl, xw_sr, xw_id, x_sl_c, mc3, mc6, mc8, mc12, mc64, mc72, Nat.add_assoc, Int.reduceToNat, L_isLine_t, L_isLine_f, R_has_t, R_has_f, R_isCh_t, R_isCh_f, V_isCurve_t, V_isCurve_f, Q_isCue_t, Q_isCue_f, Q_isList_t, Q_isList_f, B_isPb_t, B_isPb_f, m_in_t, m_in_f, m_isLine_t, m_isLine_f, m_isPb_t, m_isPb_f, m_isFx_t, m_isFx_f, F_note_e, m_finds_e, Int.reduceToNat, noted_neg]; exact hQ) (fun Q hQ => by simp (disch := omega) only [w_m_unpatch, w_m_unpatched, e_T, e_F, e_t, e_f, e_gd, e_bg0, e_bg1, e_nz, Int.toNat_natCast, Int.toNat_add, Int.toNat_mul, xw_al, xw_ar, xw_ml, xw_mr, xw_sl, xw_sr, xw_id, x_sl_c, mc3, mc6, mc8, mc12, mc64, mc72, Nat.add_assoc, Int.reduceToNat, L_isLine_t, L_isLine_f, R_has_t, R_has_f, R_isCh_t, R_isCh_f, V_isCurve_t, V_isCurve_f, Q_isCue_t, Q_isCue_f, Q_isList_t, Q_isList_f, B_isPb_t, B_isPb_f, m_in_t, m_in_f, m_isLine_t, m_isLine_f, m_isPb_t, m_isPb_f, m_isFx_t, m_isFx_f, F_note_e, m_finds_e, Int.reduceToNat, noted_neg] at hQ ⊢; exact hQ)
    · obtain ⟨C, hC⟩ := nat_of p3
      obtain ⟨b1, D, ⟨d1, d2, d3, σ, s1, s2, s3⟩, hd⟩ := P_drop_A (b := b) (f := F) (by omega) hC (by omega)
      refine ⟨1, x_up (x_up (x_up b1 186 0 D) 25 F (-1)) 26 F (-1), x_up (x_up g 71 (326 + F) (-1)) 71 (350 + F) (-1), fun Q hQ => ?_, fun Q hQ => ?_, ⟨rB_le (Nat.le_succ n) ?_, mS_up (mS_up mS_rf), d1 172 (by omega), d1 24 (by omega)⟩, d1 108 (by omega)⟩
      · simp (disch := omega) only [w_P_takeOff, e_T, e_F, e_t, e_f, e_gd, e_bg0, e_bg1, e_nz, Int.toNat_natCast, Int.toNat_add, Int.toNat_mul, xw_al, xw_ar, xw_ml, xw_mr, xw_sl, xw_sr, xw_id, x_sl_c, mc3, mc6, mc8, mc12, mc64, mc72, Nat.add_assoc, Int.reduceToNat, L_isLine_t, L_isLine_f, R_has_t, R_has_f, R_isCh_t, R_isCh_f, V_isCurve_t, V_isCurve_f, Q_isCue_t, Q_isCue_f, Q_isList_t, Q_isList_f, B_isPb_t, B_isPb_f, m_in_t, m_in_f, m_isLine_t, m_isLine_f, m_isPb_t, m_isPb_f, m_isFx_t, m_isFx_f, F_note_e, m_finds_e, Int.reduceToNat, noted_neg, up_eq, up_r, up_i, fil_in, fil_i, fil_r]
        exact hd _ hQ
      · simp (disch := omega) only [w_m_unpatch, w_m_unpatched, e_T, e_F, e_t, e_f, e_gd, e_bg0, e_bg1, e_nz, Int.toNat_natCast, Int.toNat_add, Int.toNat_mul, xw_al, xw_ar, xw_ml, xw_mr, xw_sl, xw_sr, xw_id, x_sl_c, mc3, mc6, mc8, mc12, mc64, mc72, Nat.add_assoc, Int.reduceToNat, L_isLine_t, L_isLine_f, R_has_t, R_has_f, R_isCh_t, R_isCh_f, V_isCurve_t, V_isCurve_f, Q_isCue_t, Q_isCue_f, Q_isList_t, Q_isList_f, B_isPb_t, B_isPb_f, m_in_t, m_in_f, m_isLine_t, m_isLine_f, m_isPb_t, m_isPb_f, m_isFx_t, m_isFx_f, F_note_e, m_finds_e, Int.reduceToNat, noted_neg, up_eq, up_r, up_i, fil_in, fil_i, fil_r]
        exact hQ
      · have E : ∀ r, r ≠ 28 → r ≠ 186 → r ≠ 25 → r ≠ 26 → x_up (x_up (x_up b1 186 0 D) 25 F (-1)) 26 F (-1) r = b r := fun r a1 a2 a3 a4 => by rw [upR a4, upR a3, upR a2, d1 r a1]
        obtain ⟨hF, hL, hR, hP, hV, hQ, hY, hE, hX, hT, hW⟩ := h
        refine ⟨rF_c hF (E _ (by omega) (by omega) (by omega) (by omega)) (fun i _ _ => by simp (disch := omega) only [up_eq, up_r, up_i, fil_in, fil_i, fil_r]), rL_c hL (E _ (by omega) (by omega) (by omega) (by omega)) (E _ (by omega) (by omega) (by omega) (by omega)) (E _ (by omega) (by omega) (by omega) (by omega)) (E _ (by omega) (by omega) (by omega) (by omega)) (E _ (by omega) (by omega) (by omega) (by omega)) (E _ (by omega) (by omega) (by omega) (by omega)) (fun i hi => by simp (disch := omega) only [up_eq, up_r, up_i, fil_in, fil_i, fil_r]), rR_c hR (E _ (by omega) (by omega) (by omega) (by omega)) (E _ (by omega) (by omega) (by omega) (by omega)) (E _ (by omega) (by omega) (by omega) (by omega)) (E _ (by omega) (by omega) (by omega) (by omega)) (E _ (by omega) (by omega) (by omega) (by omega)) (E _ (by omega) (by omega) (by omega) (by omega)) (E _ (by omega) (by omega) (by omega) (by omega)) (E _ (by omega) (by omega) (by omega) (by omega)) (E _ (by omega) (by omega) (by omega) (by omega)) (fun i hi => by simp (disch := omega) only [up_eq, up_r, up_i, fil_in, fil_i, fil_r]), ?_, rV_c hV (E _ (by omega) (by omega) (by omega) (by omega)) (E _ (by omega) (by omega) (by omega) (by omega)) (E _ (by omega) (by omega) (by omega) (by omega)) (E _ (by omega) (by omega) (by omega) (by omega)) (E _ (by omega) (by omega) (by omega) (by omega)) (fun i _ hi => by simp (disch := omega) only [up_eq, up_r, up_i, fil_in, fil_i, fil_r]), rQ_c hQ (E _ (by omega) (by omega) (by omega) (by omega)) (E _ (by omega) (by omega) (by omega) (by omega)) (E _ (by omega) (by omega) (by omega) (by omega)) (E _ (by omega) (by omega) (by omega) (by omega)) (E _ (by omega) (by omega) (by omega) (by omega)) (E _ (by omega) (by omega) (by omega) (by omega)) (E _ (by omega) (by omega) (by omega) (by omega)) (E _ (by omega) (by omega) (by omega) (by omega)) (by rw [E 161 (by omega) (by omega) (by omega) (by omega)]; exact Int.le_refl _) (fun i _ hi => by simp (disch := omega) only [up_eq, up_r, up_i, fil_in, fil_i, fil_r]), rY_c hY (E _ (by omega) (by omega) (by omega) (by omega)) (E _ (by omega) (by omega) (by omega) (by omega)) (E _ (by omega) (by omega) (by omega) (by omega)) (E _ (by omega) (by omega) (by omega) (by omega)) (E _ (by omega) (by omega) (by omega) (by omega)) (E _ (by omega) (by omega) (by omega) (by omega)) (E _ (by omega) (by omega) (by omega) (by omega)) (E _ (by omega) (by omega) (by omega) (by omega)) (E _ (by omega) (by omega) (by omega) (by omega)) (E _ (by omega) (by omega) (by omega) (by omega)) (E _ (by omega) (by omega) (by omega) (by omega)) (E _ (by omega) (by omega) (by omega) (by omega)) (E _ (by omega) (by omega) (by omega) (by omega)) (fun i _ => by rw [E 39 (by omega) (by omega) (by omega) (by omega)]; exact Int.le_refl _) (by rw [E 108 (by omega) (by omega) (by omega) (by omega)]; exact Int.le_refl _) (by rw [E 161 (by omega) (by omega) (by omega) (by omega)]; exact Int.le_refl _) (fun _ _ => by rw [E 17 (by omega) (by omega) (by omega) (by omega)]) (by rw [E 110 (by omega) (by omega) (by omega) (by omega)]; exact Int.le_refl _) (fun i _ _ hi => by simp (disch := omega) only [up_eq, up_r, up_i, fil_in, fil_i, fil_r]), rE_c hE (E _ (by omega) (by omega) (by omega) (by omega)) (E _ (by omega) (by omega) (by omega) (by omega)) (fun i _ hi => by simp (disch := omega) only [up_eq, up_r, up_i, fil_in, fil_i, fil_r]), rX_c hX (E _ (by omega) (by omega) (by omega) (by omega)) (E _ (by omega) (by omega) (by omega) (by omega)) (E _ (by omega) (by omega) (by omega) (by omega)) (E _ (by omega) (by omega) (by omega) (by omega)) (E _ (by omega) (by omega) (by omega) (by omega)) (by rw [E 161 (by omega) (by omega) (by omega) (by omega)]; exact Int.le_refl _) (fun _ _ => by rw [E 17 (by omega) (by omega) (by omega) (by omega)]) (fun i hi => by simp (disch := omega) only [up_eq, up_r, up_i, fil_in, fil_i, fil_r]), rT_c hT (E _ (by omega) (by omega) (by omega) (by omega)) (E _ (by omega) (by omega) (by omega) (by omega)) (by simp (disch := omega) only [up_eq, up_r, up_i, fil_in, fil_i, fil_r]) (by simp (disch := omega) only [up_eq, up_r, up_i, fil_in, fil_i, fil_r]), rW_c hW (by rw [E 108 (by omega) (by omega) (by omega) (by omega)]; exact Int.le_refl _) (Int.le_refl _) (E _ (by omega) (by omega) (by omega) (by omega)) (by simp (disch := omega) only [up_eq, up_r, up_i, fil_in, fil_i, fil_r]) (by simp (disch := omega) only [up_eq, up_r, up_i, fil_in, fil_i, fil_r])⟩
        have hne : ∀ j, j < D → (b 28 (σ j)).toNat ≠ F := by
          intro j hj
          obtain ⟨z1, z2, z3⟩ := s1 j hj
          obtain ⟨y1, y2, -⟩ := p6 (σ j) (by omega)
          omega
        have e28 : ∀ j, x_up (x_up (x_up b1 186 0 D) 25 F (-1)) 26 F (-1) 28 j = b1 28 j := fun j => by simp (disch := omega) only [up_eq, up_r, up_i, fil_in, fil_i, fil_r]
        have e186 : x_up (x_up (x_up b1 186 0 D) 25 F (-1)) 26 F (-1) 186 0 = (D : Int) := by simp (disch := omega) only [up_eq, up_r, up_i, fil_in, fil_i, fil_r]
        refine ⟨fun k hk => ?_, fun k hk => ?_, by rw [e186]; omega, by rw [e186]; omega, by simp (disch := omega) only [up_eq, up_r, up_i, fil_in, fil_i, fil_r]; exact p5, fun j hj => ?_, fun i j hij hj => ?_, fun k hk hkn => ?_⟩
        · obtain ⟨q1, q2, q3⟩ := p1 k hk
          rw [E 27 (by omega) (by omega) (by omega) (by omega)]
          by_cases e : k = F
          · subst e
            exact ⟨by simp (disch := omega) only [up_eq, up_r, up_i, fil_in, fil_i, fil_r], by simp (disch := omega) only [up_eq, up_r, up_i, fil_in, fil_i, fil_r], by simp (disch := omega) only [up_eq, up_r, up_i, fil_in, fil_i, fil_r]; exact q3⟩
          · exact ⟨by simp (disch := omega) only [up_eq, up_r, up_i, fil_in, fil_i, fil_r]; rw [d1 25 (by omega)]; exact q1, by simp (disch := omega) only [up_eq, up_r, up_i, fil_in, fil_i, fil_r]; rw [d1 26 (by omega)]; exact q2, by simp (disch := omega) only [up_eq, up_r, up_i, fil_in, fil_i, fil_r]; exact q3⟩
        · rw [E 161 (by omega) (by omega) (by omega) (by omega), E 17 (by omega) (by omega) (by omega) (by omega)]
          by_cases e : k = F
          · subst e
            exact Or.inl ⟨by simp (disch := omega) only [up_eq, up_r, up_i, fil_in, fil_i, fil_r], by simp (disch := omega) only [up_eq, up_r, up_i, fil_in, fil_i, fil_r]⟩
          · simp (disch := omega) only [up_eq, up_r, up_i, fil_in, fil_i, fil_r]
            rw [d1 25 (by omega), d1 26 (by omega)]
            exact p2 k hk
        · rw [e186] at hj
          obtain ⟨z1, z2, z3⟩ := s1 j (by omega)
          obtain ⟨y1, y2, y3, y4, y5⟩ := p6 (σ j) (by omega)
          have := hne j (by omega)
          rw [e28, z2]
          exact ⟨y1, y2, by simp (disch := omega) only [up_eq, up_r, up_i, fil_in, fil_i, fil_r]; rw [d1 25 (by omega)]; exact y3, by simp (disch := omega) only [up_eq, up_r, up_i, fil_in, fil_i, fil_r]; exact y4, by simp (disch := omega) only [up_eq, up_r, up_i, fil_in, fil_i, fil_r]; exact y5⟩
        · rw [e186] at hj
          obtain ⟨z1, z2, z3⟩ := s1 j (by omega)
          obtain ⟨z1', z2', z3'⟩ := s1 i (by omega)
          obtain ⟨y1, y2, -⟩ := p6 (σ j) (by omega)
          obtain ⟨y1', y2', -⟩ := p6 (σ i) (by omega)
          rw [e28, e28, z2, z2']
          simp (disch := omega) only [up_eq, up_r, up_i, fil_in, fil_i, fil_r]
          exact p7 (σ i) (σ j) (s2 i j hij (by omega)) (by omega)
        · by_cases e : k = F
          · subst e
            exact absurd (by simp (disch := omega) only [up_eq, up_r, up_i, fil_in, fil_i, fil_r]) hkn
          · obtain ⟨i, hi, ei⟩ := p8 k hk (by
              have : x_up (x_up (x_up b1 186 0 D) 25 F (-1)) 26 F (-1) 25 k = b 25 k := by simp (disch := omega) only [up_eq, up_r, up_i, fil_in, fil_i, fil_r]; rw [d1 25 (by omega)]
              rw [this] at hkn
              exact hkn)
            obtain ⟨j, hj, ej⟩ := s3 i (by omega) (by omega)
            refine ⟨j, by rw [e186]; omega, ?_⟩
            rw [e28, (s1 j hj).2.1, ej]
            exact ei
  · exact aC_bad h (-2) (fun Q hQ => by simp (disch := omega) only [w_P_takeOff, e_T, e_F, e_t, e_f, e_gd, e_bg0, e_bg1, e_nz, Int.toNat_natCast, Int.toNat_add, Int.toNat_mul, xw_al, xw_ar, xw_ml, xw_mr, xw_sl, xw_sr, xw_id, x_sl_c, mc3, mc6, mc8, mc12, mc64, mc72, Nat.add_assoc, Int.reduceToNat, L_isLine_t, L_isLine_f, R_has_t, R_has_f, R_isCh_t, R_isCh_f, V_isCurve_t, V_isCurve_f, Q_isCue_t, Q_isCue_f, Q_isList_t, Q_isList_f, B_isPb_t, B_isPb_f, m_in_t, m_in_f, m_isLine_t, m_isLine_f, m_isPb_t, m_isPb_f, m_isFx_t, m_isFx_f, F_note_e, m_finds_e, Int.reduceToNat, noted_neg]; exact hQ) (fun Q hQ => by simp (disch := omega) only [w_m_unpatch, w_m_unpatched, e_T, e_F, e_t, e_f, e_gd, e_bg0, e_bg1, e_nz, Int.toNat_natCast, Int.toNat_add, Int.toNat_mul, xw_al, xw_ar, xw_ml, xw_mr, xw_sl, xw_sr, xw_id, x_sl_c, mc3, mc6, mc8, mc12, mc64, mc72, Nat.add_assoc, Int.reduceToNat, L_isLine_t, L_isLine_f, R_has_t, R_has_f, R_isCh_t, R_isCh_f, V_isCurve_t, V_isCurve_f, Q_isCue_t, Q_isCue_f, Q_isList_t, Q_isList_f, B_isPb_t, B_isPb_f, m_in_t, m_in_f, m_isLine_t, m_isLine_f, m_isPb_t, m_isPb_f, m_isFx_t, m_isFx_f, F_note_e, m_finds_e, Int.reduceToNat, noted_neg] at hQ ⊢; exact hQ)
theorem a_patch {f l p : Int} (hn : n ≤ 100000) (h : rB n b (g 71)) : aC n b g (w_P_put b f l p) (w_m_patch g f l p) 6 f l p 0 0 := by
  obtain ⟨r1, r2, r3, r4, r5, r6, r7, r8, r9⟩ := h.2.2.1
  by_cases hf : 0 ≤ f ∧ f < b 161 0
  · obtain ⟨F, rfl⟩ := nat_of hf.1
    obtain ⟨p1, p2, p3, p4, p5, p6, p7, p8⟩ := h.2.2.2.1
    by_cases hl : 0 ≤ l ∧ l < 4
    · by_cases hp0 : p < 0
      · exact aC_bad h (-2) (fun Q hQ => by simp (disch := omega) only [w_P_put, e_T, e_F, e_t, e_f, e_gd, e_bg0, e_bg1, e_nz, Int.toNat_natCast, Int.toNat_add, Int.toNat_mul, xw_al, xw_ar, xw_ml, xw_mr, xw_sl, xw_sr, xw_id, x_sl_c, mc3, mc6, mc8, mc12, mc64, mc72, Nat.add_assoc, Int.reduceToNat, L_isLine_t, L_isLine_f, R_has_t, R_has_f, R_isCh_t, R_isCh_f, V_isCurve_t, V_isCurve_f, Q_isCue_t, Q_isCue_f, Q_isList_t, Q_isList_f, B_isPb_t, B_isPb_f, m_in_t, m_in_f, m_isLine_t, m_isLine_f, m_isPb_t, m_isPb_f, m_isFx_t, m_isFx_f, F_note_e, m_finds_e, Int.reduceToNat, noted_neg]; exact hQ) (fun Q hQ => by simp (disch := omega) only [w_m_patch, w_m_patched, e_T, e_F, e_t, e_f, e_gd, e_bg0, e_bg1, e_nz, Int.toNat_natCast, Int.toNat_add, Int.toNat_mul, xw_al, xw_ar, xw_ml, xw_mr, xw_sl, xw_sr, xw_id, x_sl_c, mc3, mc6, mc8, mc12, mc64, mc72, Nat.add_assoc, Int.reduceToNat, L_isLine_t, L_isLine_f, R_has_t, R_has_f, R_isCh_t, R_isCh_f, V_isCurve_t, V_isCurve_f, Q_isCue_t, Q_isCue_f, Q_isList_t, Q_isList_f, B_isPb_t, B_isPb_f, m_in_t, m_in_f, m_isLine_t, m_isLine_f, m_isPb_t, m_isPb_f, m_isFx_t, m_isFx_f, F_note_e, m_finds_e, Int.reduceToNat, noted_neg] at hQ ⊢; exact hQ)
      by_cases hp1 : 64 ≤ p
      · exact aC_bad h (-2) (fun Q hQ => by simp (disch := omega) only [w_P_put, e_T, e_F, e_t, e_f, e_gd, e_bg0, e_bg1, e_nz, Int.toNat_natCast, Int.toNat_add, Int.toNat_mul, xw_al, xw_ar, xw_ml, xw_mr, xw_sl, xw_sr, xw_id, x_sl_c, mc3, mc6, mc8, mc12, mc64, mc72, Nat.add_assoc, Int.reduceToNat, L_isLine_t, L_isLine_f, R_has_t, R_has_f, R_isCh_t, R_isCh_f, V_isCurve_t, V_isCurve_f, Q_isCue_t, Q_isCue_f, Q_isList_t, Q_isList_f, B_isPb_t, B_isPb_f, m_in_t, m_in_f, m_isLine_t, m_isLine_f, m_isPb_t, m_isPb_f, m_isFx_t, m_isFx_f, F_note_e, m_finds_e, Int.reduceToNat, noted_neg]; exact hQ) (fun Q hQ => by simp (disch := omega) only [w_m_patch, w_m_patched, e_T, e_F, e_t, e_f, e_gd, e_bg0, e_bg1, e_nz, Int.toNat_natCast, Int.toNat_add, Int.toNat_mul, xw_al, xw_ar, xw_ml, xw_mr, xw_sl, xw_sr, xw_id, x_sl_c, mc3, mc6, mc8, mc12, mc64, mc72, Nat.add_assoc, Int.reduceToNat, L_isLine_t, L_isLine_f, R_has_t, R_has_f, R_isCh_t, R_isCh_f, V_isCurve_t, V_isCurve_f, Q_isCue_t, Q_isCue_f, Q_isList_t, Q_isList_f, B_isPb_t, B_isPb_f, m_in_t, m_in_f, m_isLine_t, m_isLine_f, m_isPb_t, m_isPb_f, m_isFx_t, m_isFx_f, F_note_e, m_finds_e, Int.reduceToNat, noted_neg] at hQ ⊢; exact hQ)
      have kF : 0 ≤ b 17 F ∧ b 17 F ≤ 4 ∧ b 17 F = g 71 (278 + F) := by
        rcases r8 F (by omega) with ⟨e1, e2, ⟨f1, f2, -⟩ | ⟨f1, -⟩⟩ <;> omega
      obtain ⟨k0, k4, ke⟩ := kF
      by_cases hk : b 17 F = 4
      · exact aC_find h 3 (by omega) (by omega) (fun Q hQ => by simp (disch := omega) only [w_P_put, w_R_shows, e_T, e_F, e_t, e_f, e_gd, e_bg0, e_bg1, e_nz, Int.toNat_natCast, Int.toNat_add, Int.toNat_mul, xw_al, xw_ar, xw_ml, xw_mr, xw_sl, xw_sr, xw_id, x_sl_c, mc3, mc6, mc8, mc12, mc64, mc72, Nat.add_assoc, Int.reduceToNat, L_isLine_t, L_isLine_f, R_has_t, R_has_f, R_isCh_t, R_isCh_f, V_isCurve_t, V_isCurve_f, Q_isCue_t, Q_isCue_f, Q_isList_t, Q_isList_f, B_isPb_t, B_isPb_f, m_in_t, m_in_f, m_isLine_t, m_isLine_f, m_isPb_t, m_isPb_f, m_isFx_t, m_isFx_f, F_note_e, m_finds_e, Int.reduceToNat, noted_neg]; exact hQ) (fun Q hQ => by simp (disch := omega) only [w_m_patch, w_m_patched, w_m_kindOf, e_T, e_F, e_t, e_f, e_gd, e_bg0, e_bg1, e_nz, Int.toNat_natCast, Int.toNat_add, Int.toNat_mul, xw_al, xw_ar, xw_ml, xw_mr, xw_sl, xw_sr, xw_id, x_sl_c, mc3, mc6, mc8, mc12, mc64, mc72, Nat.add_assoc, Int.reduceToNat, L_isLine_t, L_isLine_f, R_has_t, R_has_f, R_isCh_t, R_isCh_f, V_isCurve_t, V_isCurve_f, Q_isCue_t, Q_isCue_f, Q_isList_t, Q_isList_f, B_isPb_t, B_isPb_f, m_in_t, m_in_f, m_isLine_t, m_isLine_f, m_isPb_t, m_isPb_f, m_isFx_t, m_isFx_f, F_note_e, m_finds_e, Int.reduceToNat, noted_neg] at hQ ⊢; exact hQ)
      obtain ⟨C, hC⟩ := nat_of p3
      obtain ⟨b1, D, ⟨d1, d2, d3, σ, s1, s2, s3⟩, hd⟩ := P_drop_A (b := b) (f := F) (by omega) hC (by omega)
      obtain ⟨P, hP'⟩ := nat_of p5
      have hPn : P ≤ n := by have := h.2.2.2.2.2.2.2.2.2.2.2.2.2; omega
      have hne : ∀ j, j < D → (b 28 (σ j)).toNat ≠ F := by
        intro j hj
        obtain ⟨z1, z2, z3⟩ := s1 j hj
        obtain ⟨y1, y2, -⟩ := p6 (σ j) (by omega)
        omega
      have hD : D + 1 ≤ 24 := by
        refine php 24 (D + 1) (fun j => if j < D then (b 28 (σ j)).toNat else F) (fun j hj => ?_) (fun i j hij hj => ?_)
        · try dsimp only
          by_cases e : j < D
          · rw [if_pos e]
            obtain ⟨y1, y2, -⟩ := p6 (σ j) (by have := (s1 j e).1; omega)
            omega
          · rw [if_neg e]
            omega
        · try dsimp only
          rw [if_pos (by omega)]
          by_cases e : j < D
          · rw [if_pos e]
            have a := p7 (σ i) (σ j) (s2 i j hij e) (by have := (s1 j e).1; omega)
            intro z
            rw [z] at a
            exact Int.lt_irrefl _ a
          · rw [if_neg e]
            exact hne i (by omega)
      refine ⟨1, x_up (x_up (x_up (x_up (x_up (x_up (x_up b1 186 0 D) 25 F (-1)) 26 F (-1)) 25 F l) 26 F p) 28 D F) 186 0 (D + 1), x_up (x_up (x_up (x_up g 71 (326 + F) l) 71 (350 + F) p) 71 3767 (P + 1)) 71 (374 + F) (P + 1), fun Q hQ => ?_, fun Q hQ => ?_, ⟨?_, mS_up (mS_up (mS_up (mS_up mS_rf))), d1 172 (by omega), d1 24 (by omega)⟩, d1 108 (by omega)⟩
      · simp (disch := omega) only [w_P_put, w_R_shows, e_T, e_F, e_t, e_f, e_gd, e_bg0, e_bg1, e_nz, Int.toNat_natCast, Int.toNat_add, Int.toNat_mul, xw_al, xw_ar, xw_ml, xw_mr, xw_sl, xw_sr, xw_id, x_sl_c, mc3, mc6, mc8, mc12, mc64, mc72, Nat.add_assoc, Int.reduceToNat, L_isLine_t, L_isLine_f, R_has_t, R_has_f, R_isCh_t, R_isCh_f, V_isCurve_t, V_isCurve_f, Q_isCue_t, Q_isCue_f, Q_isList_t, Q_isList_f, B_isPb_t, B_isPb_f, m_in_t, m_in_f, m_isLine_t, m_isLine_f, m_isPb_t, m_isPb_f, m_isFx_t, m_isFx_f, F_note_e, m_finds_e, Int.reduceToNat, noted_neg, up_eq, up_r, up_i, fil_in, fil_i, fil_r]
        refine hd _ ?_
        simp (disch := omega) only [e_T, e_F, e_t, e_f, e_gd, e_bg0, e_bg1, e_nz, Int.toNat_natCast, Int.toNat_add, Int.toNat_mul, xw_al, xw_ar, xw_ml, xw_mr, xw_sl, xw_sr, xw_id, x_sl_c, mc3, mc6, mc8, mc12, mc64, mc72, Nat.add_assoc, Int.reduceToNat, L_isLine_t, L_isLine_f, R_has_t, R_has_f, R_isCh_t, R_isCh_f, V_isCurve_t, V_isCurve_f, Q_isCue_t, Q_isCue_f, Q_isList_t, Q_isList_f, B_isPb_t, B_isPb_f, m_in_t, m_in_f, m_isLine_t, m_isLine_f, m_isPb_t, m_isPb_f, m_isFx_t, m_isFx_f, F_note_e, m_finds_e, Int.reduceToNat, noted_neg, up_eq, up_r, up_i, fil_in, fil_i, fil_r]
        exact hQ
      · simp (disch := omega) only [w_m_patch, w_m_patched, w_m_kindOf, hP', e_T, e_F, e_t, e_f, e_gd, e_bg0, e_bg1, e_nz, Int.toNat_natCast, Int.toNat_add, Int.toNat_mul, xw_al, xw_ar, xw_ml, xw_mr, xw_sl, xw_sr, xw_id, x_sl_c, mc3, mc6, mc8, mc12, mc64, mc72, Nat.add_assoc, Int.reduceToNat, L_isLine_t, L_isLine_f, R_has_t, R_has_f, R_isCh_t, R_isCh_f, V_isCurve_t, V_isCurve_f, Q_isCue_t, Q_isCue_f, Q_isList_t, Q_isList_f, B_isPb_t, B_isPb_f, m_in_t, m_in_f, m_isLine_t, m_isLine_f, m_isPb_t, m_isPb_f, m_isFx_t, m_isFx_f, F_note_e, m_finds_e, Int.reduceToNat, noted_neg, up_eq, up_r, up_i, fil_in, fil_i, fil_r]
        exact hQ
      · have E : ∀ r, r ≠ 28 → r ≠ 186 → r ≠ 25 → r ≠ 26 → x_up (x_up (x_up (x_up (x_up (x_up (x_up b1 186 0 D) 25 F (-1)) 26 F (-1)) 25 F l) 26 F p) 28 D F) 186 0 (D + 1) r = b r := fun r a1 a2 a3 a4 => by rw [upR a2, upR a1, upR a4, upR a3, upR a4, upR a3, upR a2, d1 r a1]
        obtain ⟨hF, hL, hR, hP, hV, hQ, hY, hE, hX, hT, hW⟩ := h
        refine ⟨rF_c hF (E _ (by omega) (by omega) (by omega) (by omega)) (fun i _ _ => by simp (disch := omega) only [up_eq, up_r, up_i, fil_in, fil_i, fil_r]), rL_c hL (E _ (by omega) (by omega) (by omega) (by omega)) (E _ (by omega) (by omega) (by omega) (by omega)) (E _ (by omega) (by omega) (by omega) (by omega)) (E _ (by omega) (by omega) (by omega) (by omega)) (E _ (by omega) (by omega) (by omega) (by omega)) (E _ (by omega) (by omega) (by omega) (by omega)) (fun i hi => by simp (disch := omega) only [up_eq, up_r, up_i, fil_in, fil_i, fil_r]), rR_c hR (E _ (by omega) (by omega) (by omega) (by omega)) (E _ (by omega) (by omega) (by omega) (by omega)) (E _ (by omega) (by omega) (by omega) (by omega)) (E _ (by omega) (by omega) (by omega) (by omega)) (E _ (by omega) (by omega) (by omega) (by omega)) (E _ (by omega) (by omega) (by omega) (by omega)) (E _ (by omega) (by omega) (by omega) (by omega)) (E _ (by omega) (by omega) (by omega) (by omega)) (E _ (by omega) (by omega) (by omega) (by omega)) (fun i hi => by simp (disch := omega) only [up_eq, up_r, up_i, fil_in, fil_i, fil_r]), ?_, rV_c hV (E _ (by omega) (by omega) (by omega) (by omega)) (E _ (by omega) (by omega) (by omega) (by omega)) (E _ (by omega) (by omega) (by omega) (by omega)) (E _ (by omega) (by omega) (by omega) (by omega)) (E _ (by omega) (by omega) (by omega) (by omega)) (fun i _ hi => by simp (disch := omega) only [up_eq, up_r, up_i, fil_in, fil_i, fil_r]), rQ_c hQ (E _ (by omega) (by omega) (by omega) (by omega)) (E _ (by omega) (by omega) (by omega) (by omega)) (E _ (by omega) (by omega) (by omega) (by omega)) (E _ (by omega) (by omega) (by omega) (by omega)) (E _ (by omega) (by omega) (by omega) (by omega)) (E _ (by omega) (by omega) (by omega) (by omega)) (E _ (by omega) (by omega) (by omega) (by omega)) (E _ (by omega) (by omega) (by omega) (by omega)) (by rw [E 161 (by omega) (by omega) (by omega) (by omega)]; exact Int.le_refl _) (fun i _ hi => by simp (disch := omega) only [up_eq, up_r, up_i, fil_in, fil_i, fil_r]), rY_c hY (E _ (by omega) (by omega) (by omega) (by omega)) (E _ (by omega) (by omega) (by omega) (by omega)) (E _ (by omega) (by omega) (by omega) (by omega)) (E _ (by omega) (by omega) (by omega) (by omega)) (E _ (by omega) (by omega) (by omega) (by omega)) (E _ (by omega) (by omega) (by omega) (by omega)) (E _ (by omega) (by omega) (by omega) (by omega)) (E _ (by omega) (by omega) (by omega) (by omega)) (E _ (by omega) (by omega) (by omega) (by omega)) (E _ (by omega) (by omega) (by omega) (by omega)) (E _ (by omega) (by omega) (by omega) (by omega)) (E _ (by omega) (by omega) (by omega) (by omega)) (E _ (by omega) (by omega) (by omega) (by omega)) (fun i _ => by rw [E 39 (by omega) (by omega) (by omega) (by omega)]; exact Int.le_refl _) (by rw [E 108 (by omega) (by omega) (by omega) (by omega)]; exact Int.le_refl _) (by rw [E 161 (by omega) (by omega) (by omega) (by omega)]; exact Int.le_refl _) (fun _ _ => by rw [E 17 (by omega) (by omega) (by omega) (by omega)]) (by rw [E 110 (by omega) (by omega) (by omega) (by omega)]; exact Int.le_refl _) (fun i _ _ hi => by simp (disch := omega) only [up_eq, up_r, up_i, fil_in, fil_i, fil_r]), rE_c hE (E _ (by omega) (by omega) (by omega) (by omega)) (E _ (by omega) (by omega) (by omega) (by omega)) (fun i _ hi => by simp (disch := omega) only [up_eq, up_r, up_i, fil_in, fil_i, fil_r]), rX_c hX (E _ (by omega) (by omega) (by omega) (by omega)) (E _ (by omega) (by omega) (by omega) (by omega)) (E _ (by omega) (by omega) (by omega) (by omega)) (E _ (by omega) (by omega) (by omega) (by omega)) (E _ (by omega) (by omega) (by omega) (by omega)) (by rw [E 161 (by omega) (by omega) (by omega) (by omega)]; exact Int.le_refl _) (fun _ _ => by rw [E 17 (by omega) (by omega) (by omega) (by omega)]) (fun i hi => by simp (disch := omega) only [up_eq, up_r, up_i, fil_in, fil_i, fil_r]), rT_c hT (E _ (by omega) (by omega) (by omega) (by omega)) (E _ (by omega) (by omega) (by omega) (by omega)) (by simp (disch := omega) only [up_eq, up_r, up_i, fil_in, fil_i, fil_r]) (by simp (disch := omega) only [up_eq, up_r, up_i, fil_in, fil_i, fil_r]), ?_⟩
        · have e28 : ∀ j, j < D → x_up (x_up (x_up (x_up (x_up (x_up (x_up b1 186 0 D) 25 F (-1)) 26 F (-1)) 25 F l) 26 F p) 28 D F) 186 0 (D + 1) 28 j = b1 28 j := fun j hj => by simp (disch := omega) only [up_eq, up_r, up_i, fil_in, fil_i, fil_r]
          have e28D : x_up (x_up (x_up (x_up (x_up (x_up (x_up b1 186 0 D) 25 F (-1)) 26 F (-1)) 25 F l) 26 F p) 28 D F) 186 0 (D + 1) 28 D = F := by simp (disch := omega) only [up_eq, up_r, up_i, fil_in, fil_i, fil_r]
          have e186 : x_up (x_up (x_up (x_up (x_up (x_up (x_up b1 186 0 D) 25 F (-1)) 26 F (-1)) 25 F l) 26 F p) 28 D F) 186 0 (D + 1) 186 0 = (D : Int) + 1 := by simp (disch := omega) only [up_eq, up_r, up_i, fil_in, fil_i, fil_r]
          refine ⟨fun k hk => ?_, fun k hk => ?_, by rw [e186]; omega, by rw [e186]; omega, by simp (disch := omega) only [up_eq, up_r, up_i, fil_in, fil_i, fil_r]; omega, fun j hj => ?_, fun i j hij hj => ?_, fun k hk hkn => ?_⟩
          · obtain ⟨q1, q2, q3⟩ := p1 k hk
            rw [E 27 (by omega) (by omega) (by omega) (by omega)]
            by_cases e : k = F
            · subst e
              exact ⟨by simp (disch := omega) only [up_eq, up_r, up_i, fil_in, fil_i, fil_r], by simp (disch := omega) only [up_eq, up_r, up_i, fil_in, fil_i, fil_r], by simp (disch := omega) only [up_eq, up_r, up_i, fil_in, fil_i, fil_r]; exact q3⟩
            · exact ⟨by simp (disch := omega) only [up_eq, up_r, up_i, fil_in, fil_i, fil_r]; rw [d1 25 (by omega)]; exact q1, by simp (disch := omega) only [up_eq, up_r, up_i, fil_in, fil_i, fil_r]; rw [d1 26 (by omega)]; exact q2, by simp (disch := omega) only [up_eq, up_r, up_i, fil_in, fil_i, fil_r]; exact q3⟩
          · rw [E 161 (by omega) (by omega) (by omega) (by omega), E 17 (by omega) (by omega) (by omega) (by omega)]
            by_cases e : k = F
            · subst e
              exact Or.inr ⟨by simp (disch := omega) only [up_eq, up_r, up_i, fil_in, fil_i, fil_r]; omega, by simp (disch := omega) only [up_eq, up_r, up_i, fil_in, fil_i, fil_r]; omega, by simp (disch := omega) only [up_eq, up_r, up_i, fil_in, fil_i, fil_r]; omega, by simp (disch := omega) only [up_eq, up_r, up_i, fil_in, fil_i, fil_r]; omega, by omega, hk⟩
            · simp (disch := omega) only [up_eq, up_r, up_i, fil_in, fil_i, fil_r]
              rw [d1 25 (by omega), d1 26 (by omega)]
              exact p2 k hk
          · rw [e186] at hj
            by_cases e : j = D
            · subst e
              rw [e28D, Int.toNat_natCast]
              exact ⟨by omega, by omega, by simp (disch := omega) only [up_eq, up_r, up_i, fil_in, fil_i, fil_r]; omega, by simp (disch := omega) only [up_eq, up_r, up_i, fil_in, fil_i, fil_r]; omega, by simp (disch := omega) only [up_eq, up_r, up_i, fil_in, fil_i, fil_r]; omega⟩
            · obtain ⟨z1, z2, z3⟩ := s1 j (by omega)
              obtain ⟨y1, y2, y3, y4, y5⟩ := p6 (σ j) (by omega)
              have := hne j (by omega)
              rw [e28 j (by omega), z2]
              exact ⟨y1, y2, by simp (disch := omega) only [up_eq, up_r, up_i, fil_in, fil_i, fil_r]; rw [d1 25 (by omega)]; exact y3, by simp (disch := omega) only [up_eq, up_r, up_i, fil_in, fil_i, fil_r]; exact y4, by simp (disch := omega) only [up_eq, up_r, up_i, fil_in, fil_i, fil_r]; omega⟩
          · rw [e186] at hj
            obtain ⟨z1', z2', z3'⟩ := s1 i (by omega)
            obtain ⟨y1', y2', y3', y4', y5'⟩ := p6 (σ i) (by omega)
            have hni := hne i (by omega)
            rw [e28 i (by omega), z2']
            by_cases e : j = D
            · subst e
              rw [e28D, Int.toNat_natCast]
              simp (disch := omega) only [up_eq, up_r, up_i, fil_in, fil_i, fil_r]
              omega
            · obtain ⟨z1, z2, z3⟩ := s1 j (by omega)
              obtain ⟨y1, y2, -⟩ := p6 (σ j) (by omega)
              have hnj := hne j (by omega)
              rw [e28 j (by omega), z2]
              simp (disch := omega) only [up_eq, up_r, up_i, fil_in, fil_i, fil_r]
              exact p7 (σ i) (σ j) (s2 i j hij (by omega)) (by omega)
          · by_cases e : k = F
            · subst e
              exact ⟨D, by rw [e186]; omega, e28D⟩
            · obtain ⟨i, hi, ei⟩ := p8 k hk (by
                have : x_up (x_up (x_up (x_up (x_up (x_up (x_up b1 186 0 D) 25 F (-1)) 26 F (-1)) 25 F l) 26 F p) 28 D F) 186 0 (D + 1) 25 k = b 25 k := by simp (disch := omega) only [up_eq, up_r, up_i, fil_in, fil_i, fil_r]; rw [d1 25 (by omega)]
                rw [this] at hkn
                exact hkn)
              obtain ⟨j, hj, ej⟩ := s3 i (by omega) (by omega)
              refine ⟨j, by rw [e186]; omega, ?_⟩
              rw [e28 j hj, (s1 j hj).2.1, ej]
              exact ei
        · obtain ⟨w1, w2, w3, w4⟩ := hW
          unfold rW
          rw [E 108 (by omega) (by omega) (by omega) (by omega), E 110 (by omega) (by omega) (by omega) (by omega)]
          exact ⟨by simp (disch := omega) only [up_eq, up_r, up_i, fil_in, fil_i, fil_r]; exact w1, w2, by omega, by simp (disch := omega) only [up_eq, up_r, up_i, fil_in, fil_i, fil_r]; omega⟩
    · exact aC_bad h (-2) (fun Q hQ => by simp (disch := omega) only [w_P_put, e_T, e_F, e_t, e_f, e_gd, e_bg0, e_bg1, e_nz, Int.toNat_natCast, Int.toNat_add, Int.toNat_mul, xw_al, xw_ar, xw_ml, xw_mr, xw_sl, xw_sr, xw_id, x_sl_c, mc3, mc6, mc8, mc12, mc64, mc72, Nat.add_assoc, Int.reduceToNat, L_isLine_t, L_isLine_f, R_has_t, R_has_f, R_isCh_t, R_isCh_f, V_isCurve_t, V_isCurve_f, Q_isCue_t, Q_isCue_f, Q_isList_t, Q_isList_f, B_isPb_t, B_isPb_f, m_in_t, m_in_f, m_isLine_t, m_isLine_f, m_isPb_t, m_isPb_f, m_isFx_t, m_isFx_f, F_note_e, m_finds_e, Int.reduceToNat, noted_neg]; exact hQ) (fun Q hQ => by simp (disch := omega) only [w_m_patch, w_m_patched, e_T, e_F, e_t, e_f, e_gd, e_bg0, e_bg1, e_nz, Int.toNat_natCast, Int.toNat_add, Int.toNat_mul, xw_al, xw_ar, xw_ml, xw_mr, xw_sl, xw_sr, xw_id, x_sl_c, mc3, mc6, mc8, mc12, mc64, mc72, Nat.add_assoc, Int.reduceToNat, L_isLine_t, L_isLine_f, R_has_t, R_has_f, R_isCh_t, R_isCh_f, V_isCurve_t, V_isCurve_f, Q_isCue_t, Q_isCue_f, Q_isList_t, Q_isList_f, B_isPb_t, B_isPb_f, m_in_t, m_in_f, m_isLine_t, m_isLine_f, m_isPb_t, m_isPb_f, m_isFx_t, m_isFx_f, F_note_e, m_finds_e, Int.reduceToNat, noted_neg] at hQ ⊢; exact hQ)
  · exact aC_bad h (-2) (fun Q hQ => by simp (disch := omega) only [w_P_put, e_T, e_F, e_t, e_f, e_gd, e_bg0, e_bg1, e_nz, Int.toNat_natCast, Int.toNat_add, Int.toNat_mul, xw_al, xw_ar, xw_ml, xw_mr, xw_sl, xw_sr, xw_id, x_sl_c, mc3, mc6, mc8, mc12, mc64, mc72, Nat.add_assoc, Int.reduceToNat, L_isLine_t, L_isLine_f, R_has_t, R_has_f, R_isCh_t, R_isCh_f, V_isCurve_t, V_isCurve_f, Q_isCue_t, Q_isCue_f, Q_isList_t, Q_isList_f, B_isPb_t, B_isPb_f, m_in_t, m_in_f, m_isLine_t, m_isLine_f, m_isPb_t, m_isPb_f, m_isFx_t, m_isFx_f, F_note_e, m_finds_e, Int.reduceToNat, noted_neg]; exact hQ) (fun Q hQ => by simp (disch := omega) only [w_m_patch, w_m_patched, e_T, e_F, e_t, e_f, e_gd, e_bg0, e_bg1, e_nz, Int.toNat_natCast, Int.toNat_add, Int.toNat_mul, xw_al, xw_ar, xw_ml, xw_mr, xw_sl, xw_sr, xw_id, x_sl_c, mc3, mc6, mc8, mc12, mc64, mc72, Nat.add_assoc, Int.reduceToNat, L_isLine_t, L_isLine_f, R_has_t, R_has_f, R_isCh_t, R_isCh_f, V_isCurve_t, V_isCurve_f, Q_isCue_t, Q_isCue_f, Q_isList_t, Q_isList_f, B_isPb_t, B_isPb_f, m_in_t, m_in_f, m_isLine_t, m_isLine_f, m_isPb_t, m_isPb_f, m_isFx_t, m_isFx_f, F_note_e, m_finds_e, Int.reduceToNat, noted_neg] at hQ ⊢; exact hQ)
end
