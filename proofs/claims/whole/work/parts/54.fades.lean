/-! ===== a TICK: the FADES of a PLAYBACK go on ===== -/
theorem x_xor_neg {x y : Int} (hx : x_in x) (hy : x_in y) (h0 : 0 ≤ y) : x_xor x y < 0 ↔ x < 0 := by
  have e : decide ((Int32.ofInt x ^^^ Int32.ofInt y).toInt < 0) = ((decide ((Int32.ofInt x).toInt < 0)) ^^ (decide ((Int32.ofInt y).toInt < 0))) := by
    show decide ((Int32.ofInt x ^^^ Int32.ofInt y).toBitVec.toInt < 0) = (decide ((Int32.ofInt x).toBitVec.toInt < 0) ^^ decide ((Int32.ofInt y).toBitVec.toInt < 0))
    rw [← BitVec.msb_eq_toInt, ← BitVec.msb_eq_toInt, ← BitVec.msb_eq_toInt, Int32.toBitVec_xor, BitVec.msb_xor]
  rw [x_toI hx, x_toI hy, decide_eq_false (show ¬ y < 0 by omega), Bool.xor_false] at e
  exact decide_eq_decide.mp e
def fl (x y : Int) : Int := if x.tmod y < 0 then x.tdiv y - 1 else x.tdiv y
theorem fl_spec {x y : Int} (hy : 0 < y) : fl x y * y ≤ x ∧ x < fl x y * y + y := by
  have e := Int.tdiv_mul_add_tmod x y
  have h1 := Int.tmod_lt_of_pos x hy
  have h2 := Int.lt_tmod_of_pos x hy
  unfold fl
  split
  · rw [Int.sub_mul, Int.one_mul]
    omega
  · omega
theorem tdiv_abs (x y : Int) : (x.tdiv y).natAbs ≤ x.natAbs := by
  rw [Int.natAbs_tdiv]
  exact Nat.div_le_self _ _
theorem J_floorDiv_e {x y : Int} {q : Int → Prop} (h1 : -1000000000 ≤ x) (h2 : x ≤ 1000000000) (h3 : 0 < y) (h4 : y ≤ 1000000000) : w_J_floorDiv x y q = q (fl x y) := by
  have e := Int.tdiv_mul_add_tmod x y
  have b1 := Int.tmod_lt_of_pos x h3
  have b2 := Int.lt_tmod_of_pos x h3
  have b3 := tdiv_abs x y
  unfold w_J_floorDiv fl
  rw [e_nz (by omega), xw_ml, xw_id (z := x.tdiv y) (by omega) (by omega), xw_id (z := x.tdiv y * y) (by omega) (by omega), xw_id (z := x.tdiv y - 1) (by omega) (by omega)]
  by_cases hx : x < 0
  · rw [e_t ((x_xor_neg ⟨by omega, by omega⟩ ⟨by omega, by omega⟩ (by omega)).mpr hx)]
    have b4 : 0 ≤ -(x.tmod y) := by
      rw [← Int.neg_tmod]
      exact Int.tmod_nonneg y (by omega)
    by_cases hz : x.tdiv y * y = x
    · rw [e_t hz, if_neg (by omega)]
    · rw [e_f hz, if_pos (by omega)]
  · rw [e_f (fun z => hx ((x_xor_neg ⟨by omega, by omega⟩ ⟨by omega, by omega⟩ (by omega)).mp z)), if_neg (by have := Int.tmod_nonneg y (show 0 ≤ x by omega); omega)]
theorem m_floor_e {x y : Int} {q : Int → Prop} (h1 : -1000000000 ≤ x) (h2 : x ≤ 1000000000) (h3 : 0 < y) (h4 : y ≤ 1000000000) : w_m_floor x y q = q (fl x y) := by
  have b3 := tdiv_abs x y
  unfold w_m_floor fl
  rw [e_nz (by omega), e_nz (by omega), xw_id (z := x.tdiv y) (by omega) (by omega), xw_id (z := x.tdiv y - 1) (by omega) (by omega)]
  by_cases hx : x.tmod y < 0
  · rw [e_t hx, if_pos hx]
  · rw [e_f hx, if_neg hx]
theorem fl_fade {D k t : Int} (hk : 0 < k) (hkt : k ≤ t) : (0 ≤ D → 0 ≤ fl (2 * D * k + t) (2 * t) ∧ fl (2 * D * k + t) (2 * t) ≤ D) ∧ (D ≤ 0 → D ≤ fl (2 * D * k + t) (2 * t) ∧ fl (2 * D * k + t) (2 * t) ≤ 0) := by
  obtain ⟨s1, s2⟩ := fl_spec (x := 2 * D * k + t) (y := 2 * t) (by omega)
  generalize fl (2 * D * k + t) (2 * t) = r at s1 s2 ⊢
  have a1 : 2 * D * k = 2 * (D * k) := Int.mul_assoc ..
  have a2 : r * (2 * t) = 2 * (r * t) := Int.mul_left_comm ..
  rw [a1] at s1 s2
  rw [a2] at s1 s2
  refine ⟨fun hD => ?_, fun hD => ?_⟩
  · have m1 : D * k ≤ D * t := Int.mul_le_mul_of_nonneg_left hkt hD
    have m2 : 0 ≤ D * k := Int.mul_nonneg hD (by omega)
    refine ⟨?_, ?_⟩
    · rcases Int.lt_or_le r 0 with h | h
      · have : r * t ≤ (-1) * t := Int.mul_le_mul_of_nonneg_right (by omega) (by omega)
        omega
      · exact h
    · rcases Int.lt_or_le D r with h | h
      · have : (D + 1) * t ≤ r * t := Int.mul_le_mul_of_nonneg_right (by omega) (by omega)
        rw [Int.add_mul] at this
        omega
      · exact h
  · have m1 : D * t ≤ D * k := Int.mul_le_mul_of_nonpos_left hD hkt
    have m2 : D * k ≤ 0 := Int.mul_nonpos_of_nonpos_of_nonneg hD (by omega)
    refine ⟨?_, ?_⟩
    · rcases Int.lt_or_le r D with h | h
      · have : r * t ≤ (D - 1) * t := Int.mul_le_mul_of_nonneg_right (by omega) (by omega)
        rw [Int.sub_mul] at this
        omega
      · exact h
    · rcases Int.lt_or_le 0 r with h | h
      · have : 1 * t ≤ r * t := Int.mul_le_mul_of_nonneg_right (by omega) (by omega)
        omega
      · exact h
theorem mul_bnd {D k A B : Int} (h1 : -A ≤ D) (h2 : D ≤ A) (h3 : 0 ≤ k) (h4 : k ≤ B) (hA : 0 ≤ A) : -(A * B) ≤ D * k ∧ D * k ≤ A * B := by
  have a1 : A * k ≤ A * B := Int.mul_le_mul_of_nonneg_left h4 hA
  have a2 : D * k ≤ A * k := Int.mul_le_mul_of_nonneg_right h2 h3
  have a3 : (-A) * k ≤ D * k := Int.mul_le_mul_of_nonneg_right h1 h3
  rw [Int.neg_mul] at a3
  omega
/-- one cell -/
theorem rG_cell {M n : Int} {b b' g g' : xB} {p i : Nat} {v : Int} (h : rG M n b (g 71)) (hp : p < 4) (hi : i < 72) (h51 : 0 < b 51 (p * 72 + i))
    (hB : ∀ r, r ≠ 47 → r ≠ 51 → r ≠ 52 → r ≠ 286 → b' r = b r) (hB2 : ∀ r j, 47 ≤ r → r ≤ 52 → j ≠ p * 72 + i → b' r j = b r j) (hB3 : ∀ j, j ≠ p → b' 286 j = b 286 j)
    (h47 : b' 47 (p * 72 + i) = b 49 (p * 72 + i) + v) (h52 : b' 52 (p * 72 + i) = b 52 (p * 72 + i) + 1)
    (h51' : (b 52 (p * 72 + i) + 1 < b 51 (p * 72 + i) ∧ b' 51 (p * 72 + i) = b 51 (p * 72 + i) ∧ b' 286 p = b 286 p) ∨ (b 52 (p * 72 + i) + 1 = b 51 (p * 72 + i) ∧ b' 51 (p * 72 + i) = 0 ∧ b' 286 p = b 286 p - 1))
    (hv : v = fl (2 * (b 50 (p * 72 + i) - b 49 (p * 72 + i)) * (b 52 (p * 72 + i) + 1) + b 51 (p * 72 + i)) (2 * b 51 (p * 72 + i)))
    (hg : ∀ r, r ≠ 71 → g' r = g r) (hg2 : ∀ j, j ≠ 2038 + (p * 72 + i) → j ≠ 2902 + (p * 72 + i) → j ≠ 3190 + (p * 72 + i) → g' 71 j = g 71 j) (hg3 : g' 71 (2038 + (p * 72 + i)) = b' 47 (p * 72 + i)) (hg4 : g' 71 (2902 + (p * 72 + i)) = b' 51 (p * 72 + i)) (hg5 : g' 71 (3190 + (p * 72 + i)) = b' 52 (p * 72 + i)) : rG M n b' (g' 71) := by
  obtain ⟨hF, hL, hR, hP, hV, hQ, hY, hX, u1, u2, u3, u4⟩ := h
  have B : ∀ r, r ≠ 47 ∧ r ≠ 51 ∧ r ≠ 52 ∧ r ≠ 286 → b' r = b r := fun r hr => hB r hr.1 hr.2.1 hr.2.2.1 hr.2.2.2
  have S : ∀ j, j < 2038 ∨ 3478 ≤ j → g' 71 j = g 71 j := fun j hj => hg2 j (by omega) (by omega) (by omega)
  refine ⟨rF_c hF (B _ (by omega)) (fun i _ _ => S i (by omega)), rL_c hL (B _ (by omega)) (B _ (by omega)) (B _ (by omega)) (B _ (by omega)) (B _ (by omega)) (B _ (by omega)) (fun i hi => S i (by omega)), rR_c hR (B _ (by omega)) (B _ (by omega)) (B _ (by omega)) (B _ (by omega)) (B _ (by omega)) (B _ (by omega)) (B _ (by omega)) (B _ (by omega)) (B _ (by omega)) (fun i hi => S i (by omega)), rP_c hP (B _ (by omega)) (B _ (by omega)) (B _ (by omega)) (B _ (by omega)) (B _ (by omega)) (B _ (by omega)) (B _ (by omega)) (fun i hi => S i (by omega)), rV_c hV (B _ (by omega)) (B _ (by omega)) (B _ (by omega)) (B _ (by omega)) (B _ (by omega)) (fun i _ hi => S i (by omega)), rQ_c hQ (B _ (by omega)) (B _ (by omega)) (B _ (by omega)) (B _ (by omega)) (B _ (by omega)) (B _ (by omega)) (B _ (by omega)) (B _ (by omega)) (by rw [B 161 (by omega)]; exact Int.le_refl _) (fun i _ hi => S i (by omega)), ?_, rX_c hX (B _ (by omega)) (B _ (by omega)) (B _ (by omega)) (B _ (by omega)) (B _ (by omega)) (by rw [B 161 (by omega)]; exact Int.le_refl _) (fun _ _ => by rw [B 17 (by omega)]) (fun i hi => S i (by omega)), by rw [B 110 (by omega), S 3766 (by omega)]; exact u1, by rw [B 110 (by omega)]; exact u2, by rw [B 110 (by omega)]; exact u3, by rw [S 3767 (by omega)]; exact u4⟩
  intro k hk
  by_cases e : k = p
  · subst e
    obtain ⟨a1, a2, a3, a4, a5, a6, a7, a8, a9, a12, a13, a14, a15, a16, a17⟩ := hY k hk
    have n51 := cFad_one (b := b) (b' := b') (p := k) (i := i) 72 hi (fun j hj hne => hB2 51 _ (by omega) (by omega) (by omega))
    unfold rY1
    rw [B 280 (by omega), B 281 (by omega), B 282 (by omega), B 285 (by omega), B 287 (by omega), B 288 (by omega), B 108 (by omega), B 39 (by omega), S (1726 + k) (by omega), S (1730 + k) (by omega), S (1734 + k) (by omega), S (1738 + k) (by omega)]
    rw [cHas_c (b := b) (fun j hj => by rw [B 48 (by omega)])]
    refine ⟨a1, a2, a3, a4, a5, a6, a7, a8, a9, a12, ?_, a14, a15, a16, ?_⟩
    · rw [if_pos h51] at n51
      rcases h51' with ⟨c1, c2, c3⟩ | ⟨c1, c2, c3⟩
      · rw [c2, if_pos h51] at n51
        omega
      · rw [c2, if_neg (by omega)] at n51
        omega
    · intro f hf c hc
      by_cases e : f * 3 + c = i
      · have old := a17 f hf c hc
        rw [e] at old ⊢
        unfold rC1 at old ⊢
        rcases old with ⟨o0, o1, o2, o3, o4, o5, o6, o7, o8, o9⟩ | ⟨o1, o2, o3, o4, o5⟩
        · rcases o9 with o9 | ⟨w1, w2, w3, w4, w5, w6, w7, w8, w9, w10, w11⟩
          · omega
          · have hff := fl_fade (D := b 50 (k * 72 + i) - b 49 (k * 72 + i)) (k := b 52 (k * 72 + i) + 1) (t := b 51 (k * 72 + i)) (by omega) (by omega)
            rw [← hv] at hff
            have hbd : 0 ≤ b 49 (k * 72 + i) + v ∧ b 49 (k * 72 + i) + v ≤ kTop (b 17 f) c := by
              rcases Int.le_total 0 (b 50 (k * 72 + i) - b 49 (k * 72 + i)) with z | z
              · have := hff.1 z
                omega
              · have := hff.2 z
                omega
            have e48 := B 48 (by omega)
            have e49 := B 49 (by omega)
            have e50 := B 50 (by omega)
            rw [B 161 (by omega), B 17 (by omega), B 110 (by omega), e48, e49, e50, hg3, hg4, hg5, h47, h52, hg2 (1750 + (k * 72 + i)) (by omega) (by omega) (by omega), S (3478 + (k * 72 + i)) (by omega), hg2 (2326 + (k * 72 + i)) (by omega) (by omega) (by omega), hg2 (2614 + (k * 72 + i)) (by omega) (by omega) (by omega)]
            refine Or.inl ⟨o0, o1, o2, o3, o4, rfl, hbd.1, hbd.2, rfl, ?_⟩
            rcases h51' with ⟨c1, c2, c3⟩ | ⟨c1, c2, c3⟩
            · rw [c2]
              exact Or.inr ⟨w1, w2, w3, w4, w5, w6, w7, w8, rfl, by omega, by omega⟩
            · exact Or.inl c2
        · omega
      · have hne : k * 72 + (f * 3 + c) ≠ k * 72 + i := by omega
        exact rC1_c (a17 f hf c hc) (fun i => ⟨by rw [B 161 (by omega), B 17 (by omega)]; exact i, by rw [B 17 (by omega)]⟩) (hB2 47 _ (by omega) (by omega) hne) (hB2 48 _ (by omega) (by omega) hne) (hB2 49 _ (by omega) (by omega) hne) (hB2 50 _ (by omega) (by omega) hne) (hB2 51 _ (by omega) (by omega) hne) (hB2 52 _ (by omega) (by omega) hne) (by rw [B 110 (by omega)]; exact Int.le_refl _) (hg2 _ (by omega) (by omega) (by omega)) (hg2 _ (by omega) (by omega) (by omega)) (hg2 _ (by omega) (by omega) (by omega)) (hg2 _ (by omega) (by omega) (by omega)) (hg2 _ (by omega) (by omega) (by omega)) (hg2 _ (by omega) (by omega) (by omega)) (hg2 _ (by omega) (by omega) (by omega))
  · have hne : ∀ j, j < 72 → k * 72 + j ≠ p * 72 + i := fun j hj => by omega
    refine rY1_c hk (hY k hk) (fun j hj => hB2 47 _ (by omega) (by omega) (hne j hj)) (fun j hj => hB2 48 _ (by omega) (by omega) (hne j hj)) (fun j hj => hB2 49 _ (by omega) (by omega) (hne j hj)) (fun j hj => hB2 50 _ (by omega) (by omega) (hne j hj)) (fun j hj => hB2 51 _ (by omega) (by omega) (hne j hj)) (fun j hj => hB2 52 _ (by omega) (by omega) (hne j hj)) (by rw [B 280 (by omega)]) (by rw [B 281 (by omega)]) (by rw [B 282 (by omega)]) (by rw [B 285 (by omega)]) (hB3 k e) (by rw [B 287 (by omega)]) (by rw [B 288 (by omega)]) (fun i hi => by rw [B 39 (by omega)]; exact Int.le_refl _) (by rw [B 108 (by omega)]; exact Int.le_refl _) (by rw [B 161 (by omega)]; exact Int.le_refl _) (fun _ _ => by rw [B 17 (by omega)]) (by rw [B 110 (by omega)]; exact Int.le_refl _) (S _ (by omega)) (S _ (by omega)) (S _ (by omega)) (S _ (by omega)) (fun j hj => ?_)
    have := hne j hj
    exact ⟨hg2 _ (by omega) (by omega) (by omega), hg2 _ (by omega) (by omega) (by omega), hg2 _ (by omega) (by omega) (by omega), hg2 _ (by omega) (by omega) (by omega), hg2 _ (by omega) (by omega) (by omega), hg2 _ (by omega) (by omega) (by omega), hg2 _ (by omega) (by omega) (by omega)⟩
def fSb (b b' : xB) : Prop := ∀ r, r ≠ 47 ∧ r ≠ 51 ∧ r ≠ 52 ∧ r ≠ 286 → b' r = b r
def fSm (g g' : xB) : Prop := (∀ r, r ≠ 71 → g' r = g r) ∧ ∀ i, i < 2038 ∨ 3478 ≤ i → g' 71 i = g 71 i
theorem fSb_tr {b b' b'' : xB} (h : fSb b b') (h' : fSb b' b'') : fSb b b'' := fun r hr => (h' r hr).trans (h r hr)
theorem fSm_tr {b b' b'' : xB} (h : fSm b b') (h' : fSm b' b'') : fSm b b'' := ⟨fun r hr => (h'.1 r hr).trans (h.1 r hr), fun i hi => (h'.2 i hi).trans (h.2 i hi)⟩
theorem kTop_le (k : Int) (c : Nat) : kTop k c ≤ 65535 := by
  unfold kTop
  split <;> omega
theorem step_A {M n : Int} {p : Nat} (hp : p < 4) : ∀ (k i : Nat) (b g : xB), i + k = 72 → rG M n b (g 71) → ∃ b' g', rG M n b' (g' 71) ∧ fSb b b' ∧ fSm g g' ∧ (∀ Q K : xB → Prop, K b' → w_Y_stepFades_h10 Q K (k + 1) b p i) ∧ (∀ (Q : xB → Prop) (K : xB → Int → Prop), K g' p → w_m_play_h33 Q K (k + 1) g p ((p * 72 + i : Nat) : Int))
  | 0, i, b, g, hi, h => by
    refine ⟨b, g, h, fun _ _ => rfl, ⟨fun _ _ => rfl, fun _ _ => rfl⟩, fun Q K hK => ?_, fun Q K hK => ?_⟩
    · rw [w_Y_stepFades_h10_s]
      simp (disch := omega) only [e_T, e_F, e_t, e_f, e_gd, e_bg0, e_bg1, e_nz, Int.toNat_natCast, Int.toNat_add, Int.toNat_mul, xw_al, xw_ar, xw_ml, xw_mr, xw_sl, xw_sr, xw_id, x_sl_c, mc3, mc6, mc8, mc12, mc64, mc72, Nat.add_assoc, Int.reduceToNat, L_isLine_t, L_isLine_f, R_has_t, R_has_f, R_isCh_t, R_isCh_f, V_isCurve_t, V_isCurve_f, Q_isCue_t, Q_isCue_f, Q_isList_t, Q_isList_f, B_isPb_t, B_isPb_f, m_in_t, m_in_f, m_isLine_t, m_isLine_f, m_isPb_t, m_isPb_f, m_isFx_t, m_isFx_f, F_note_e, m_finds_e, Int.reduceToNat, noted_neg, up_eq, up_r, up_i, fil_in, fil_i, fil_r]
      exact hK
    · rw [w_m_play_h33_s]
      simp (disch := omega) only [e_T, e_F, e_t, e_f, e_gd, e_bg0, e_bg1, e_nz, Int.toNat_natCast, Int.toNat_add, Int.toNat_mul, xw_al, xw_ar, xw_ml, xw_mr, xw_sl, xw_sr, xw_id, x_sl_c, mc3, mc6, mc8, mc12, mc64, mc72, Nat.add_assoc, Int.reduceToNat, L_isLine_t, L_isLine_f, R_has_t, R_has_f, R_isCh_t, R_isCh_f, V_isCurve_t, V_isCurve_f, Q_isCue_t, Q_isCue_f, Q_isList_t, Q_isList_f, B_isPb_t, B_isPb_f, m_in_t, m_in_f, m_isLine_t, m_isLine_f, m_isPb_t, m_isPb_f, m_isFx_t, m_isFx_f, F_note_e, m_finds_e, Int.reduceToNat, noted_neg, up_eq, up_r, up_i, fil_in, fil_i, fil_r]
      exact hK
  | k + 1, i, b, g, hi, h => by
    have ei : (i : Int) + 1 = ((i + 1 : Nat) : Int) := by omega
    have ei2 : ((p * 72 + i : Nat) : Int) + 1 = ((p * 72 + (i + 1) : Nat) : Int) := by omega
    have hYp := h.2.2.2.2.2.2.1 p hp
    have hC := hYp.2.2.2.2.2.2.2.2.2.2.2.2.2.2
    have y6 := hYp.2.2.2.2.2.2.2.2.2.2.1
    have l6 := cFad_le (b := b) (p := p) 72
    have old := hC (i / 3) (by omega) (i % 3) (by omega)
    have hk := kTop_le (b 17 (i / 3)) (i % 3)
    rw [show i / 3 * 3 + i % 3 = i by omega] at old
    by_cases h51 : 0 < b 51 (p * 72 + i)
    · rcases old with ⟨o0, o1, o2, o3, o4, o5, o6, o7, o8, o9⟩ | ⟨o1, o2, o3, o4, o5⟩
      · rcases o9 with o9 | ⟨w1, w2, w3, w4, w5, w6, w7, w8, w9, w10, w11⟩
        · omega
        · have nb := mul_bnd (D := 2 * (b 50 (p * 72 + i) - b 49 (p * 72 + i))) (k := b 52 (p * 72 + i) + 1) (A := 131070) (B := 100) (by omega) (by omega) (by omega) (by omega) (by omega)
          have hff := fl_fade (D := b 50 (p * 72 + i) - b 49 (p * 72 + i)) (k := b 52 (p * 72 + i) + 1) (t := b 51 (p * 72 + i)) (by omega) (by omega)
          have vb : -70000 ≤ fl (2 * (b 50 (p * 72 + i) - b 49 (p * 72 + i)) * (b 52 (p * 72 + i) + 1) + b 51 (p * 72 + i)) (2 * b 51 (p * 72 + i)) ∧ fl (2 * (b 50 (p * 72 + i) - b 49 (p * 72 + i)) * (b 52 (p * 72 + i) + 1) + b 51 (p * 72 + i)) (2 * b 51 (p * 72 + i)) ≤ 70000 := by
            rcases Int.le_total 0 (b 50 (p * 72 + i) - b 49 (p * 72 + i)) with z | z
            · have := hff.1 z
              omega
            · have := hff.2 z
              omega
          have nb2 := nb
          rw [w3, w6, w9] at nb2
          by_cases hlast : b 52 (p * 72 + i) + 1 < b 51 (p * 72 + i)
          · have h1 : rG M n (x_up (x_up b 52 (p * 72 + i) (b 52 (p * 72 + i) + 1)) 47 (p * 72 + i) (b 49 (p * 72 + i) + fl (2 * (b 50 (p * 72 + i) - b 49 (p * 72 + i)) * (b 52 (p * 72 + i) + 1) + b 51 (p * 72 + i)) (2 * b 51 (p * 72 + i)))) (x_up (x_up (x_up g 71 (3190 + (p * 72 + i)) (g 71 (3190 + (p * 72 + i)) + 1)) 71 (2038 + (p * 72 + i)) (g 71 (2326 + (p * 72 + i)) + fl (2 * (g 71 (2614 + (p * 72 + i)) - g 71 (2326 + (p * 72 + i))) * (g 71 (3190 + (p * 72 + i)) + 1) + g 71 (2902 + (p * 72 + i))) (2 * g 71 (2902 + (p * 72 + i))))) 71 (2902 + (p * 72 + i)) (g 71 (2902 + (p * 72 + i))) 71) := by
              refine rG_cell h hp (by omega) h51 (fun r a1 a2 a3 a4 => by rw [upR a1, upR a3]) (fun r j a1 a2 a3 => by simp (disch := omega) only [up_eq, up_r, up_i, fil_in, fil_i, fil_r]) (fun j hj => by simp (disch := omega) only [up_eq, up_r, up_i, fil_in, fil_i, fil_r]) (by simp (disch := omega) only [up_eq, up_r, up_i, fil_in, fil_i, fil_r]) (by simp (disch := omega) only [up_eq, up_r, up_i, fil_in, fil_i, fil_r]) (Or.inl ⟨hlast, by simp (disch := omega) only [up_eq, up_r, up_i, fil_in, fil_i, fil_r], by simp (disch := omega) only [up_eq, up_r, up_i, fil_in, fil_i, fil_r]⟩) rfl (fun r hr => by rw [upR hr, upR hr, upR hr]) (fun j a1 a2 a3 => by simp (disch := omega) only [up_eq, up_r, up_i, fil_in, fil_i, fil_r]) ?_ (by simp (disch := omega) only [up_eq, up_r, up_i, fil_in, fil_i, fil_r]; omega) (by simp (disch := omega) only [up_eq, up_r, up_i, fil_in, fil_i, fil_r]; omega)
              simp (disch := omega) only [up_eq, up_r, up_i, fil_in, fil_i, fil_r]
              rw [w3, w6, w9, o8]
            obtain ⟨b', g', z1, z2, z3, z4, z5⟩ := step_A hp k (i + 1) _ _ (by omega) h1
            refine ⟨b', g', z1, fSb_tr (fun r hr => by rw [upR (by omega), upR (by omega)]) z2, fSm_tr ⟨fun r hr => by rw [upR hr, upR hr, upR hr], fun j hj => by simp (disch := omega) only [up_eq, up_r, up_i, fil_in, fil_i, fil_r]⟩ z3, fun Q K hK => ?_, fun Q K hK => ?_⟩
            · have z4 := z4 Q K hK
              rw [w_Y_stepFades_h10_s]
              simp (disch := omega) only [J_floorDiv_e, e_T, e_F, e_t, e_f, e_gd, e_bg0, e_bg1, e_nz, Int.toNat_natCast, Int.toNat_add, Int.toNat_mul, xw_al, xw_ar, xw_ml, xw_mr, xw_sl, xw_sr, xw_id, x_sl_c, mc3, mc6, mc8, mc12, mc64, mc72, Nat.add_assoc, Int.reduceToNat, L_isLine_t, L_isLine_f, R_has_t, R_has_f, R_isCh_t, R_isCh_f, V_isCurve_t, V_isCurve_f, Q_isCue_t, Q_isCue_f, Q_isList_t, Q_isList_f, B_isPb_t, B_isPb_f, m_in_t, m_in_f, m_isLine_t, m_isLine_f, m_isPb_t, m_isPb_f, m_isFx_t, m_isFx_f, F_note_e, m_finds_e, Int.reduceToNat, noted_neg, up_eq, up_r, up_i, fil_in, fil_i, fil_r]
              rw [ei]
              exact z4
            · have z5 := z5 Q K hK
              rw [w3, w6, w9, o8] at vb
              rw [w_m_play_h33_s]
              simp (disch := omega) only [m_floor_e, w_m_play_j182, e_T, e_F, e_t, e_f, e_gd, e_bg0, e_bg1, e_nz, Int.toNat_natCast, Int.toNat_add, Int.toNat_mul, xw_al, xw_ar, xw_ml, xw_mr, xw_sl, xw_sr, xw_id, x_sl_c, mc3, mc6, mc8, mc12, mc64, mc72, Nat.add_assoc, Int.reduceToNat, L_isLine_t, L_isLine_f, R_has_t, R_has_f, R_isCh_t, R_isCh_f, V_isCurve_t, V_isCurve_f, Q_isCue_t, Q_isCue_f, Q_isList_t, Q_isList_f, B_isPb_t, B_isPb_f, m_in_t, m_in_f, m_isLine_t, m_isLine_f, m_isPb_t, m_isPb_f, m_isFx_t, m_isFx_f, F_note_e, m_finds_e, Int.reduceToNat, noted_neg, up_eq, up_r, up_i, fil_in, fil_i, fil_r]
              rw [ei2]
              exact z5
          · have h1 : rG M n (x_up (x_up (x_up (x_up b 52 (p * 72 + i) (b 52 (p * 72 + i) + 1)) 47 (p * 72 + i) (b 49 (p * 72 + i) + fl (2 * (b 50 (p * 72 + i) - b 49 (p * 72 + i)) * (b 52 (p * 72 + i) + 1) + b 51 (p * 72 + i)) (2 * b 51 (p * 72 + i)))) 51 (p * 72 + i) 0) 286 p (b 286 p - 1)) (x_up (x_up (x_up g 71 (3190 + (p * 72 + i)) (g 71 (3190 + (p * 72 + i)) + 1)) 71 (2038 + (p * 72 + i)) (g 71 (2326 + (p * 72 + i)) + fl (2 * (g 71 (2614 + (p * 72 + i)) - g 71 (2326 + (p * 72 + i))) * (g 71 (3190 + (p * 72 + i)) + 1) + g 71 (2902 + (p * 72 + i))) (2 * g 71 (2902 + (p * 72 + i))))) 71 (2902 + (p * 72 + i)) 0 71) := by
              refine rG_cell h hp (by omega) h51 (fun r a1 a2 a3 a4 => by rw [upR a4, upR a2, upR a1, upR a3]) (fun r j a1 a2 a3 => by simp (disch := omega) only [up_eq, up_r, up_i, fil_in, fil_i, fil_r]) (fun j hj => by simp (disch := omega) only [up_eq, up_r, up_i, fil_in, fil_i, fil_r]) (by simp (disch := omega) only [up_eq, up_r, up_i, fil_in, fil_i, fil_r]) (by simp (disch := omega) only [up_eq, up_r, up_i, fil_in, fil_i, fil_r]) (Or.inr ⟨by omega, by simp (disch := omega) only [up_eq, up_r, up_i, fil_in, fil_i, fil_r], by simp (disch := omega) only [up_eq, up_r, up_i, fil_in, fil_i, fil_r]⟩) rfl (fun r hr => by rw [upR hr, upR hr, upR hr]) (fun j a1 a2 a3 => by simp (disch := omega) only [up_eq, up_r, up_i, fil_in, fil_i, fil_r]) ?_ (by simp (disch := omega) only [up_eq, up_r, up_i, fil_in, fil_i, fil_r]) (by simp (disch := omega) only [up_eq, up_r, up_i, fil_in, fil_i, fil_r]; omega)
              simp (disch := omega) only [up_eq, up_r, up_i, fil_in, fil_i, fil_r]
              rw [w3, w6, w9, o8]
            obtain ⟨b', g', z1, z2, z3, z4, z5⟩ := step_A hp k (i + 1) _ _ (by omega) h1
            refine ⟨b', g', z1, fSb_tr (fun r hr => by rw [upR (by omega), upR (by omega), upR (by omega), upR (by omega)]) z2, fSm_tr ⟨fun r hr => by rw [upR hr, upR hr, upR hr], fun j hj => by simp (disch := omega) only [up_eq, up_r, up_i, fil_in, fil_i, fil_r]⟩ z3, fun Q K hK => ?_, fun Q K hK => ?_⟩
            · have z4 := z4 Q K hK
              rw [w_Y_stepFades_h10_s]
              simp (disch := omega) only [J_floorDiv_e, e_T, e_F, e_t, e_f, e_gd, e_bg0, e_bg1, e_nz, Int.toNat_natCast, Int.toNat_add, Int.toNat_mul, xw_al, xw_ar, xw_ml, xw_mr, xw_sl, xw_sr, xw_id, x_sl_c, mc3, mc6, mc8, mc12, mc64, mc72, Nat.add_assoc, Int.reduceToNat, L_isLine_t, L_isLine_f, R_has_t, R_has_f, R_isCh_t, R_isCh_f, V_isCurve_t, V_isCurve_f, Q_isCue_t, Q_isCue_f, Q_isList_t, Q_isList_f, B_isPb_t, B_isPb_f, m_in_t, m_in_f, m_isLine_t, m_isLine_f, m_isPb_t, m_isPb_f, m_isFx_t, m_isFx_f, F_note_e, m_finds_e, Int.reduceToNat, noted_neg, up_eq, up_r, up_i, fil_in, fil_i, fil_r]
              rw [ei]
              exact z4
            · have z5 := z5 Q K hK
              rw [w3, w6, w9, o8] at vb
              rw [w_m_play_h33_s]
              simp (disch := omega) only [m_floor_e, w_m_play_j182, e_T, e_F, e_t, e_f, e_gd, e_bg0, e_bg1, e_nz, Int.toNat_natCast, Int.toNat_add, Int.toNat_mul, xw_al, xw_ar, xw_ml, xw_mr, xw_sl, xw_sr, xw_id, x_sl_c, mc3, mc6, mc8, mc12, mc64, mc72, Nat.add_assoc, Int.reduceToNat, L_isLine_t, L_isLine_f, R_has_t, R_has_f, R_isCh_t, R_isCh_f, V_isCurve_t, V_isCurve_f, Q_isCue_t, Q_isCue_f, Q_isList_t, Q_isList_f, B_isPb_t, B_isPb_f, m_in_t, m_in_f, m_isLine_t, m_isLine_f, m_isPb_t, m_isPb_f, m_isFx_t, m_isFx_f, F_note_e, m_finds_e, Int.reduceToNat, noted_neg, up_eq, up_r, up_i, fil_in, fil_i, fil_r]
              rw [ei2]
              exact z5
      · omega
    · obtain ⟨b', g', z1, z2, z3, z4, z5⟩ := step_A hp k (i + 1) b g (by omega) h
      refine ⟨b', g', z1, z2, z3, fun Q K hK => ?_, fun Q K hK => ?_⟩
      · have z4 := z4 Q K hK
        rw [w_Y_stepFades_h10_s]
        simp (disch := omega) only [e_T, e_F, e_t, e_f, e_gd, e_bg0, e_bg1, e_nz, Int.toNat_natCast, Int.toNat_add, Int.toNat_mul, xw_al, xw_ar, xw_ml, xw_mr, xw_sl, xw_sr, xw_id, x_sl_c, mc3, mc6, mc8, mc12, mc64, mc72, Nat.add_assoc, Int.reduceToNat, L_isLine_t, L_isLine_f, R_has_t, R_has_f, R_isCh_t, R_isCh_f, V_isCurve_t, V_isCurve_f, Q_isCue_t, Q_isCue_f, Q_isList_t, Q_isList_f, B_isPb_t, B_isPb_f, m_in_t, m_in_f, m_isLine_t, m_isLine_f, m_isPb_t, m_isPb_f, m_isFx_t, m_isFx_f, F_note_e, m_finds_e, Int.reduceToNat, noted_neg, up_eq, up_r, up_i, fil_in, fil_i, fil_r]
        rw [ei]
        exact z4
      · have z5 := z5 Q K hK
        rcases old with ⟨o0, o1, o2, o3, o4, o5, o6, o7, o8, o9⟩ | ⟨o1, o2, o3, o4, o5⟩
        · rw [w_m_play_h33_s]
          simp (disch := omega) only [e_T, e_F, e_t, e_f, e_gd, e_bg0, e_bg1, e_nz, Int.toNat_natCast, Int.toNat_add, Int.toNat_mul, xw_al, xw_ar, xw_ml, xw_mr, xw_sl, xw_sr, xw_id, x_sl_c, mc3, mc6, mc8, mc12, mc64, mc72, Nat.add_assoc, Int.reduceToNat, L_isLine_t, L_isLine_f, R_has_t, R_has_f, R_isCh_t, R_isCh_f, V_isCurve_t, V_isCurve_f, Q_isCue_t, Q_isCue_f, Q_isList_t, Q_isList_f, B_isPb_t, B_isPb_f, m_in_t, m_in_f, m_isLine_t, m_isLine_f, m_isPb_t, m_isPb_f, m_isFx_t, m_isFx_f, F_note_e, m_finds_e, Int.reduceToNat, noted_neg, up_eq, up_r, up_i, fil_in, fil_i, fil_r]
          rw [ei2]
          exact z5
        · rw [w_m_play_h33_s]
          simp (disch := omega) only [e_T, e_F, e_t, e_f, e_gd, e_bg0, e_bg1, e_nz, Int.toNat_natCast, Int.toNat_add, Int.toNat_mul, xw_al, xw_ar, xw_ml, xw_mr, xw_sl, xw_sr, xw_id, x_sl_c, mc3, mc6, mc8, mc12, mc64, mc72, Nat.add_assoc, Int.reduceToNat, L_isLine_t, L_isLine_f, R_has_t, R_has_f, R_isCh_t, R_isCh_f, V_isCurve_t, V_isCurve_f, Q_isCue_t, Q_isCue_f, Q_isList_t, Q_isList_f, B_isPb_t, B_isPb_f, m_in_t, m_in_f, m_isLine_t, m_isLine_f, m_isPb_t, m_isPb_f, m_isFx_t, m_isFx_f, F_note_e, m_finds_e, Int.reduceToNat, noted_neg, up_eq, up_r, up_i, fil_in, fil_i, fil_r]
          rw [ei2]
          exact z5
