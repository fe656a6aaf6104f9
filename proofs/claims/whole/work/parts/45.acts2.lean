/-! ===== acts, one by one ===== -/
theorem nat_of {l : Int} (h : 0 ≤ l) : ∃ j : Nat, l = (j : Int) := ⟨l.toNat, by omega⟩
section
variable {b g : xB} {q : Int → Prop} {Q : Int → xB → Prop} {R : xB → Prop}
theorem R_mark_0 {v : Int} (h : b 173 0 = 0) : w_R_mark b v R = R b := e_t h
theorem R_spanOne_0 {f : Nat} (hf : f < 24) (h : b 173 0 = 0) : w_R_spanOfOne b f Q = Q (if b 17 f = 1 then 2 else if b 17 f = 2 then 5 else if b 17 f = 3 then 3 else 1) b := by
  unfold w_R_spanOfOne
  rw [e_gd (by omega) (by omega), Int.toNat_natCast]
  by_cases h1 : b 17 f = 1
  · rw [e_t h1, if_pos h1, R_mark_0 h, R_mark_0 h]
  · rw [e_f h1, if_neg h1]
    by_cases h2 : b 17 f = 2
    · rw [e_t h2, if_pos h2, R_mark_0 h]
    · rw [e_f h2, if_neg h2]
      by_cases h3 : b 17 f = 3
      · rw [e_t h3, if_pos h3, R_mark_0 h]
      · rw [e_f h3, if_neg h3, R_mark_0 h]
theorem R_heatOf_0 {f : Nat} (hf : f < 24) (h : b 173 0 = 0) (h0 : 0 ≤ b 18 f) (h1 : b 18 f ≤ 100) : w_R_heatOf b f Q = Q (kHeat (b 17 f) (b 18 f)) b := by
  have key : ∀ v, w_R_heatOf_j32 Q b f v = Q (if v = 1 then xw (Int.tdiv (xw (20 * (if b 17 f = 1 then 2 else if b 17 f = 2 then 5 else if b 17 f = 3 then 3 else 1))) 2) else if v = 2 then xw (xw (20 * (if b 17 f = 1 then 2 else if b 17 f = 2 then 5 else if b 17 f = 3 then 3 else 1)) + b 18 f) else xw (20 * (if b 17 f = 1 then 2 else if b 17 f = 2 then 5 else if b 17 f = 3 then 3 else 1))) b := by
    intro v
    unfold w_R_heatOf_j32
    rw [R_mark_0 h, R_spanOne_0 hf h]
    by_cases h1 : v = 1
    · rw [e_t h1, if_pos h1]
    · rw [e_f h1, if_neg h1]
      by_cases h2 : v = 2
      · rw [e_t h2, if_pos h2, e_gd (by omega) (by omega), Int.toNat_natCast]
      · rw [e_f h2, if_neg h2]
  unfold w_R_heatOf
  rw [e_gd (by omega) (by omega), Int.toNat_natCast, R_mark_0 h, R_mark_0 h, key]
  unfold kHeat
  by_cases c1 : b 17 f = 1
  · rw [e_t c1, if_pos c1, if_pos c1, if_neg (by omega), if_neg (by omega)]
    rfl
  · rw [e_f c1, if_neg c1, if_neg c1]
    by_cases c2 : b 17 f = 2
    · rw [e_t c2, if_pos c2, if_pos c2, if_pos c2, show xw (20 * 5) = 100 from rfl, xw_id (by omega) (by omega)]
    · rw [e_f c2, if_neg c2, if_neg c2, if_neg c2]
      by_cases c3 : b 17 f = 3
      · rw [if_pos c3, if_pos c3]
        rfl
      · rw [if_neg c3, if_neg c3]
        rfl
theorem J_min_e {x y : Int} : w_J_min x y q = q (if y < x then y else x) := by
  unfold w_J_min
  by_cases h : y < x
  · rw [e_t h, if_pos h]
  · rw [e_f h, if_neg h]
theorem R_moves_e {f : Nat} (hf : f < 24) : w_R_moves b f Q = Q (if b 17 f = 2 ∨ b 17 f = 3 then 1 else 0) b := by
  unfold w_R_moves
  rw [e_gd (by omega) (by omega), e_gd (by omega) (by omega), Int.toNat_natCast]
  by_cases h2 : b 17 f = 2
  · rw [e_t h2, if_pos (Or.inl h2)]
  · rw [e_f h2]
    by_cases h3 : b 17 f = 3
    · rw [e_t h3, if_pos (Or.inr h3)]
    · rw [e_f h3, if_neg (by omega)]
theorem R_mostOf_0 {f : Nat} (hf : f < 24) (h : b 173 0 = 0) (h0 : 0 ≤ b 18 f) (h1 : b 18 f ≤ 100) : w_R_mostOf b f Q = Q (kMost (b 17 f) (b 18 f)) b := by
  have key : ∀ v, w_R_mostOf_j36 Q b f v = Q (if 300 - b 18 f < 255 then 300 - b 18 f else 255) b := by
    intro v
    unfold w_R_mostOf_j36
    rw [R_mark_0 h, R_mark_0 h, R_mark_0 h, e_gd (by omega) (by omega), Int.toNat_natCast, J_min_e, xw_id (by omega) (by omega)]
  unfold w_R_mostOf
  rw [R_moves_e hf]
  unfold kMost
  by_cases c : b 17 f = 2 ∨ b 17 f = 3
  · rw [if_pos c, if_pos c, e_f (by decide), e_gd (by omega) (by omega), key, key]
    have e : (if 300 - b 18 f < 255 then 300 - b 18 f else 255) = if 255 < 300 - b 18 f then 255 else 300 - b 18 f := by
      by_cases h : 300 - b 18 f < 255
      · rw [if_pos h, if_neg (by omega)]
      · rw [if_neg h]
        by_cases h' : 255 < 300 - b 18 f
        · rw [if_pos h']
        · rw [if_neg h']; omega
    rw [e]
    exact propext ⟨fun a => by by_cases k : b 17 (Int.toNat f) = 2 <;> first | exact a.1 k | exact a.2 k, fun a => ⟨fun _ => a, fun _ => a⟩⟩
  · rw [if_neg c, if_neg c, e_t rfl, R_mark_0 h]
theorem kChan_le (k : Int) : kChan k ≤ 3 := by
  unfold kChan
  repeat' split
  all_goals omega
theorem kChan_iff {k : Int} {c : Nat} (h0 : 0 ≤ k) (h4 : k ≤ 4) (hc : c < 3) : c < kChan k ↔ ((k = 0 ∧ c = 0) ∨ (k = 1 ∧ c ≤ 1) ∨ k = 2 ∨ k = 3) := by
  unfold kChan
  repeat' split
  all_goals omega
theorem R_chan_e {f : Nat} (hf : f < 24) : w_R_channelsOf b f Q = Q (kChan (b 17 f) : Int) b := by
  unfold w_R_channelsOf kChan
  rw [e_gd (by omega) (by omega), Int.toNat_natCast]
  by_cases h0 : b 17 f = 0
  · rw [e_t h0, if_pos h0]
    rfl
  · rw [e_f h0, if_neg h0]
    by_cases h1 : b 17 f = 1
    · rw [e_t h1, if_pos h1]
      rfl
    · rw [e_f h1, if_neg h1]
      by_cases h2 : b 17 f = 2
      · rw [e_t h2, if_pos (Or.inl h2)]
        rfl
      · rw [e_f h2]
        by_cases h3 : b 17 f = 3
        · rw [e_t h3, if_pos (Or.inr h3)]
          rfl
        · rw [e_f h3, if_neg (by omega)]
          rfl
theorem R_wide_t {f : Nat} {c : Int} (hf : f < 24) (h : b 17 f = 2) (hc : c < 2) : w_R_isWide b f c Q = Q 1 b := by
  simp (disch := omega) only [w_R_isWide, e_T, e_F, e_t, e_f, e_gd, e_bg0, e_bg1, e_nz, Int.toNat_natCast, Int.toNat_add, Int.toNat_mul, xw_al, xw_ar, xw_ml, xw_mr, xw_sl, xw_sr, xw_id, x_sl_c, mc3, mc6, mc8, mc12, mc64, mc72, Nat.add_assoc, Int.reduceToNat]
theorem R_wide_f {f : Nat} {c : Int} (hf : f < 24) (h : ¬ (b 17 f = 2 ∧ c < 2)) : w_R_isWide b f c Q = Q 0 b := by
  by_cases h2 : b 17 f = 2
  · simp (disch := omega) only [w_R_isWide, e_T, e_F, e_t, e_f, e_gd, e_bg0, e_bg1, e_nz, Int.toNat_natCast, Int.toNat_add, Int.toNat_mul, xw_al, xw_ar, xw_ml, xw_mr, xw_sl, xw_sr, xw_id, x_sl_c, mc3, mc6, mc8, mc12, mc64, mc72, Nat.add_assoc, Int.reduceToNat]
  · simp (disch := omega) only [w_R_isWide, e_T, e_F, e_t, e_f, e_gd, e_bg0, e_bg1, e_nz, Int.toNat_natCast, Int.toNat_add, Int.toNat_mul, xw_al, xw_ar, xw_ml, xw_mr, xw_sl, xw_sr, xw_id, x_sl_c, mc3, mc6, mc8, mc12, mc64, mc72, Nat.add_assoc, Int.reduceToNat]
theorem m_wide_t {f : Nat} {c : Int} (hf : f < 24) (h : g 71 (278 + f) = 2) (hc : c < 2) : w_m_isWide g f c Q = Q 1 g := by
  simp (disch := omega) only [w_m_isWide, w_m_kindOf, e_T, e_F, e_t, e_f, e_gd, e_bg0, e_bg1, e_nz, Int.toNat_natCast, Int.toNat_add, Int.toNat_mul, xw_al, xw_ar, xw_ml, xw_mr, xw_sl, xw_sr, xw_id, x_sl_c, mc3, mc6, mc8, mc12, mc64, mc72, Nat.add_assoc, Int.reduceToNat]
theorem m_wide_f {f : Nat} {c : Int} (hf : f < 24) (h : ¬ (g 71 (278 + f) = 2 ∧ c < 2)) : w_m_isWide g f c Q = Q 0 g := by
  by_cases h2 : g 71 (278 + f) = 2
  · simp (disch := omega) only [w_m_isWide, w_m_kindOf, e_T, e_F, e_t, e_f, e_gd, e_bg0, e_bg1, e_nz, Int.toNat_natCast, Int.toNat_add, Int.toNat_mul, xw_al, xw_ar, xw_ml, xw_mr, xw_sl, xw_sr, xw_id, x_sl_c, mc3, mc6, mc8, mc12, mc64, mc72, Nat.add_assoc, Int.reduceToNat]
  · simp (disch := omega) only [w_m_isWide, w_m_kindOf, e_T, e_F, e_t, e_f, e_gd, e_bg0, e_bg1, e_nz, Int.toNat_natCast, Int.toNat_add, Int.toNat_mul, xw_al, xw_ar, xw_ml, xw_mr, xw_sl, xw_sr, xw_id, x_sl_c, mc3, mc6, mc8, mc12, mc64, mc72, Nat.add_assoc, Int.reduceToNat]
theorem m_chan_t {f c : Nat} (hf : f < 24) (h0 : 0 ≤ g 71 (278 + f)) (h4 : g 71 (278 + f) ≤ 4) (hc : c < kChan (g 71 (278 + f))) : w_m_isChannel g f c Q = Q 1 g := by
  have h3 := kChan_le (g 71 (278 + f))
  have hk := (kChan_iff h0 h4 (by omega)).mp hc
  rcases hk with ⟨a, a'⟩ | ⟨a, a'⟩ | a | a <;> simp (disch := omega) only [w_m_isChannel, w_m_kindOf, w_m_isChannel_j35, e_T, e_F, e_t, e_f, e_gd, e_bg0, e_bg1, e_nz, Int.toNat_natCast, Int.toNat_add, Int.toNat_mul, xw_al, xw_ar, xw_ml, xw_mr, xw_sl, xw_sr, xw_id, x_sl_c, mc3, mc6, mc8, mc12, mc64, mc72, Nat.add_assoc, Int.reduceToNat, L_isLine_t, L_isLine_f, R_has_t, R_has_f, R_isCh_t, R_isCh_f, V_isCurve_t, V_isCurve_f, Q_isCue_t, Q_isCue_f, Q_isList_t, Q_isList_f, B_isPb_t, B_isPb_f, m_in_t, m_in_f, m_isLine_t, m_isLine_f, m_isPb_t, m_isPb_f, m_isFx_t, m_isFx_f, F_note_e, m_finds_e, Int.reduceToNat, noted_neg]
theorem m_chan_f {f c : Nat} (hf : f < 24) (h0 : 0 ≤ g 71 (278 + f)) (h4 : g 71 (278 + f) ≤ 4) (hc3 : c < 3) (hc : ¬ c < kChan (g 71 (278 + f))) : w_m_isChannel g f c Q = Q 0 g := by
  have hk : ¬ _ := fun a => hc ((kChan_iff h0 h4 hc3).mpr a)
  have hh : (g 71 (278 + f) = 0 ∧ 1 ≤ c) ∨ (g 71 (278 + f) = 1 ∧ c = 2) ∨ g 71 (278 + f) = 4 := by omega
  rcases hh with ⟨a, a'⟩ | ⟨a, a'⟩ | a <;> simp (disch := omega) only [w_m_isChannel, w_m_kindOf, w_m_isChannel_j35, e_T, e_F, e_t, e_f, e_gd, e_bg0, e_bg1, e_nz, Int.toNat_natCast, Int.toNat_add, Int.toNat_mul, xw_al, xw_ar, xw_ml, xw_mr, xw_sl, xw_sr, xw_id, x_sl_c, mc3, mc6, mc8, mc12, mc64, mc72, Nat.add_assoc, Int.reduceToNat, L_isLine_t, L_isLine_f, R_has_t, R_has_f, R_isCh_t, R_isCh_f, V_isCurve_t, V_isCurve_f, Q_isCue_t, Q_isCue_f, Q_isList_t, Q_isList_f, B_isPb_t, B_isPb_f, m_in_t, m_in_f, m_isLine_t, m_isLine_f, m_isPb_t, m_isPb_f, m_isFx_t, m_isFx_f, F_note_e, m_finds_e, Int.reduceToNat, noted_neg]
end
section
variable {n : Nat} {b g : xB}
/-- line -/
theorem rL_set {j : Nat} {b' : xB} {s s' : Nat → Int} (hj : j < 4) (hL : rL b s) (e11 : ∀ k p : Nat, k ≠ j → p < 64 → b' 11 (k * 64 + p) = b 11 (k * 64 + p)) (e12 : ∀ k, k ≠ j → b' 12 k = b 12 k) (e13 : ∀ k, k ≠ j → b' 13 k = b 13 k) (e14 : b' 14 = b 14) (e15 : b' 15 = b 15) (e16 : b' 16 = b 16) (hs : ∀ k, k < 4 → k ≠ j → s' k = s k ∧ s' (4 + k) = s (4 + k) ∧ ∀ p, p < 64 → s' (8 + (k * 64 + p)) = s (8 + (k * 64 + p))) (hs2 : ∀ i, 264 ≤ i → i < 276 → s' i = s i)
    (hn : (b' 13 j = 1 ∧ s' j = 1 ∧ b' 12 j = s' (4 + j) ∧ 0 ≤ b' 12 j ∧ b' 12 j ≤ 64 ∧ ∀ p : Nat, (p : Int) < b' 12 j → b' 11 (j * 64 + p) = s' (8 + (j * 64 + p)) ∧ 0 ≤ b' 11 (j * 64 + p) ∧ b' 11 (j * 64 + p) ≤ 255) ∨
   (b' 13 j = 0 ∧ s' j = 2 ∧ b' 12 j = s' (4 + j) ∧ 0 ≤ b' 12 j ∧ b' 12 j ≤ 64)) : rL b' s' := by
  intro k hk
  by_cases e : k = j
  · subst e
    obtain ⟨q1, q2, q3, q4, q5, q6, q7⟩ := hL k hk
    refine ⟨by rw [e14, hs2 _ (by omega) (by omega)]; exact q1, by rw [e15, hs2 _ (by omega) (by omega)]; exact q2, by rw [e16, hs2 _ (by omega) (by omega)]; exact q3, by rw [e14]; exact q4, by rw [e14]; exact q5, by rw [e16]; exact q6, ?_⟩
    rcases hn with a | a
    · exact Or.inl a
    · exact Or.inr (Or.inl a)
  · obtain ⟨s1, s2, s3⟩ := hs k hk e
    have h64 : ∀ p : Nat, (p : Int) < b 12 k → p < 64 := by
      intro p hp
      rcases (hL k hk).2.2.2.2.2.2 with ⟨c1, c2, c3, c4, c5, c6⟩ | ⟨c1, c2, c3, c4, c5⟩ | ⟨c1, c2, c3, c4⟩ <;> omega
    exact rL1_c hk (hL k hk) (fun p hp => e11 k p e (h64 p hp)) (e12 k e) (e13 k e) (by rw [e14]) (by rw [e15]) (by rw [e16]) (hs2 _ (by omega) (by omega)) (hs2 _ (by omega) (by omega)) (hs2 _ (by omega) (by omega)) s1 s2 s3
theorem a_line {l v : Int} (h : rB n b (g 71)) : aC n b g (w_L_tell b l v) (w_m_line g l v) 0 l v 0 0 0 := by
  by_cases hl : 0 ≤ l ∧ l < 4
  · by_cases h0 : 64 < v
    · exact aC_bad h (-2) (fun Q hQ => by simp (disch := omega) only [w_L_tell, e_T, e_F, e_t, e_f, e_gd, e_bg0, e_bg1, e_nz, Int.toNat_natCast, Int.toNat_add, Int.toNat_mul, xw_al, xw_ar, xw_ml, xw_mr, xw_sl, xw_sr, xw_id, x_sl_c, mc3, mc6, mc8, mc12, mc64, mc72, Nat.add_assoc, Int.reduceToNat, L_isLine_t, L_isLine_f, R_has_t, R_has_f, R_isCh_t, R_isCh_f, V_isCurve_t, V_isCurve_f, Q_isCue_t, Q_isCue_f, Q_isList_t, Q_isList_f, B_isPb_t, B_isPb_f, m_in_t, m_in_f, m_isLine_t, m_isLine_f, m_isPb_t, m_isPb_f, m_isFx_t, m_isFx_f, F_note_e, m_finds_e, Int.reduceToNat, noted_neg]; exact hQ) (fun Q hQ => by simp (disch := omega) only [w_m_line, w_m_lined, e_T, e_F, e_t, e_f, e_gd, e_bg0, e_bg1, e_nz, Int.toNat_natCast, Int.toNat_add, Int.toNat_mul, xw_al, xw_ar, xw_ml, xw_mr, xw_sl, xw_sr, xw_id, x_sl_c, mc3, mc6, mc8, mc12, mc64, mc72, Nat.add_assoc, Int.reduceToNat, L_isLine_t, L_isLine_f, R_has_t, R_has_f, R_isCh_t, R_isCh_f, V_isCurve_t, V_isCurve_f, Q_isCue_t, Q_isCue_f, Q_isList_t, Q_isList_f, B_isPb_t, B_isPb_f, m_in_t, m_in_f, m_isLine_t, m_isLine_f, m_isPb_t, m_isPb_f, m_isFx_t, m_isFx_f, F_note_e, m_finds_e, Int.reduceToNat, noted_neg] at hQ ⊢; exact hQ)
    · by_cases h1 : v < 0
      · exact aC_find h 5 (by omega) (by omega) (fun Q hQ => by simp (disch := omega) only [w_L_tell, e_T, e_F, e_t, e_f, e_gd, e_bg0, e_bg1, e_nz, Int.toNat_natCast, Int.toNat_add, Int.toNat_mul, xw_al, xw_ar, xw_ml, xw_mr, xw_sl, xw_sr, xw_id, x_sl_c, mc3, mc6, mc8, mc12, mc64, mc72, Nat.add_assoc, Int.reduceToNat, L_isLine_t, L_isLine_f, R_has_t, R_has_f, R_isCh_t, R_isCh_f, V_isCurve_t, V_isCurve_f, Q_isCue_t, Q_isCue_f, Q_isList_t, Q_isList_f, B_isPb_t, B_isPb_f, m_in_t, m_in_f, m_isLine_t, m_isLine_f, m_isPb_t, m_isPb_f, m_isFx_t, m_isFx_f, F_note_e, m_finds_e, Int.reduceToNat, noted_neg]; exact hQ) (fun Q hQ => by simp (disch := omega) only [w_m_line, w_m_lined, e_T, e_F, e_t, e_f, e_gd, e_bg0, e_bg1, e_nz, Int.toNat_natCast, Int.toNat_add, Int.toNat_mul, xw_al, xw_ar, xw_ml, xw_mr, xw_sl, xw_sr, xw_id, x_sl_c, mc3, mc6, mc8, mc12, mc64, mc72, Nat.add_assoc, Int.reduceToNat, L_isLine_t, L_isLine_f, R_has_t, R_has_f, R_isCh_t, R_isCh_f, V_isCurve_t, V_isCurve_f, Q_isCue_t, Q_isCue_f, Q_isList_t, Q_isList_f, B_isPb_t, B_isPb_f, m_in_t, m_in_f, m_isLine_t, m_isLine_f, m_isPb_t, m_isPb_f, m_isFx_t, m_isFx_f, F_note_e, m_finds_e, Int.reduceToNat, noted_neg] at hQ ⊢; exact hQ)
      · obtain ⟨j, rfl⟩ := nat_of hl.1
        obtain ⟨m, rfl⟩ := nat_of (l := v) (by omega)
        refine ⟨1, x_fil (x_up (x_up b 12 j m) 13 j 1) 11 (j * 64) m 0, x_fil (x_up (x_up g 71 j 1) 71 (4 + j) m) 71 (8 + j * 64) 64 0, fun Q hQ => ?_, fun Q hQ => ?_, ⟨rB_le (Nat.le_succ n) ?_, mS_fil (mS_up (mS_up mS_rf)), rfl, rfl⟩, rfl⟩
        · simp (disch := omega) only [w_L_tell, e_T, e_F, e_t, e_f, e_gd, e_bg0, e_bg1, e_nz, Int.toNat_natCast, Int.toNat_add, Int.toNat_mul, xw_al, xw_ar, xw_ml, xw_mr, xw_sl, xw_sr, xw_id, x_sl_c, mc3, mc6, mc8, mc12, mc64, mc72, Nat.add_assoc, Int.reduceToNat, L_isLine_t, L_isLine_f, R_has_t, R_has_f, R_isCh_t, R_isCh_f, V_isCurve_t, V_isCurve_f, Q_isCue_t, Q_isCue_f, Q_isList_t, Q_isList_f, B_isPb_t, B_isPb_f, m_in_t, m_in_f, m_isLine_t, m_isLine_f, m_isPb_t, m_isPb_f, m_isFx_t, m_isFx_f, F_note_e, m_finds_e, Int.reduceToNat, noted_neg]
          exact L_blank_i (by omega) (by omega) (by simp (disch := omega) only [up_eq, up_r, up_i, fil_in, fil_i, fil_r]) hQ
        · simp (disch := omega) only [w_m_line, w_m_lined, Nat.zero_add, e_T, e_F, e_t, e_f, e_gd, e_bg0, e_bg1, e_nz, Int.toNat_natCast, Int.toNat_add, Int.toNat_mul, xw_al, xw_ar, xw_ml, xw_mr, xw_sl, xw_sr, xw_id, x_sl_c, mc3, mc6, mc8, mc12, mc64, mc72, Nat.add_assoc, Int.reduceToNat, L_isLine_t, L_isLine_f, R_has_t, R_has_f, R_isCh_t, R_isCh_f, V_isCurve_t, V_isCurve_f, Q_isCue_t, Q_isCue_f, Q_isList_t, Q_isList_f, B_isPb_t, B_isPb_f, m_in_t, m_in_f, m_isLine_t, m_isLine_f, m_isPb_t, m_isPb_f, m_isFx_t, m_isFx_f, F_note_e, m_finds_e, Int.reduceToNat, noted_neg]
          exact m_darken_i (by omega) hQ
        · obtain ⟨hF, hL, hR, hP, hV, hQ, hY, hE, hX, hT, hW⟩ := h
          refine ⟨rF_c hF rfl (fun i _ _ => by simp (disch := omega) only [up_i, fil_i]), ?_, rR_c hR rfl rfl rfl rfl rfl rfl rfl rfl rfl (fun i hi => by simp (disch := omega) only [up_i, fil_i]), rP_c hP rfl rfl rfl rfl rfl rfl rfl (fun i hi => by simp (disch := omega) only [up_i, fil_i]), rV_c hV rfl rfl rfl rfl rfl (fun i _ hi => by simp (disch := omega) only [up_i, fil_i]), rQ_c hQ rfl rfl rfl rfl rfl rfl rfl rfl (Int.le_refl _) (fun i _ hi => by simp (disch := omega) only [up_i, fil_i]), rY_c hY rfl rfl rfl rfl rfl rfl rfl rfl rfl rfl rfl rfl rfl (fun _ _ => Int.le_refl _) (Int.le_refl _) (Int.le_refl _) (fun _ _ => rfl) (Int.le_refl _) (fun i _ _ hi => by simp (disch := omega) only [up_i, fil_i]), rE_c hE rfl rfl (fun i _ hi => by simp (disch := omega) only [up_i, fil_i]), rX_c hX rfl rfl rfl rfl rfl (Int.le_refl _) (fun _ _ => rfl) (fun i hi => by simp (disch := omega) only [up_i, fil_i]), rT_c hT rfl rfl (by simp (disch := omega) only [up_i, fil_i]) (by simp (disch := omega) only [up_i, fil_i]), rW_c hW (Int.le_refl _) (Int.le_refl _) rfl (by simp (disch := omega) only [up_i, fil_i]) (by simp (disch := omega) only [up_i, fil_i])⟩
          refine rL_set (j := j) (by omega) hL (fun k p hk hp => by simp (disch := omega) only [up_eq, up_r, up_i, fil_in, fil_i, fil_r]) (fun k hk => by simp (disch := omega) only [up_eq, up_r, up_i, fil_in, fil_i, fil_r]) (fun k hk => by simp (disch := omega) only [up_eq, up_r, up_i, fil_in, fil_i, fil_r]) rfl rfl rfl (fun k hk hj => ⟨by simp (disch := omega) only [up_eq, up_r, up_i, fil_in, fil_i, fil_r], by simp (disch := omega) only [up_eq, up_r, up_i, fil_in, fil_i, fil_r], fun p hp => by simp (disch := omega) only [up_eq, up_r, up_i, fil_in, fil_i, fil_r]⟩) (fun i h1 h2 => by simp (disch := omega) only [up_eq, up_r, up_i, fil_in, fil_i, fil_r]) (Or.inl ⟨by simp (disch := omega) only [up_eq, up_r, up_i, fil_in, fil_i, fil_r], by simp (disch := omega) only [up_eq, up_r, up_i, fil_in, fil_i, fil_r], by simp (disch := omega) only [up_eq, up_r, up_i, fil_in, fil_i, fil_r], by simp (disch := omega) only [up_eq, up_r, up_i, fil_in, fil_i, fil_r]; omega, by simp (disch := omega) only [up_eq, up_r, up_i, fil_in, fil_i, fil_r]; omega, fun p hp => ?_⟩)
          have hp : (p : Int) < m := by
            have : x_fil (x_up (x_up b 12 j m) 13 j 1) 11 (j * 64) m 0 12 j = m := by simp (disch := omega) only [up_eq, up_r, up_i, fil_in, fil_i, fil_r]
            omega
          rw [fil_in rfl (by omega) (by omega), fil_in rfl (by omega) (by omega)]
          omega
  · exact aC_bad h (-2) (fun Q hQ => by simp (disch := omega) only [w_L_tell, e_T, e_F, e_t, e_f, e_gd, e_bg0, e_bg1, e_nz, Int.toNat_natCast, Int.toNat_add, Int.toNat_mul, xw_al, xw_ar, xw_ml, xw_mr, xw_sl, xw_sr, xw_id, x_sl_c, mc3, mc6, mc8, mc12, mc64, mc72, Nat.add_assoc, Int.reduceToNat, L_isLine_t, L_isLine_f, R_has_t, R_has_f, R_isCh_t, R_isCh_f, V_isCurve_t, V_isCurve_f, Q_isCue_t, Q_isCue_f, Q_isList_t, Q_isList_f, B_isPb_t, B_isPb_f, m_in_t, m_in_f, m_isLine_t, m_isLine_f, m_isPb_t, m_isPb_f, m_isFx_t, m_isFx_f, F_note_e, m_finds_e, Int.reduceToNat, noted_neg]; exact hQ) (fun Q hQ => by simp (disch := omega) only [w_m_line, w_m_lined, e_T, e_F, e_t, e_f, e_gd, e_bg0, e_bg1, e_nz, Int.toNat_natCast, Int.toNat_add, Int.toNat_mul, xw_al, xw_ar, xw_ml, xw_mr, xw_sl, xw_sr, xw_id, x_sl_c, mc3, mc6, mc8, mc12, mc64, mc72, Nat.add_assoc, Int.reduceToNat, L_isLine_t, L_isLine_f, R_has_t, R_has_f, R_isCh_t, R_isCh_f, V_isCurve_t, V_isCurve_f, Q_isCue_t, Q_isCue_f, Q_isList_t, Q_isList_f, B_isPb_t, B_isPb_f, m_in_t, m_in_f, m_isLine_t, m_isLine_f, m_isPb_t, m_isPb_f, m_isFx_t, m_isFx_f, F_note_e, m_finds_e, Int.reduceToNat, noted_neg] at hQ ⊢; exact hQ)
theorem a_pull {l : Int} (h : rB n b (g 71)) : aC n b g (w_L_pullOut b l) (w_m_pull g l) 1 l 0 0 0 0 := by
  by_cases hl : 0 ≤ l ∧ l < 4
  · obtain ⟨j, rfl⟩ := nat_of hl.1
    rcases (h.2.1 j (by omega)).2.2.2.2.2.2 with ⟨c1, c2, c3, c4, c5, c6⟩ | ⟨c1, c2, c3, c4, c5⟩ | ⟨c1, c2, c3, c4⟩
    · refine ⟨1, x_up b 13 j 0, x_fil (x_up g 71 j 2) 71 (8 + j * 64) 64 0, fun Q hQ => ?_, fun Q hQ => ?_, ⟨rB_le (Nat.le_succ n) ?_, mS_fil (mS_up mS_rf), rfl, rfl⟩, rfl⟩
      · simp (disch := omega) only [w_L_pullOut, e_T, e_F, e_t, e_f, e_gd, e_bg0, e_bg1, e_nz, Int.toNat_natCast, Int.toNat_add, Int.toNat_mul, xw_al, xw_ar, xw_ml, xw_mr, xw_sl, xw_sr, xw_id, x_sl_c, mc3, mc6, mc8, mc12, mc64, mc72, Nat.add_assoc, Int.reduceToNat, L_isLine_t, L_isLine_f, R_has_t, R_has_f, R_isCh_t, R_isCh_f, V_isCurve_t, V_isCurve_f, Q_isCue_t, Q_isCue_f, Q_isList_t, Q_isList_f, B_isPb_t, B_isPb_f, m_in_t, m_in_f, m_isLine_t, m_isLine_f, m_isPb_t, m_isPb_f, m_isFx_t, m_isFx_f, F_note_e, m_finds_e, Int.reduceToNat, noted_neg]
        exact hQ
      · simp (disch := omega) only [w_m_pull, w_m_turned, Nat.zero_add, e_T, e_F, e_t, e_f, e_gd, e_bg0, e_bg1, e_nz, Int.toNat_natCast, Int.toNat_add, Int.toNat_mul, xw_al, xw_ar, xw_ml, xw_mr, xw_sl, xw_sr, xw_id, x_sl_c, mc3, mc6, mc8, mc12, mc64, mc72, Nat.add_assoc, Int.reduceToNat, L_isLine_t, L_isLine_f, R_has_t, R_has_f, R_isCh_t, R_isCh_f, V_isCurve_t, V_isCurve_f, Q_isCue_t, Q_isCue_f, Q_isList_t, Q_isList_f, B_isPb_t, B_isPb_f, m_in_t, m_in_f, m_isLine_t, m_isLine_f, m_isPb_t, m_isPb_f, m_isFx_t, m_isFx_f, F_note_e, m_finds_e, Int.reduceToNat, noted_neg]
        exact m_darken_i (by omega) hQ
      · obtain ⟨hF, hL, hR, hP, hV, hQ, hY, hE, hX, hT, hW⟩ := h
        refine ⟨rF_c hF rfl (fun i _ _ => by simp (disch := omega) only [up_i, fil_i]), ?_, rR_c hR rfl rfl rfl rfl rfl rfl rfl rfl rfl (fun i hi => by simp (disch := omega) only [up_i, fil_i]), rP_c hP rfl rfl rfl rfl rfl rfl rfl (fun i hi => by simp (disch := omega) only [up_i, fil_i]), rV_c hV rfl rfl rfl rfl rfl (fun i _ hi => by simp (disch := omega) only [up_i, fil_i]), rQ_c hQ rfl rfl rfl rfl rfl rfl rfl rfl (Int.le_refl _) (fun i _ hi => by simp (disch := omega) only [up_i, fil_i]), rY_c hY rfl rfl rfl rfl rfl rfl rfl rfl rfl rfl rfl rfl rfl (fun _ _ => Int.le_refl _) (Int.le_refl _) (Int.le_refl _) (fun _ _ => rfl) (Int.le_refl _) (fun i _ _ hi => by simp (disch := omega) only [up_i, fil_i]), rE_c hE rfl rfl (fun i _ hi => by simp (disch := omega) only [up_i, fil_i]), rX_c hX rfl rfl rfl rfl rfl (Int.le_refl _) (fun _ _ => rfl) (fun i hi => by simp (disch := omega) only [up_i, fil_i]), rT_c hT rfl rfl (by simp (disch := omega) only [up_i, fil_i]) (by simp (disch := omega) only [up_i, fil_i]), rW_c hW (Int.le_refl _) (Int.le_refl _) rfl (by simp (disch := omega) only [up_i, fil_i]) (by simp (disch := omega) only [up_i, fil_i])⟩
        exact rL_set (j := j) (by omega) hL (fun k p hk hp => by simp (disch := omega) only [up_eq, up_r, up_i, fil_in, fil_i, fil_r]) (fun k hk => by simp (disch := omega) only [up_eq, up_r, up_i, fil_in, fil_i, fil_r]) (fun k hk => by simp (disch := omega) only [up_eq, up_r, up_i, fil_in, fil_i, fil_r]) rfl rfl rfl (fun k hk hj => ⟨by simp (disch := omega) only [up_eq, up_r, up_i, fil_in, fil_i, fil_r], by simp (disch := omega) only [up_eq, up_r, up_i, fil_in, fil_i, fil_r], fun p hp => by simp (disch := omega) only [up_eq, up_r, up_i, fil_in, fil_i, fil_r]⟩) (fun i h1 h2 => by simp (disch := omega) only [up_eq, up_r, up_i, fil_in, fil_i, fil_r]) (Or.inr ⟨by simp (disch := omega) only [up_eq, up_r, up_i, fil_in, fil_i, fil_r], by simp (disch := omega) only [up_eq, up_r, up_i, fil_in, fil_i, fil_r], by simp (disch := omega) only [up_eq, up_r, up_i, fil_in, fil_i, fil_r]; exact c3, by simp (disch := omega) only [up_eq, up_r, up_i, fil_in, fil_i, fil_r]; omega, by simp (disch := omega) only [up_eq, up_r, up_i, fil_in, fil_i, fil_r]; omega⟩)
    · exact aC_bad h (-3) (fun Q hQ => by simp (disch := omega) only [w_L_pullOut, e_T, e_F, e_t, e_f, e_gd, e_bg0, e_bg1, e_nz, Int.toNat_natCast, Int.toNat_add, Int.toNat_mul, xw_al, xw_ar, xw_ml, xw_mr, xw_sl, xw_sr, xw_id, x_sl_c, mc3, mc6, mc8, mc12, mc64, mc72, Nat.add_assoc, Int.reduceToNat, L_isLine_t, L_isLine_f, R_has_t, R_has_f, R_isCh_t, R_isCh_f, V_isCurve_t, V_isCurve_f, Q_isCue_t, Q_isCue_f, Q_isList_t, Q_isList_f, B_isPb_t, B_isPb_f, m_in_t, m_in_f, m_isLine_t, m_isLine_f, m_isPb_t, m_isPb_f, m_isFx_t, m_isFx_f, F_note_e, m_finds_e, Int.reduceToNat, noted_neg]; exact hQ) (fun Q hQ => by simp (disch := omega) only [w_m_pull, w_m_turned, Nat.zero_add, e_T, e_F, e_t, e_f, e_gd, e_bg0, e_bg1, e_nz, Int.toNat_natCast, Int.toNat_add, Int.toNat_mul, xw_al, xw_ar, xw_ml, xw_mr, xw_sl, xw_sr, xw_id, x_sl_c, mc3, mc6, mc8, mc12, mc64, mc72, Nat.add_assoc, Int.reduceToNat, L_isLine_t, L_isLine_f, R_has_t, R_has_f, R_isCh_t, R_isCh_f, V_isCurve_t, V_isCurve_f, Q_isCue_t, Q_isCue_f, Q_isList_t, Q_isList_f, B_isPb_t, B_isPb_f, m_in_t, m_in_f, m_isLine_t, m_isLine_f, m_isPb_t, m_isPb_f, m_isFx_t, m_isFx_f, F_note_e, m_finds_e, Int.reduceToNat, noted_neg] at hQ ⊢; exact hQ)
    · exact aC_bad h (-3) (fun Q hQ => by simp (disch := omega) only [w_L_pullOut, e_T, e_F, e_t, e_f, e_gd, e_bg0, e_bg1, e_nz, Int.toNat_natCast, Int.toNat_add, Int.toNat_mul, xw_al, xw_ar, xw_ml, xw_mr, xw_sl, xw_sr, xw_id, x_sl_c, mc3, mc6, mc8, mc12, mc64, mc72, Nat.add_assoc, Int.reduceToNat, L_isLine_t, L_isLine_f, R_has_t, R_has_f, R_isCh_t, R_isCh_f, V_isCurve_t, V_isCurve_f, Q_isCue_t, Q_isCue_f, Q_isList_t, Q_isList_f, B_isPb_t, B_isPb_f, m_in_t, m_in_f, m_isLine_t, m_isLine_f, m_isPb_t, m_isPb_f, m_isFx_t, m_isFx_f, F_note_e, m_finds_e, Int.reduceToNat, noted_neg]; exact hQ) (fun Q hQ => by simp (disch := omega) only [w_m_pull, w_m_turned, Nat.zero_add, e_T, e_F, e_t, e_f, e_gd, e_bg0, e_bg1, e_nz, Int.toNat_natCast, Int.toNat_add, Int.toNat_mul, xw_al, xw_ar, xw_ml, xw_mr, xw_sl, xw_sr, xw_id, x_sl_c, mc3, mc6, mc8, mc12, mc64, mc72, Nat.add_assoc, Int.reduceToNat, L_isLine_t, L_isLine_f, R_has_t, R_has_f, R_isCh_t, R_isCh_f, V_isCurve_t, V_isCurve_f, Q_isCue_t, Q_isCue_f, Q_isList_t, Q_isList_f, B_isPb_t, B_isPb_f, m_in_t, m_in_f, m_isLine_t, m_isLine_f, m_isPb_t, m_isPb_f, m_isFx_t, m_isFx_f, F_note_e, m_finds_e, Int.reduceToNat, noted_neg] at hQ ⊢; exact hQ)
  · exact aC_bad h (-2) (fun Q hQ => by simp (disch := omega) only [w_L_pullOut, e_T, e_F, e_t, e_f, e_gd, e_bg0, e_bg1, e_nz, Int.toNat_natCast, Int.toNat_add, Int.toNat_mul, xw_al, xw_ar, xw_ml, xw_mr, xw_sl, xw_sr, xw_id, x_sl_c, mc3, mc6, mc8, mc12, mc64, mc72, Nat.add_assoc, Int.reduceToNat, L_isLine_t, L_isLine_f, R_has_t, R_has_f, R_isCh_t, R_isCh_f, V_isCurve_t, V_isCurve_f, Q_isCue_t, Q_isCue_f, Q_isList_t, Q_isList_f, B_isPb_t, B_isPb_f, m_in_t, m_in_f, m_isLine_t, m_isLine_f, m_isPb_t, m_isPb_f, m_isFx_t, m_isFx_f, F_note_e, m_finds_e, Int.reduceToNat, noted_neg]; exact hQ) (fun Q hQ => by simp (disch := omega) only [w_m_pull, w_m_turned, e_T, e_F, e_t, e_f, e_gd, e_bg0, e_bg1, e_nz, Int.toNat_natCast, Int.toNat_add, Int.toNat_mul, xw_al, xw_ar, xw_ml, xw_mr, xw_sl, xw_sr, xw_id, x_sl_c, mc3, mc6, mc8, mc12, mc64, mc72, Nat.add_assoc, Int.reduceToNat, L_isLine_t, L_isLine_f, R_has_t, R_has_f, R_isCh_t, R_isCh_f, V_isCurve_t, V_isCurve_f, Q_isCue_t, Q_isCue_f, Q_isList_t, Q_isList_f, B_isPb_t, B_isPb_f, m_in_t, m_in_f, m_isLine_t, m_isLine_f, m_isPb_t, m_isPb_f, m_isFx_t, m_isFx_f, F_note_e, m_finds_e, Int.reduceToNat, noted_neg] at hQ ⊢; exact hQ)
theorem a_plug {l : Int} (h : rB n b (g 71)) : aC n b g (w_L_plugIn b l) (w_m_plug g l) 2 l 0 0 0 0 := by
  by_cases hl : 0 ≤ l ∧ l < 4
  · obtain ⟨j, rfl⟩ := nat_of hl.1
    rcases (h.2.1 j (by omega)).2.2.2.2.2.2 with ⟨c1, c2, c3, c4, c5, c6⟩ | ⟨c1, c2, c3, c4, c5⟩ | ⟨c1, c2, c3, c4⟩
    · exact aC_bad h (-3) (fun Q hQ => by simp (disch := omega) only [w_L_plugIn, e_T, e_F, e_t, e_f, e_gd, e_bg0, e_bg1, e_nz, Int.toNat_natCast, Int.toNat_add, Int.toNat_mul, xw_al, xw_ar, xw_ml, xw_mr, xw_sl, xw_sr, xw_id, x_sl_c, mc3, mc6, mc8, mc12, mc64, mc72, Nat.add_assoc, Int.reduceToNat, L_isLine_t, L_isLine_f, R_has_t, R_has_f, R_isCh_t, R_isCh_f, V_isCurve_t, V_isCurve_f, Q_isCue_t, Q_isCue_f, Q_isList_t, Q_isList_f, B_isPb_t, B_isPb_f, m_in_t, m_in_f, m_isLine_t, m_isLine_f, m_isPb_t, m_isPb_f, m_isFx_t, m_isFx_f, F_note_e, m_finds_e, Int.reduceToNat, noted_neg]; exact hQ) (fun Q hQ => by simp (disch := omega) only [w_m_plug, w_m_turned, Nat.zero_add, e_T, e_F, e_t, e_f, e_gd, e_bg0, e_bg1, e_nz, Int.toNat_natCast, Int.toNat_add, Int.toNat_mul, xw_al, xw_ar, xw_ml, xw_mr, xw_sl, xw_sr, xw_id, x_sl_c, mc3, mc6, mc8, mc12, mc64, mc72, Nat.add_assoc, Int.reduceToNat, L_isLine_t, L_isLine_f, R_has_t, R_has_f, R_isCh_t, R_isCh_f, V_isCurve_t, V_isCurve_f, Q_isCue_t, Q_isCue_f, Q_isList_t, Q_isList_f, B_isPb_t, B_isPb_f, m_in_t, m_in_f, m_isLine_t, m_isLine_f, m_isPb_t, m_isPb_f, m_isFx_t, m_isFx_f, F_note_e, m_finds_e, Int.reduceToNat, noted_neg] at hQ ⊢; exact hQ)
    · obtain ⟨m, hm⟩ := nat_of c4
      refine ⟨1, x_fil (x_up b 13 j 1) 11 (j * 64) m 0, x_fil (x_up g 71 j 1) 71 (8 + j * 64) 64 0, fun Q hQ => ?_, fun Q hQ => ?_, ⟨rB_le (Nat.le_succ n) ?_, mS_fil (mS_up mS_rf), rfl, rfl⟩, rfl⟩
      · simp (disch := omega) only [w_L_plugIn, e_T, e_F, e_t, e_f, e_gd, e_bg0, e_bg1, e_nz, Int.toNat_natCast, Int.toNat_add, Int.toNat_mul, xw_al, xw_ar, xw_ml, xw_mr, xw_sl, xw_sr, xw_id, x_sl_c, mc3, mc6, mc8, mc12, mc64, mc72, Nat.add_assoc, Int.reduceToNat, L_isLine_t, L_isLine_f, R_has_t, R_has_f, R_isCh_t, R_isCh_f, V_isCurve_t, V_isCurve_f, Q_isCue_t, Q_isCue_f, Q_isList_t, Q_isList_f, B_isPb_t, B_isPb_f, m_in_t, m_in_f, m_isLine_t, m_isLine_f, m_isPb_t, m_isPb_f, m_isFx_t, m_isFx_f, F_note_e, m_finds_e, Int.reduceToNat, noted_neg]
        exact L_blank_i (by omega) (by omega) (by simp (disch := omega) only [up_eq, up_r, up_i, fil_in, fil_i, fil_r]; exact hm) hQ
      · simp (disch := omega) only [w_m_plug, w_m_turned, Nat.zero_add, e_T, e_F, e_t, e_f, e_gd, e_bg0, e_bg1, e_nz, Int.toNat_natCast, Int.toNat_add, Int.toNat_mul, xw_al, xw_ar, xw_ml, xw_mr, xw_sl, xw_sr, xw_id, x_sl_c, mc3, mc6, mc8, mc12, mc64, mc72, Nat.add_assoc, Int.reduceToNat, L_isLine_t, L_isLine_f, R_has_t, R_has_f, R_isCh_t, R_isCh_f, V_isCurve_t, V_isCurve_f, Q_isCue_t, Q_isCue_f, Q_isList_t, Q_isList_f, B_isPb_t, B_isPb_f, m_in_t, m_in_f, m_isLine_t, m_isLine_f, m_isPb_t, m_isPb_f, m_isFx_t, m_isFx_f, F_note_e, m_finds_e, Int.reduceToNat, noted_neg]
        exact m_darken_i (by omega) hQ
      · obtain ⟨hF, hL, hR, hP, hV, hQ, hY, hE, hX, hT, hW⟩ := h
        refine ⟨rF_c hF rfl (fun i _ _ => by simp (disch := omega) only [up_i, fil_i]), ?_, rR_c hR rfl rfl rfl rfl rfl rfl rfl rfl rfl (fun i hi => by simp (disch := omega) only [up_i, fil_i]), rP_c hP rfl rfl rfl rfl rfl rfl rfl (fun i hi => by simp (disch := omega) only [up_i, fil_i]), rV_c hV rfl rfl rfl rfl rfl (fun i _ hi => by simp (disch := omega) only [up_i, fil_i]), rQ_c hQ rfl rfl rfl rfl rfl rfl rfl rfl (Int.le_refl _) (fun i _ hi => by simp (disch := omega) only [up_i, fil_i]), rY_c hY rfl rfl rfl rfl rfl rfl rfl rfl rfl rfl rfl rfl rfl (fun _ _ => Int.le_refl _) (Int.le_refl _) (Int.le_refl _) (fun _ _ => rfl) (Int.le_refl _) (fun i _ _ hi => by simp (disch := omega) only [up_i, fil_i]), rE_c hE rfl rfl (fun i _ hi => by simp (disch := omega) only [up_i, fil_i]), rX_c hX rfl rfl rfl rfl rfl (Int.le_refl _) (fun _ _ => rfl) (fun i hi => by simp (disch := omega) only [up_i, fil_i]), rT_c hT rfl rfl (by simp (disch := omega) only [up_i, fil_i]) (by simp (disch := omega) only [up_i, fil_i]), rW_c hW (Int.le_refl _) (Int.le_refl _) rfl (by simp (disch := omega) only [up_i, fil_i]) (by simp (disch := omega) only [up_i, fil_i])⟩
        refine rL_set (j := j) (by omega) hL (fun k p hk hp => by simp (disch := omega) only [up_eq, up_r, up_i, fil_in, fil_i, fil_r]) (fun k hk => by simp (disch := omega) only [up_eq, up_r, up_i, fil_in, fil_i, fil_r]) (fun k hk => by simp (disch := omega) only [up_eq, up_r, up_i, fil_in, fil_i, fil_r]) rfl rfl rfl (fun k hk hj => ⟨by simp (disch := omega) only [up_eq, up_r, up_i, fil_in, fil_i, fil_r], by simp (disch := omega) only [up_eq, up_r, up_i, fil_in, fil_i, fil_r], fun p hp => by simp (disch := omega) only [up_eq, up_r, up_i, fil_in, fil_i, fil_r]⟩) (fun i h1 h2 => by simp (disch := omega) only [up_eq, up_r, up_i, fil_in, fil_i, fil_r]) (Or.inl ⟨by simp (disch := omega) only [up_eq, up_r, up_i, fil_in, fil_i, fil_r], by simp (disch := omega) only [up_eq, up_r, up_i, fil_in, fil_i, fil_r], by simp (disch := omega) only [up_eq, up_r, up_i, fil_in, fil_i, fil_r]; exact c3, by simp (disch := omega) only [up_eq, up_r, up_i, fil_in, fil_i, fil_r]; omega, by simp (disch := omega) only [up_eq, up_r, up_i, fil_in, fil_i, fil_r]; omega, fun p hp => ?_⟩)
        have hp : (p : Int) < m := by
          have : x_fil (x_up b 13 j 1) 11 (j * 64) m 0 12 j = m := by simp (disch := omega) only [up_eq, up_r, up_i, fil_in, fil_i, fil_r]; exact hm
          omega
        rw [fil_in rfl (by omega) (by omega), fil_in rfl (by omega) (by omega)]
        omega
    · exact aC_bad h (-3) (fun Q hQ => by simp (disch := omega) only [w_L_plugIn, e_T, e_F, e_t, e_f, e_gd, e_bg0, e_bg1, e_nz, Int.toNat_natCast, Int.toNat_add, Int.toNat_mul, xw_al, xw_ar, xw_ml, xw_mr, xw_sl, xw_sr, xw_id, x_sl_c, mc3, mc6, mc8, mc12, mc64, mc72, Nat.add_assoc, Int.reduceToNat, L_isLine_t, L_isLine_f, R_has_t, R_has_f, R_isCh_t, R_isCh_f, V_isCurve_t, V_isCurve_f, Q_isCue_t, Q_isCue_f, Q_isList_t, Q_isList_f, B_isPb_t, B_isPb_f, m_in_t, m_in_f, m_isLine_t, m_isLine_f, m_isPb_t, m_isPb_f, m_isFx_t, m_isFx_f, F_note_e, m_finds_e, Int.reduceToNat, noted_neg]; exact hQ) (fun Q hQ => by simp (disch := omega) only [w_m_plug, w_m_turned, Nat.zero_add, e_T, e_F, e_t, e_f, e_gd, e_bg0, e_bg1, e_nz, Int.toNat_natCast, Int.toNat_add, Int.toNat_mul, xw_al, xw_ar, xw_ml, xw_mr, xw_sl, xw_sr, xw_id, x_sl_c, mc3, mc6, mc8, mc12, mc64, mc72, Nat.add_assoc, Int.reduceToNat, L_isLine_t, L_isLine_f, R_has_t, R_has_f, R_isCh_t, R_isCh_f, V_isCurve_t, V_isCurve_f, Q_isCue_t, Q_isCue_f, Q_isList_t, Q_isList_f, B_isPb_t, B_isPb_f, m_in_t, m_in_f, m_isLine_t, m_isLine_f, m_isPb_t, m_isPb_f, m_isFx_t, m_isFx_f, F_note_e, m_finds_e, Int.reduceToNat, noted_neg] at hQ ⊢; exact hQ)
  · exact aC_bad h (-2) (fun Q hQ => by simp (disch := omega) only [w_L_plugIn, e_T, e_F, e_t, e_f, e_gd, e_bg0, e_bg1, e_nz, Int.toNat_natCast, Int.toNat_add, Int.toNat_mul, xw_al, xw_ar, xw_ml, xw_mr, xw_sl, xw_sr, xw_id, x_sl_c, mc3, mc6, mc8, mc12, mc64, mc72, Nat.add_assoc, Int.reduceToNat, L_isLine_t, L_isLine_f, R_has_t, R_has_f, R_isCh_t, R_isCh_f, V_isCurve_t, V_isCurve_f, Q_isCue_t, Q_isCue_f, Q_isList_t, Q_isList_f, B_isPb_t, B_isPb_f, m_in_t, m_in_f, m_isLine_t, m_isLine_f, m_isPb_t, m_isPb_f, m_isFx_t, m_isFx_f, F_note_e, m_finds_e, Int.reduceToNat, noted_neg]; exact hQ) (fun Q hQ => by simp (disch := omega) only [w_m_plug, w_m_turned, e_T, e_F, e_t, e_f, e_gd, e_bg0, e_bg1, e_nz, Int.toNat_natCast, Int.toNat_add, Int.toNat_mul, xw_al, xw_ar, xw_ml, xw_mr, xw_sl, xw_sr, xw_id, x_sl_c, mc3, mc6, mc8, mc12, mc64, mc72, Nat.add_assoc, Int.reduceToNat, L_isLine_t, L_isLine_f, R_has_t, R_has_f, R_isCh_t, R_isCh_f, V_isCurve_t, V_isCurve_f, Q_isCue_t, Q_isCue_f, Q_isList_t, Q_isList_f, B_isPb_t, B_isPb_f, m_in_t, m_in_f, m_isLine_t, m_isLine_f, m_isPb_t, m_isPb_f, m_isFx_t, m_isFx_f, F_note_e, m_finds_e, Int.reduceToNat, noted_neg] at hQ ⊢; exact hQ)
end
