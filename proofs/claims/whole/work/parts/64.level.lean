/-! ===== a TICK: what goes to a CHANNEL ===== -/
def endV (k : Int) (c : Nat) : Int := if k = 2 then (if c = 2 then 4 else 2 * (c : Int) + 1) else c
def whV (b : xB) (f c : Nat) : Int := if b 26 f + endV (b 17 f) c < b 12 (b 25 f).toNat then 1 else 0
theorem whV_01 (b : xB) (f c : Nat) : whV b f c = 0 ∨ whV b f c = 1 := by
  unfold whV
  split <;> omega
theorem X_whole_e {b : xB} {f c : Nat} {Q : Int → xB → Prop} (hf : f < 24) (hc : c < 3) (h0 : 0 ≤ b 25 f) (h1 : b 25 f < 4) (h2 : 0 ≤ b 26 f) (h3 : b 26 f < 64) : w_X_isWhole b f c Q = Q (whV b f c) b := by
  obtain ⟨l, hl⟩ := nat_of h0
  have key : ∀ e : Int, endV (b 17 f) c = e → 0 ≤ e → e ≤ 10 → w_R_endOf b f c (fun r1 b2 => x_gd f 24 (x_gd (b2 25 f) 4 (x_br ((xw ((b 26 f) + r1)) < (b2 12 ((b2 25 f).toNat))) (Q 1 b2) (Q 0 b2)))) = Q (whV b f c) b → w_X_isWhole b f c Q = Q (whV b f c) b := by
    intro e _ _ _ h
    unfold w_X_isWhole
    rw [e_gd (by omega) (by omega), Int.toNat_natCast]
    exact h
  have fin : ∀ e : Int, endV (b 17 f) c = e → 0 ≤ e → e ≤ 10 → (x_gd f 24 (x_gd (b 25 f) 4 (x_br ((xw ((b 26 f) + e)) < (b 12 ((b 25 f).toNat))) (Q 1 b) (Q 0 b)))) = Q (whV b f c) b := by
    intro e he e0 e1
    rw [e_gd (by omega) (by omega), e_gd (by omega) (by omega), xw_id (by omega) (by omega)]
    unfold whV
    rw [he]
    by_cases z : b 26 f + e < b 12 (b 25 f).toNat
    · rw [e_t z, if_pos z]
    · rw [e_f z, if_neg z]
  by_cases e2 : b 17 f = 2
  · by_cases ec : c = 2
    · have he : endV (b 17 f) c = 4 := by unfold endV; rw [if_pos e2, if_pos ec]
      refine key 4 he (by omega) (by omega) ?_
      unfold w_R_endOf
      rw [e_gd (by omega) (by omega), Int.toNat_natCast, e_t e2, J_min_e, xw_al, xw_id (by omega) (by omega), if_pos (by omega)]
      exact fin 4 he (by omega) (by omega)
    · have he : endV (b 17 f) c = 2 * (c : Int) + 1 := by unfold endV; rw [if_pos e2, if_neg ec]
      refine key _ he (by omega) (by omega) ?_
      unfold w_R_endOf
      rw [e_gd (by omega) (by omega), Int.toNat_natCast, e_t e2, J_min_e, xw_al, xw_id (by omega) (by omega), if_neg (by omega)]
      exact fin _ he (by omega) (by omega)
  · have he : endV (b 17 f) c = c := by unfold endV; rw [if_neg e2]
    refine key _ he (by omega) (by omega) ?_
    unfold w_R_endOf
    rw [e_gd (by omega) (by omega), Int.toNat_natCast, e_f e2]
    exact fin _ he (by omega) (by omega)
theorem m_most_e {g : xB} {f : Nat} {Q : Int → xB → Prop} (hf : f < 24) (h0 : 0 ≤ g 71 (278 + f)) (h3 : g 71 (278 + f) ≤ 3) (n0 : 0 ≤ g 71 (302 + f)) (n1 : g 71 (302 + f) ≤ 100) : w_m_mostOf g f Q = Q (kMost (g 71 (278 + f)) (g 71 (302 + f))) g := by
  unfold kMost
  by_cases e1 : 1 < g 71 (278 + f)
  · rw [if_pos (by omega)]
    by_cases e2 : 255 < 300 - g 71 (302 + f)
    · rw [if_pos e2]
      simp (disch := omega) only [w_m_mostOf, w_m_kindOf, e_T, e_F, e_t, e_f, e_gd, e_bg0, e_bg1, e_nz, Int.toNat_natCast, Int.toNat_add, Int.toNat_mul, xw_al, xw_ar, xw_ml, xw_mr, xw_sl, xw_sr, xw_id, x_sl_c, mc3, mc6, mc8, mc12, mc64, mc72, Nat.add_assoc, Int.reduceToNat, L_isLine_t, L_isLine_f, R_has_t, R_has_f, R_isCh_t, R_isCh_f, V_isCurve_t, V_isCurve_f, Q_isCue_t, Q_isCue_f, Q_isList_t, Q_isList_f, B_isPb_t, B_isPb_f, m_in_t, m_in_f, m_isLine_t, m_isLine_f, m_isPb_t, m_isPb_f, m_isFx_t, m_isFx_f, F_note_e, m_finds_e, Int.reduceToNat, noted_neg, up_eq, up_r, up_i, fil_in, fil_i, fil_r]
    · rw [if_neg e2]
      simp (disch := omega) only [w_m_mostOf, w_m_kindOf, e_T, e_F, e_t, e_f, e_gd, e_bg0, e_bg1, e_nz, Int.toNat_natCast, Int.toNat_add, Int.toNat_mul, xw_al, xw_ar, xw_ml, xw_mr, xw_sl, xw_sr, xw_id, x_sl_c, mc3, mc6, mc8, mc12, mc64, mc72, Nat.add_assoc, Int.reduceToNat, L_isLine_t, L_isLine_f, R_has_t, R_has_f, R_isCh_t, R_isCh_f, V_isCurve_t, V_isCurve_f, Q_isCue_t, Q_isCue_f, Q_isList_t, Q_isList_f, B_isPb_t, B_isPb_f, m_in_t, m_in_f, m_isLine_t, m_isLine_f, m_isPb_t, m_isPb_f, m_isFx_t, m_isFx_f, F_note_e, m_finds_e, Int.reduceToNat, noted_neg, up_eq, up_r, up_i, fil_in, fil_i, fil_r]
  · rw [if_neg (by omega)]
    simp (disch := omega) only [w_m_mostOf, w_m_kindOf, e_T, e_F, e_t, e_f, e_gd, e_bg0, e_bg1, e_nz, Int.toNat_natCast, Int.toNat_add, Int.toNat_mul, xw_al, xw_ar, xw_ml, xw_mr, xw_sl, xw_sr, xw_id, x_sl_c, mc3, mc6, mc8, mc12, mc64, mc72, Nat.add_assoc, Int.reduceToNat, L_isLine_t, L_isLine_f, R_has_t, R_has_f, R_isCh_t, R_isCh_f, V_isCurve_t, V_isCurve_f, Q_isCue_t, Q_isCue_f, Q_isList_t, Q_isList_f, B_isPb_t, B_isPb_f, m_in_t, m_in_f, m_isLine_t, m_isLine_f, m_isPb_t, m_isPb_f, m_isFx_t, m_isFx_f, F_note_e, m_finds_e, Int.reduceToNat, noted_neg, up_eq, up_r, up_i, fil_in, fil_i, fil_r]
theorem kMost_bd {k n : Int} (h0 : 0 ≤ n) (h1 : n ≤ 100) : 200 ≤ kMost k n ∧ kMost k n ≤ 255 := by
  unfold kMost
  repeat' split
  all_goals omega
def chR (b g : xB) (f c : Nat) : Prop :=
  f < 24 ∧ c < 3 ∧ c < kChan (b 17 f) ∧ 0 ≤ b 17 f ∧ b 17 f ≤ 3 ∧ b 17 f = g 71 (278 + f) ∧
  (∀ p, p < 4 → rC b (g 71) p) ∧ (∀ p, p < 4 → b 282 p = g 71 (1734 + p) ∧ 0 ≤ b 282 p ∧ b 282 p ≤ 100) ∧ rV b (g 71) ∧
  b 44 (f * 3 + c) = g 71 (734 + (f * 3 + c)) ∧ (b 44 (f * 3 + c) = 0 ∨ b 44 (f * 3 + c) = 1) ∧
  b 42 (f * 3 + c) = g 71 (590 + (f * 3 + c)) ∧ (b 42 (f * 3 + c) = -1 ∨ (0 ≤ b 42 (f * 3 + c) ∧ b 42 (f * 3 + c) < 4 ∧ ¬ (b 17 f = 2 ∧ c < 2))) ∧
  b 43 (f * 3 + c) = g 71 (662 + (f * 3 + c)) ∧ 0 ≤ b 43 (f * 3 + c) ∧ b 43 (f * 3 + c) ≤ 255 ∧ b 271 0 = g 71 3768 ∧ 0 ≤ b 271 0 ∧ b 271 0 ≤ 100 ∧
  b 18 f = g 71 (302 + f) ∧ 0 ≤ b 18 f ∧ b 18 f ≤ 100 ∧ b 22 f = kMost (b 17 f) (b 18 f) ∧ 0 ≤ b 25 f ∧ b 25 f < 4 ∧ 0 ≤ b 26 f ∧ b 26 f < 64
def lvV (b : xB) (f c : Nat) : Int := if dimV (b 17 f) c = 0 then mgR b f c else (mgR b f c * b 271 0).tdiv 100
def lvP (b : xB) (f c : Nat) (L B : Int) : Prop := ∃ w : Int, ((b 42 (f * 3 + c) = -1 ∧ w = lvV b f c ∧ B = b 43 (f * 3 + c)) ∨ (b 42 (f * 3 + c) ≠ -1 ∧ bntP b (b 42 (f * 3 + c)).toNat (lvV b f c) (b 43 (f * 3 + c)) w ∧ B = w)) ∧ L = if dimV (b 17 f) c = 0 then w else (if b 22 f < w then b 22 f else w)
theorem lvP_u {b : xB} {f c : Nat} {L B L' B' : Int} (h : lvP b f c L B) (h' : lvP b f c L' B') : L = L' ∧ B = B' := by
  obtain ⟨w, h1, h2⟩ := h
  obtain ⟨w', h1', h2'⟩ := h'
  have e : w = w' ∧ B = B' := by
    rcases h1 with ⟨a1, a2, a3⟩ | ⟨a1, a2, a3⟩ <;> rcases h1' with ⟨b1, b2, b3⟩ | ⟨b1, b2, b3⟩
    · exact ⟨by rw [a2, b2], by rw [a3, b3]⟩
    · exact absurd a1 b1
    · exact absurd b1 a1
    · have := bntP_u a2 b2
      exact ⟨this, by rw [a3, b3, this]⟩
  rw [h2, h2', e.1]
  exact ⟨rfl, e.2⟩
theorem lvP_c {b b' : xB} {f c : Nat} {L B : Int} (h : lvP b f c L B) (hr : ∀ r, r ≠ 43 → r ≠ 45 → r ≠ 46 → r ≠ 205 → r ≠ 206 → b' r = b r) (h43 : b' 43 (f * 3 + c) = b 43 (f * 3 + c)) : lvP b' f c L B := by
  have e : ∀ r, r ≠ 43 ∧ r ≠ 45 ∧ r ≠ 46 ∧ r ≠ 205 ∧ r ≠ 206 → b' r = b r := fun r h => hr r h.1 h.2.1 h.2.2.1 h.2.2.2.1 h.2.2.2.2
  have ev : lvV b' f c = lvV b f c := by
    unfold lvV mgR
    rw [mgF_c (e 47 (by omega)) (e 48 (by omega)) (e 282 (by omega)), e 44 (by omega), e 17 (by omega), e 271 (by omega)]
  obtain ⟨w, h1, h2⟩ := h
  refine ⟨w, ?_, ?_⟩
  · rw [e 42 (by omega), ev, h43]
    rcases h1 with a | ⟨a1, a2, a3⟩
    · exact Or.inl a
    · exact Or.inr ⟨a1, bntP_c a2 (e 29 (by omega)) (e 30 (by omega)) (e 32 (by omega)) (e 33 (by omega)), a3⟩
  · rw [e 17 (by omega), e 22 (by omega)]
    exact h2
/-- one CHANNEL, both -/
theorem lev_A {b g : xB} {f c : Nat} (h : chR b g f c) : ∃ (L B : Int) (b' : xB), lvP b f c L B ∧ 0 ≤ L ∧ L ≤ kTop (b 17 f) c ∧ (dimV (b 17 f) c = 1 → L ≤ 255) ∧ 0 ≤ B ∧ B ≤ 255 ∧
    ((∀ r, r ≠ 43 → r ≠ 45 → r ≠ 46 → r ≠ 205 → r ≠ 206 → b' r = b r) ∧ (∀ j, j ≠ f * 3 + c → b' 43 j = b 43 j ∧ b' 45 j = b 45 j ∧ b' 46 j = b 46 j) ∧ b' 43 (f * 3 + c) = B ∧ b' 45 (f * 3 + c) = L ∧ b' 46 (f * 3 + c) = whV b f c) ∧
    (∀ (Q : xB → Prop) (K : xB → Int → Prop) (n : Nat) (v1 : Int), w_X_reckonLevels_h25 Q K n b' v1 f ((c + 1 : Nat) : Int) → w_X_reckonLevels_h25 Q K (n + 1) b v1 f c) ∧
    (∀ Q : xB → Prop, Q (x_up (x_up g 71 (662 + (f * 3 + c)) B) 78 (f * 3 + c) L) → w_m_work g f c Q = True) := by
  obtain ⟨hf, hc, hch, k0, k3, hk, hC, hS, hV, h44, h44', h42, h42', h43, h430, h431, h271, g0, g1, h18, n0, n1, h22, l0, l1, p0, p1⟩ := h
  obtain ⟨r, er, r0, r1, rC1', rM⟩ := merged_A hf hc hC hS k0 k3 hk h44 h44'
  have kt := kTop_le (b 17 f) c
  have mb := kMost_bd (k := b 17 f) n0 n1
  have pc := pct r0 (by omega) g0 g1
  have d01 := dimV_01 (b 17 f) c
  have ech : (f : Int) * 3 + c = ((f * 3 + c : Nat) : Int) := by omega
  have ech2 : (3 : Int) * f + c = ((f * 3 + c : Nat) : Int) := by omega
  have ec1 : (c : Int) + 1 = ((c + 1 : Nat) : Int) := by omega
  have hl0 : 0 ≤ lvV b f c ∧ lvV b f c ≤ kTop (b 17 f) c := by
    unfold lvV
    rw [← er]
    split <;> omega
  -- behind merged: the class's
  have clsTop : ∀ (Q : xB → Prop) (K : xB → Int → Prop) (n : Nat) (v1 : Int), w_X_reckonLevels_j82 Q (w_X_reckonLevels_h25 Q K n) b v1 f c ((f * 3 + c : Nat) : Int) (dimV (b 17 f) c) (lvV b f c) → w_X_reckonLevels_h25 Q K (n + 1) b v1 f c := by
    intro Q K n v1 hj
    rw [w_X_reckonLevels_h25_s, R_chan_e hf, e_t (by omega), R_dim_e hf k0 k3, xw_al, xw_id (by omega) (by omega), ech]
    refine rC1' _ ?_
    unfold lvV at hj
    rw [← er] at hj
    rcases d01 with z | z
    · rw [z] at hj ⊢
      rw [if_pos rfl] at hj
      rw [e_t rfl]
      exact hj
    · rw [z] at hj ⊢
      rw [if_neg (by decide)] at hj
      rw [e_f (by decide), xw_id (z := r * b 271 0) (by omega) (by omega), xw_id (by omega) (by omega)]
      exact hj
  -- the class's end
  have clsEnd : ∀ (b1 : xB) (w : Int), (∀ r, r ≠ 43 → r ≠ 205 → r ≠ 206 → b1 r = b r) → ∀ (Q : xB → Prop) (k25 : xB → Int → Int → Int → Prop) (v1 : Int), k25 (x_up (x_up b1 45 (f * 3 + c) (if dimV (b 17 f) c = 0 then w else (if b 22 f < w then b 22 f else w))) 46 (f * 3 + c) (whV b f c)) v1 f ((c + 1 : Nat) : Int) → w_X_reckonLevels_j127 Q k25 b1 v1 f c ((f * 3 + c : Nat) : Int) (dimV (b 17 f) c) w := by
    intro b1 w hb1 Q k25 v1 hk25
    have B1 : ∀ r, r ≠ 43 ∧ r ≠ 205 ∧ r ≠ 206 → b1 r = b r := fun r h => hb1 r h.1 h.2.1 h.2.2
    have j157 : ∀ z : Int, k25 (x_up (x_up b1 45 (f * 3 + c) z) 46 (f * 3 + c) (whV b f c)) v1 f ((c + 1 : Nat) : Int) → w_X_reckonLevels_j157 Q k25 b1 v1 f c ((f * 3 + c : Nat) : Int) ((f * 3 + c : Nat) : Int) z := by
      intro z hz
      have ew : whV (x_up b1 45 (f * 3 + c) z) f c = whV b f c := by
        unfold whV
        rw [upR (by omega), upR (by omega), upR (by omega), upR (by omega), B1 26 (by omega), B1 17 (by omega), B1 12 (by omega), B1 25 (by omega)]
      unfold w_X_reckonLevels_j157
      rw [e_gd (by omega) (by omega), Int.toNat_natCast, X_whole_e hf hc (by rw [upR (by omega), B1 25 (by omega)]; exact l0) (by rw [upR (by omega), B1 25 (by omega)]; exact l1) (by rw [upR (by omega), B1 26 (by omega)]; exact p0) (by rw [upR (by omega), B1 26 (by omega)]; exact p1), ew, e_gd (by omega) (by omega)]
      have w01 := whV_01 b f c
      refine x_bg_of w01 ?_
      rw [xw_id (by omega) (by omega), ec1]
      exact hz
    unfold w_X_reckonLevels_j127
    rcases d01 with z | z
    · rw [z, if_pos rfl] at hk25
      rw [e_t z]
      exact j157 _ hk25
    · rw [z, if_neg (by decide)] at hk25
      rw [e_f (by omega), e_gd (by omega) (by omega), Int.toNat_natCast, J_min_e, B1 22 (by omega)]
      exact j157 _ hk25
  -- the model's
  have mTop : ∀ Q : xB → Prop, w_m_work_j38 Q g f c (dimV (b 17 f) c) (lvV b f c) = True → w_m_work g f c Q = True := by
    intro Q hj
    refine eq_true ?_
    unfold lvV at hj
    rw [← er] at hj
    have hM := rM (fun r3 g4 => x_br (dimV (b 17 f) c = 0) (w_m_work_j38 Q g4 f c (dimV (b 17 f) c) r3) (w_m_work_j38 Q g4 f c (dimV (b 17 f) c) (xw (Int.tdiv (xw (r3 * (g4 71 3768))) 100)))) (by
      rcases d01 with z | z
      · rw [z, if_pos rfl] at hj
        rw [z, e_t rfl, hj]
        trivial
      · rw [z, if_neg (by decide)] at hj
        rw [← h271, z, e_f (by decide), xw_id (z := r * b 271 0) (by omega) (by omega), xw_id (by omega) (by omega), hj]
        trivial)
    unfold w_m_work
    rw [m_dim_e hf (by omega) (by omega), ← hk, hM]
    trivial
  have mEnd : ∀ (g1 : xB) (w : Int), g1 71 (278 + f) = g 71 (278 + f) → g1 71 (302 + f) = g 71 (302 + f) → ∀ Q : xB → Prop, Q (x_up g1 78 (f * 3 + c) (if dimV (b 17 f) c = 0 then w else (if b 22 f < w then b 22 f else w))) → w_m_work_j65 Q g1 f c (dimV (b 17 f) c) w := by
    intro g1 w e1 e2 Q hQ
    unfold w_m_work_j65
    rw [xw_al, xw_id (z := 3 * (f : Int) + c) (by omega) (by omega), ech2, Int.toNat_natCast]
    rcases d01 with z | z
    · rw [z, if_pos rfl] at hQ
      rw [e_t z, e_gd (by omega) (by omega)]
      exact hQ
    · rw [z, if_neg (by decide)] at hQ
      rw [e_f (by omega), m_most_e hf (by omega) (by omega) (by omega) (by omega), e1, e2, ← hk, ← h18, ← h22]
      by_cases e : b 22 f < w
      · rw [if_pos e] at hQ
        rw [e_t e, m_most_e hf (by omega) (by omega) (by omega) (by omega), e1, e2, ← hk, ← h18, ← h22, e_gd (by omega) (by omega)]
        exact hQ
      · rw [if_neg e] at hQ
        rw [e_f e, e_gd (by omega) (by omega)]
        exact hQ
  have Lb : ∀ w : Int, 0 ≤ w → w ≤ kTop (b 17 f) c → 0 ≤ (if dimV (b 17 f) c = 0 then w else (if b 22 f < w then b 22 f else w)) ∧ (if dimV (b 17 f) c = 0 then w else (if b 22 f < w then b 22 f else w)) ≤ kTop (b 17 f) c ∧ (dimV (b 17 f) c = 1 → (if dimV (b 17 f) c = 0 then w else (if b 22 f < w then b 22 f else w)) ≤ 255) := by
    intro w w0 w1
    have := kMost_bd (k := b 17 f) n0 n1
    refine ⟨?_, ?_, fun z => ?_⟩
    · repeat' split
      all_goals omega
    · repeat' split
      all_goals omega
    · have := dimV_top z k0
      repeat' split
      all_goals omega
  by_cases hcu : b 42 (f * 3 + c) = -1
  · refine ⟨_, b 43 (f * 3 + c), x_up (x_up b 45 (f * 3 + c) (if dimV (b 17 f) c = 0 then lvV b f c else (if b 22 f < lvV b f c then b 22 f else lvV b f c))) 46 (f * 3 + c) (whV b f c), ⟨lvV b f c, Or.inl ⟨hcu, rfl, rfl⟩, rfl⟩, (Lb _ hl0.1 hl0.2).1, (Lb _ hl0.1 hl0.2).2.1, (Lb _ hl0.1 hl0.2).2.2, h430, h431, ⟨fun r a1 a2 a3 a4 a5 => by rw [upR a3, upR a2], fun j hj => ⟨by simp (disch := omega) only [up_eq, up_r, up_i, fil_in, fil_i, fil_r], by simp (disch := omega) only [up_eq, up_r, up_i, fil_in, fil_i, fil_r], by simp (disch := omega) only [up_eq, up_r, up_i, fil_in, fil_i, fil_r]⟩, by simp (disch := omega) only [up_eq, up_r, up_i, fil_in, fil_i, fil_r], by simp (disch := omega) only [up_eq, up_r, up_i, fil_in, fil_i, fil_r], by simp (disch := omega) only [up_eq, up_r, up_i, fil_in, fil_i, fil_r]⟩, fun Q K n v1 hK => clsTop Q K n v1 ?_, fun Q hQ => mTop Q ?_⟩
    · unfold w_X_reckonLevels_j82
      rw [e_gd (by omega) (by omega), Int.toNat_natCast, e_t hcu]
      exact clsEnd b _ (fun _ _ _ _ => rfl) Q _ v1 hK
    · have s590 : g 71 (590 + (f * 3 + c)) = -1 := by omega
      have hQ' : Q (x_up g 78 (f * 3 + c) (if dimV (b 17 f) c = 0 then lvV b f c else (if b 22 f < lvV b f c then b 22 f else lvV b f c))) := by
        rw [up_self (b := g) h43.symm] at hQ
        exact hQ
      have me := mEnd g (lvV b f c) rfl rfl Q hQ'
      by_cases hw : b 17 f = 2 ∧ c < 2
      · refine eq_true ?_
        unfold w_m_work_j38
        rw [m_wide_t hf (by omega) (by omega), e_f (by decide)]
        exact me
      · refine eq_true ?_
        unfold w_m_work_j38
        rw [m_wide_f hf (by omega), e_t rfl, xw_al, xw_id (z := 3 * (f : Int) + c) (by omega) (by omega), ech2]
        simp (disch := omega) only [w_m_bentValue, e_T, e_F, e_t, e_f, e_gd, e_bg0, e_bg1, e_nz, Int.toNat_natCast, Int.toNat_add, Int.toNat_mul, xw_al, xw_ar, xw_ml, xw_mr, xw_sl, xw_sr, xw_id, x_sl_c, mc3, mc6, mc8, mc12, mc64, mc72, Nat.add_assoc, Int.reduceToNat, L_isLine_t, L_isLine_f, R_has_t, R_has_f, R_isCh_t, R_isCh_f, V_isCurve_t, V_isCurve_f, Q_isCue_t, Q_isCue_f, Q_isList_t, Q_isList_f, B_isPb_t, B_isPb_f, m_in_t, m_in_f, m_isLine_t, m_isLine_f, m_isPb_t, m_isPb_f, m_isFx_t, m_isFx_f, F_note_e, m_finds_e, Int.reduceToNat, noted_neg, up_eq, up_r, up_i, fil_in, fil_i, fil_r]
        exact me
  · obtain ⟨cu, hcu'⟩ := nat_of (l := b 42 (f * 3 + c)) (by omega)
    have hnw : ¬ (b 17 f = 2 ∧ c < 2) := by
      rcases h42' with e | ⟨_, _, e⟩
      · exact absurd e hcu
      · exact e
    have k255 : kTop (b 17 f) c = 255 := if_neg hnw
    obtain ⟨v, hv⟩ := nat_of hl0.1
    obtain ⟨w, b1, w1, w2, w3, w4, w5, w6⟩ := bent_A (b := b) (g := g) (ch := f * 3 + c) (cu := cu) (v := v) (by omega) (by omega) hV (by omega) (by omega) h43 h430 h431
    rw [← hv] at w1 w5 w6
    have fr : ∀ r, r ≠ 43 → r ≠ 205 → r ≠ 206 → x_up b1 43 (f * 3 + c) w r = b r := fun r a1 a2 a3 => by rw [upR a1]; exact w4 r a2 a3
    refine ⟨_, w, x_up (x_up (x_up b1 43 (f * 3 + c) w) 45 (f * 3 + c) (if dimV (b 17 f) c = 0 then w else (if b 22 f < w then b 22 f else w))) 46 (f * 3 + c) (whV b f c), ⟨w, Or.inr ⟨hcu, by rw [hcu', Int.toNat_natCast]; exact w1, rfl⟩, rfl⟩, (Lb _ w2 (by omega)).1, (Lb _ w2 (by omega)).2.1, (Lb _ w2 (by omega)).2.2, w2, w3, ⟨fun r a1 a2 a3 a4 a5 => by rw [upR a3, upR a2]; exact fr r a1 a4 a5, fun j hj => ⟨by simp (disch := omega) only [up_eq, up_r, up_i, fil_in, fil_i, fil_r]; rw [w4 43 (by omega) (by omega)], by simp (disch := omega) only [up_eq, up_r, up_i, fil_in, fil_i, fil_r]; rw [w4 45 (by omega) (by omega)], by simp (disch := omega) only [up_eq, up_r, up_i, fil_in, fil_i, fil_r]; rw [w4 46 (by omega) (by omega)]⟩, by simp (disch := omega) only [up_eq, up_r, up_i, fil_in, fil_i, fil_r], by simp (disch := omega) only [up_eq, up_r, up_i, fil_in, fil_i, fil_r], by simp (disch := omega) only [up_eq, up_r, up_i, fil_in, fil_i, fil_r]⟩, fun Q K n v1 hK => clsTop Q K n v1 ?_, fun Q hQ => mTop Q (eq_true ?_)⟩
    · unfold w_X_reckonLevels_j82
      rw [e_gd (by omega) (by omega), Int.toNat_natCast, e_f hcu, e_gd (by omega) (by omega), e_gd (by omega) (by omega), hcu']
      refine w5 _ ?_
      rw [e_gd (by omega) (by omega)]
      exact clsEnd _ w fr Q _ v1 hK
    · have me := mEnd (x_up g 71 (662 + (f * 3 + c)) w) w (by simp (disch := omega) only [up_eq, up_r, up_i, fil_in, fil_i, fil_r]) (by simp (disch := omega) only [up_eq, up_r, up_i, fil_in, fil_i, fil_r]) Q hQ
      have hB := w6 (fun r7 g8 => w_m_work_j65 Q g8 f c (dimV (b 17 f) c) r7) me
      unfold w_m_work_j38
      rw [m_wide_f hf (by omega), e_t rfl, xw_al, xw_id (z := 3 * (f : Int) + c) (by omega) (by omega), ech2, hB]
      trivial
