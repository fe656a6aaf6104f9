/-! ===== reach; asks on both sides ===== -/
theorem R_reach_A {b0 b : xB} {f : Nat} {k m : Int} (h173 : b0 173 0 = 1) (hf : f < 24) (hk : b0 17 f = k) (hm : b0 18 f = m) (hc : cT b0 b []) : (k = 2 → ∃ b', cT b0 b' [20] ∧ ∀ Q : Int → xB → Prop, Q 360 b' → w_R_reachOf b f Q) ∧ (k = 3 → ∃ b', cT b0 b' [21, 20] ∧ (m ≠ 0 → ∀ Q : Int → xB → Prop, Q (xw (Int.tdiv 360 m)) b' → w_R_reachOf b f Q) ∧ (m = 0 → ∀ Q : Int → xB → Prop, Q (-14) (x_up b' 10 4 (xw (b' 10 4 + 1))) → w_R_reachOf b f Q)) := by
  have e17 : b 17 f = k := by rw [hc.1 17 (by omega) (by omega)]; exact hk
  constructor
  · intro k2
    obtain ⟨b1, x1, x2⟩ := R_mark_U (z := 20) 20 rfl h173 hc (by decide)
    refine ⟨b1, x1, fun Q hQ => ?_⟩
    have e17' : b1 17 f = k := by rw [x1.1 17 (by omega) (by omega)]; exact hk
    unfold w_R_reachOf w_R_reachOf_j16
    rw [e_gd (by omega) (by omega), Int.toNat_natCast, e17, e_f (by omega)]
    refine x2 _ ?_
    rw [e_gd (by omega) (by omega), e17', e_f (by omega)]
    exact hQ
  · intro k3
    obtain ⟨b1, x1, x2⟩ := R_mark_U (z := 21) 21 rfl h173 hc (by decide)
    obtain ⟨b2, y1, y2⟩ := R_mark_U (z := 20) 20 rfl h173 x1 (by decide)
    have e17' : b2 17 f = k := by rw [y1.1 17 (by omega) (by omega)]; exact hk
    have e18 : b2 18 f = m := by rw [y1.1 18 (by omega) (by omega)]; exact hm
    refine ⟨b2, y1, fun hm0 Q hQ => ?_, fun hm0 Q hQ => ?_⟩
    · unfold w_R_reachOf w_R_reachOf_j16
      rw [e_gd (by omega) (by omega), Int.toNat_natCast, e17, e_t k3]
      refine x2 _ (y2 _ ?_)
      rw [e_gd (by omega) (by omega), e17', e_t k3, e_gd (by omega) (by omega), e18, e_f hm0, e_nz hm0]
      exact hQ
    · unfold w_R_reachOf w_R_reachOf_j16
      rw [e_gd (by omega) (by omega), Int.toNat_natCast, e17, e_t k3]
      refine x2 _ (y2 _ ?_)
      rw [e_gd (by omega) (by omega), e17', e_t k3, e_gd (by omega) (by omega), e18, e_t hm0, F_note_e (by omega) (by omega)]
      exact hQ
theorem m_reach_A {g0 g : xB} {f : Nat} {k m : Int} (hf : f < 24) (hk : g0 71 (278 + f) = k) (hm : g0 71 (302 + f) = m) (hc : mU g0 g []) : (k = 2 → ∃ g', mU g0 g' [20] ∧ ∀ Q : Int → xB → Prop, Q 360 g' → w_m_reach g f Q = True) ∧ (k = 3 → ∃ g', mU g0 g' [21, 20] ∧ (m ≠ 0 → ∀ Q : Int → xB → Prop, Q (xw (Int.tdiv 360 m)) g' → w_m_reach g f Q = True) ∧ (m = 0 → ∀ Q : Int → xB → Prop, Q (-14) (x_up g' 71 3776 (xw (g' 71 3776 + 1))) → w_m_reach g f Q = True)) := by
  have e278 : g 71 (278 + f) = k := by rw [hc.1 71 (by omega) (by omega) (by omega) (by omega) (by omega)]; exact hk
  have ix : xw (278 + (f : Int)) = ((278 + f : Nat) : Int) := (xw_id (by omega) (by omega)).trans (by omega)
  have iy : xw (302 + (f : Int)) = ((302 + f : Nat) : Int) := (xw_id (by omega) (by omega)).trans (by omega)
  constructor
  · intro k2
    obtain ⟨b1, x1, x2⟩ := m_by_U (z := 20) 20 rfl hc (by decide)
    refine ⟨b1, x1, fun Q hQ => eq_true ?_⟩
    have s := x2 360 (fun r9 g10 => Q r9 g10) hQ
    unfold w_m_reach w_m_kindOf
    rw [ix, Int.toNat_natCast, e_gd (by omega) (by omega), e278]
    dsimp only
    rw [e_t k2]
    simp only [s]
  · intro k3
    obtain ⟨b1, x1, x2⟩ := m_by_U (z := 21) 21 rfl hc (by decide)
    obtain ⟨b2, y1, y2⟩ := m_by_U (z := 20) 20 rfl x1 (by decide)
    have e302 : b2 71 (302 + f) = m := by rw [y1.1 71 (by omega) (by omega) (by omega) (by omega) (by omega)]; exact hm
    have wrap : ∀ Q : Int → xB → Prop, x_br (m = 0) (w_m_finds b2 4 (fun r7 g8 => Q r7 g8)) (x_nz m (Q (xw (Int.tdiv (xw ((0 : Int) + 360)) m)) b2)) → w_m_reach g f Q = True := by
      intro Q hQ
      have s2 := y2 360 (fun r5 g6 => x_gd (xw (302 + f)) 3779 (x_br ((g6 71 ((xw (302 + f)).toNat)) = 0) (w_m_finds g6 4 (fun r7 g8 => Q r7 g8)) (x_gd (xw (302 + f)) 3779 (x_nz (g6 71 ((xw (302 + f)).toNat)) (Q (xw (Int.tdiv (xw ((0 : Int) + r5)) (g6 71 ((xw (302 + f)).toNat)))) g6))))) (by
        rw [iy, Int.toNat_natCast, e_gd (by omega) (by omega), e_gd (by omega) (by omega), e302]
        exact hQ)
      have s1 := x2 0 (fun r3 g4 => w_m_by g4 20 360 (fun r5 g6 => x_gd (xw (302 + f)) 3779 (x_br ((g6 71 ((xw (302 + f)).toNat)) = 0) (w_m_finds g6 4 (fun r7 g8 => Q r7 g8)) (x_gd (xw (302 + f)) 3779 (x_nz (g6 71 ((xw (302 + f)).toNat)) (Q (xw (Int.tdiv (xw (r3 + r5)) (g6 71 ((xw (302 + f)).toNat)))) g6)))))) (by simp only [s2])
      refine eq_true ?_
      unfold w_m_reach w_m_kindOf
      rw [ix, Int.toNat_natCast, e_gd (by omega) (by omega), e278]
      dsimp only
      rw [e_f (by omega)]
      simp only [s1]
    refine ⟨b2, y1, fun hm0 Q hQ => wrap Q ?_, fun hm0 Q hQ => wrap Q ?_⟩
    · rw [e_f hm0, e_nz hm0, xw_id (z := (0 : Int) + 360) (by omega) (by omega)]
      exact hQ
    · rw [e_t hm0, m_finds_e (by omega) (by omega)]
      exact hQ
theorem rB_T {n : Nat} {b b' : xB} {s : Nat → Int} (h : rB n b s) (e : ∀ r, r ≠ 24 → r ≠ 172 → b' r = b r) : rB n b' s := by
  obtain ⟨hF, hL, hR, hP, hV, hQ, hY, hE, hX, hT, hW⟩ := h
  have e' (r : Nat) (hr : r ≠ 24 ∧ r ≠ 172) : b' r = b r := e r hr.1 hr.2
  refine ⟨rF_c hF (e' _ (by omega)) (fun _ _ _ => rfl), rL_c hL (e' _ (by omega)) (e' _ (by omega)) (e' _ (by omega)) (e' _ (by omega)) (e' _ (by omega)) (e' _ (by omega)) (fun _ _ => rfl), rR_c hR (e' _ (by omega)) (e' _ (by omega)) (e' _ (by omega)) (e' _ (by omega)) (e' _ (by omega)) (e' _ (by omega)) (e' _ (by omega)) (e' _ (by omega)) (e' _ (by omega)) (fun _ _ => rfl), rP_c hP (e' _ (by omega)) (e' _ (by omega)) (e' _ (by omega)) (e' _ (by omega)) (e' _ (by omega)) (e' _ (by omega)) (e' _ (by omega)) (fun _ _ => rfl), rV_c hV (e' _ (by omega)) (e' _ (by omega)) (e' _ (by omega)) (e' _ (by omega)) (e' _ (by omega)) (fun _ _ _ => rfl), rQ_c hQ (e' _ (by omega)) (e' _ (by omega)) (e' _ (by omega)) (e' _ (by omega)) (e' _ (by omega)) (e' _ (by omega)) (e' _ (by omega)) (e' _ (by omega)) (by rw [e' 161 (by omega)]; exact Int.le_refl _) (fun _ _ _ => rfl), rY_c hY (e' _ (by omega)) (e' _ (by omega)) (e' _ (by omega)) (e' _ (by omega)) (e' _ (by omega)) (e' _ (by omega)) (e' _ (by omega)) (e' _ (by omega)) (e' _ (by omega)) (e' _ (by omega)) (e' _ (by omega)) (e' _ (by omega)) (e' _ (by omega)) (fun _ _ => by rw [e' 39 (by omega)]; exact Int.le_refl _) (by rw [e' 108 (by omega)]; exact Int.le_refl _) (by rw [e' 161 (by omega)]; exact Int.le_refl _) (fun _ _ => by rw [e' 17 (by omega)]) (by rw [e' 110 (by omega)]; exact Int.le_refl _) (fun _ _ _ _ => rfl), rE_c hE (e' _ (by omega)) (e' _ (by omega)) (fun _ _ _ => rfl), rX_c hX (e' _ (by omega)) (e' _ (by omega)) (e' _ (by omega)) (e' _ (by omega)) (e' _ (by omega)) (by rw [e' 161 (by omega)]; exact Int.le_refl _) (fun _ _ => by rw [e' 17 (by omega)]) (fun _ _ => rfl), rT_c hT (e' _ (by omega)) (e' _ (by omega)) rfl rfl, ?_⟩
  rw [e' 108 (by omega)]
  exact rW_c hW (Int.le_refl _) (Int.le_refl _) (e' _ (by omega)) rfl rfl
theorem up_cm {b : xB} {r i r' i' : Nat} {v v' : Int} (h : r ≠ r') : x_up (x_up b r i v) r' i' v' = x_up (x_up b r' i' v') r i v := by
  funext a j
  unfold x_up
  repeat' split
  all_goals first | rfl | omega
theorem rS_find {n f : Nat} {t x g : xB} (hS : rS n t x g) (h1 : 1 ≤ f) (h2 : f ≤ 6) : rS n t (x_up x 10 f (xw (x 10 f + 1))) (x_up g 71 (3772 + f) (xw (g 71 (3772 + f) + 1))) :=
  ⟨rB_find hS.1 h1 h2, rK_c hS.2.1 (upR (by omega)) (upR (by omega)) (upR (by omega)) (by rw [upR (by omega)]), rTr_c hS.2.2 (upR (by omega)) (upR (by omega)) (upR (by omega)) (upR (by omega))⟩
theorem rS_le {n m : Nat} {t x g : xB} (h : n ≤ m) (hS : rS n t x g) : rS m t x g := ⟨rB_le h hS.1, hS.2⟩
theorem ask_fin {n : Nat} {t x g b4 g4 : xB} {L : List Nat} (hS : rS n t x g) (hl : L.length ≤ 475) (hc : cT (x_up (x_up x 172 0 0) 173 0 1) b4 L) (hm : mU (x_up g 1511 0 0) g4 L) : rS n t (x_up b4 173 0 0) g4 := by
  obtain ⟨s1, s2, s3⟩ := hS
  have x173 : x 173 0 = 0 := s1.2.2.1.2.2.2.2.2.2.1
  have e : ∀ r, r ≠ 24 → r ≠ 172 → x_up b4 173 0 0 r = x r := by
    intro r h1 h2
    by_cases h : r = 173
    · subst h
      funext j
      by_cases hj : j = 0
      · subst hj
        rw [up_eq, x173]
      · rw [up_i hj, hc.1 173 (by omega) (by omega), up_i hj, upR (by omega)]
    · rw [upR h, hc.1 r h1 h2, upR h, upR h2]
  have eg : ∀ r, r ≠ 75 ∧ r ≠ 76 ∧ r ≠ 77 ∧ r ≠ 1507 ∧ r ≠ 1511 → g4 r = g r := by
    intro r hr
    rw [hm.1 r hr.1 hr.2.1 hr.2.2.1 hr.2.2.2.1 hr.2.2.2.2, upR hr.2.2.2.2]
  refine ⟨?_, rK_c s2 (eg 73 (by omega)) (eg 1503 (by omega)) (eg 1504 (by omega)) (by rw [e 108 (by omega) (by omega)]), ?_, ?_, ?_, fun i hi => ?_⟩
  · rw [eg 71 (by omega)]
    exact rB_T s1 e
  · rw [upR (by omega), hc.2.1, hm.2.1]
  · rw [upR (by omega), hc.2.1]
    omega
  · rw [upR (by omega), hc.2.1]
    omega
  · rw [upR (by omega)] at hi ⊢
    rw [hc.2.1] at hi
    have hi' : i < L.length := by omega
    rw [hc.2.2 i hi', hm.2.2 i hi']
theorem asks_A {n : Nat} {t x g : xB} {f v : Int} (hS : rS n t x g) : ∃ r x' g', rS (n + 1) t x' g' ∧ (∀ Q : Int → xB → Prop, Q r x' → w_R_answer x f v Q) ∧ (∀ Q : Int → xB → Prop, Q r g' → w_m_asks g f v Q) := by
  have hS1 := rS_le (Nat.le_succ n) hS
  have hR := hS.1.2.2.1
  have r1 := hR.1
  have r0 := hR.2.1
  have r2 := hR.2.2.1
  by_cases hl : 0 ≤ f ∧ f < x 161 0
  · by_cases hv : 0 ≤ v ∧ v ≤ 3
    · obtain ⟨F, rfl⟩ := nat_of hl.1
      obtain ⟨N, hN⟩ := nat_of r0
      have hI := rR_I hR hN
      have hE := rR_E (g := g) hR hN
      obtain ⟨q1, q2, q3⟩ := hR.2.2.2.2.2.2.2.1 F (by omega)
      obtain ⟨k, hk⟩ : ∃ k, x 17 F = k := ⟨_, rfl⟩
      obtain ⟨m, hm⟩ : ∃ m, x 18 F = m := ⟨_, rfl⟩
      have ek : g 71 (278 + F) = k := by omega
      have em : g 71 (302 + F) = m := by omega
      have k04 : 0 ≤ k ∧ k ≤ 4 := by
        rcases q3 with z | z
        · omega
        · omega
      by_cases hfail : (1 ≤ v ∧ k = 4) ∨ (v = 2 ∧ k ≤ 1)
      · have hS0 : rS (n + 1) t (x_up x 172 0 0) (x_up g 1511 0 0) := ⟨rB_T hS1.1 (fun r _ h2 => upR h2), rK_c hS1.2.1 (upR (by omega)) (upR (by omega)) (upR (by omega)) (by rw [upR (by omega)]), by rw [up_eq, up_eq], by rw [up_eq]; omega, by rw [up_eq]; omega, fun i hi => by rw [up_eq] at hi; omega⟩
        have e17 : (x_up x 172 0 0) 17 F = k := by rw [upR (by omega)]; exact hk
        refine ⟨-13, _, _, rS_find hS0 (f := 3) (by omega) (by omega), fun Q hQ => ?_, fun Q hQ => ?_⟩
        · unfold w_R_answer
          rw [R_has_t (by omega) (by omega), e_f (by decide), e_f (by omega), e_f (by omega)]
          by_cases v2 : v = 2
          · rw [e_t v2, R_moves_e (by omega), e17, if_neg (by omega), e_t rfl]
            unfold w_R_answer_j50
            rw [F_note_e (by omega) (by omega)]
            exact hQ
          · rw [e_f v2]
            unfold w_R_answer_j38 w_R_shows
            rw [e_f (by omega), e_gd (by omega) (by omega), Int.toNat_natCast, e17, e_t (by omega)]
            dsimp only
            rw [e_t rfl]
            unfold w_R_answer_j50
            rw [F_note_e (by omega) (by omega)]
            exact hQ
        · have e278 : (x_up g 1511 0 0) 71 (278 + F) = k := by rw [upR (by omega)]; exact ek
          unfold w_m_asks w_m_kindOf
          rw [m_isFx_t (by omega) (by omega) (by omega), e_f (by decide), m_in_t (by omega) (by omega), e_f (by decide), show xw (278 + (F : Int)) = ((278 + F : Nat) : Int) from (xw_id (by omega) (by omega)).trans (by omega), Int.toNat_natCast, e_gd (by omega) (by omega), e278]
          dsimp only
          rw [e_t (by omega)]
          by_cases k4 : k = 4
          · rw [e_t k4]
            unfold w_m_asks_j50
            rw [m_finds_e (by omega) (by omega)]
            exact hQ
          · rw [e_f k4]
            unfold w_m_asks_j40
            rw [e_t (by omega), e_f (by omega)]
            unfold w_m_asks_j50
            rw [m_finds_e (by omega) (by omega)]
            exact hQ
      · have cS : ∀ Q : Int → xB → Prop, w_R_answerOf (x_up (x_up x 172 0 0) 173 0 1) F v (fun r3 b4 => Q r3 (x_up b4 173 0 0)) → w_R_answer x F v Q := by
          intro Q hQ
          have e17 : (x_up x 172 0 0) 17 F = k := by rw [upR (by omega)]; exact hk
          unfold w_R_answer
          rw [R_has_t (by omega) (by omega), e_f (by decide), e_f (by omega), e_f (by omega)]
          by_cases v2 : v = 2
          · rw [e_t v2, R_moves_e (by omega), e17, if_pos (by omega), e_f (by decide)]
            unfold w_R_answer_j38 w_R_shows
            rw [e_f (by omega), e_gd (by omega) (by omega), Int.toNat_natCast, e17, e_f (by omega)]
            dsimp only
            rw [e_f (by decide)]
            exact hQ
          · rw [e_f v2]
            unfold w_R_answer_j38 w_R_shows
            by_cases v0 : v = 0
            · rw [e_t v0]
              exact hQ
            · rw [e_f v0, e_gd (by omega) (by omega), Int.toNat_natCast, e17, e_f (by omega)]
              dsimp only
              rw [e_f (by decide)]
              exact hQ
        have mS' : ∀ Q : Int → xB → Prop, w_m_asks_j56 Q (x_up g 1511 0 0) F v = True → w_m_asks g F v Q := by
          intro Q hQ
          have e278 : (x_up g 1511 0 0) 71 (278 + F) = k := by rw [upR (by omega)]; exact ek
          unfold w_m_asks w_m_kindOf
          rw [m_isFx_t (by omega) (by omega) (by omega), e_f (by decide), m_in_t (by omega) (by omega), e_f (by decide), show xw (278 + (F : Int)) = ((278 + F : Nat) : Int) from (xw_id (by omega) (by omega)).trans (by omega), Int.toNat_natCast, e_gd (by omega) (by omega), e278]
          dsimp only
          have j40 : w_m_asks_j40 Q (x_up g 1511 0 0) F v k = True := by
            unfold w_m_asks_j40
            by_cases v2 : v = 2
            · rw [e_t v2, e_t (by omega)]
              exact hQ
            · rw [e_f v2]
              exact hQ
          by_cases v0 : (0 : Int) < v
          · rw [e_t v0, e_f (by omega)]
            simp only [j40]
          · rw [e_f v0]
            simp only [j40]
        have c0 : cT (x_up (x_up x 172 0 0) 173 0 1) (x_up (x_up x 172 0 0) 173 0 1) [] := ⟨fun _ _ _ => rfl, by simp (disch := omega) only [up_eq, up_r, up_i, fil_in, fil_i, fil_r]; rfl, fun j hj => absurd hj (Nat.not_lt_zero j)⟩
        have m0 : mU (x_up g 1511 0 0) (x_up g 1511 0 0) [] := ⟨fun _ _ _ _ _ _ => rfl, by simp (disch := omega) only [up_eq, up_r, up_i, fil_in, fil_i, fil_r]; rfl, fun j hj => absurd hj (Nat.not_lt_zero j)⟩
        have h173 : (x_up (x_up x 172 0 0) 173 0 1) 173 0 = 1 := up_eq
        have b17 : (x_up (x_up x 172 0 0) 173 0 1) 17 F = k := by rw [upR (by omega), upR (by omega)]; exact hk
        have b18 : (x_up (x_up x 172 0 0) 173 0 1) 18 F = m := by rw [upR (by omega), upR (by omega)]; exact hm
        have g278 : (x_up g 1511 0 0) 71 (278 + F) = k := by rw [upR (by omega)]; exact ek
        have g302 : (x_up g 1511 0 0) 71 (302 + F) = m := by rw [upR (by omega)]; exact em
        by_cases v0 : v = 0
        · have hI0 : rI (x_up (x_up x 172 0 0) 173 0 1) N := by
            unfold rI
            rw [cGroups_c (b := x) (fun i _ => by rw [upR (by omega), upR (by omega)]), upR (r' := 17) (by omega), upR (r' := 17) (by omega), upR (r' := 19) (by omega), upR (r' := 19) (by omega), upR (r' := 20) (by omega), upR (r' := 20) (by omega)]
            exact hI
          have hE0 : mEq (x_up (x_up x 172 0 0) 173 0 1) (x_up g 1511 0 0) N := by
            unfold mEq
            rw [upR (r' := 17) (by omega), upR (r' := 17) (by omega), upR (r' := 19) (by omega), upR (r' := 19) (by omega), upR (r' := 20) (by omega), upR (r' := 20) (by omega), upR (r' := 71) (by omega)]
            exact hE
          have hlen : (tr (x_up (x_up x 172 0 0) 173 0 1) 3 F).length ≤ 475 := tr_len hI0 3 F (by omega)
          obtain ⟨b4, y1, y2⟩ := R_spanOf_A hI0 h173 3 F (Nat.le_refl 3) (by omega) _ [] c0 hlen
          obtain ⟨g4, z1, z2⟩ := m_spanAll_A (f := F) hI0 hE0 (by omega) up_eq
          rw [List.nil_append] at y1
          refine ⟨svL (tr (x_up (x_up x 172 0 0) 173 0 1) 3 F), _, _, rS_le (Nat.le_succ n) (ask_fin hS hlen y1 ⟨z1.1, z1.2.2.1, z1.2.2.2⟩), fun Q hQ => cS Q ?_, fun Q hQ => mS' Q ?_⟩
          · unfold w_R_answerOf
            rw [e_t v0]
            exact y2 (fun r7 b8 => Q r7 (x_up b8 173 0 0)) hQ
          · unfold w_m_asks_j56
            rw [e_t v0]
            exact z2 (fun r12 g13 => Q r12 g13) hQ
        · have hk3 : k ≤ 3 := by omega
          obtain ⟨z1, z2⟩ : 0 ≤ m ∧ m ≤ 100 := by
            rcases q3 with z | z
            · omega
            · omega
          by_cases v1 : v = 1
          · obtain ⟨b4, y1, y2⟩ := R_heat_A h173 (by omega) b17 b18 k04.1 hk3 z1 z2 c0
            obtain ⟨g4, x1, x2⟩ := m_heat_A (by omega) g278 g302 k04.1 hk3 z1 z2 m0
            have hlen : (hL k).length ≤ 475 := by
              unfold hL
              rw [List.length_append]
              have := tr1_len k
              have : (if k = 1 then [11, 10] else if k = 2 then [12, 10] else [10]).length ≤ 2 := by
                repeat' split
                all_goals decide
              omega
            refine ⟨kHeat k m, _, _, rS_le (Nat.le_succ n) (ask_fin hS hlen y1 x1), fun Q hQ => cS Q ?_, fun Q hQ => mS' Q ?_⟩
            · unfold w_R_answerOf
              rw [e_f v0, e_t v1]
              exact y2 (fun r7 b8 => Q r7 (x_up b8 173 0 0)) hQ
            · unfold w_m_asks_j56
              rw [e_f v0, e_t v1]
              exact x2 (fun r12 g13 => Q r12 g13) hQ
          by_cases v2 : v = 2
          · have cc := R_reach_A h173 (by omega) b17 b18 c0
            have mm := m_reach_A (by omega) g278 g302 m0
            have : k = 2 ∨ k = 3 := by omega
            rcases this with k2 | k3
            · obtain ⟨b4, y1, y2⟩ := cc.1 k2
              obtain ⟨g4, x1, x2⟩ := mm.1 k2
              refine ⟨360, _, _, rS_le (Nat.le_succ n) (ask_fin hS (by decide) y1 x1), fun Q hQ => cS Q ?_, fun Q hQ => mS' Q ?_⟩
              · unfold w_R_answerOf
                rw [e_f v0, e_f v1, e_t v2]
                exact y2 (fun r7 b8 => Q r7 (x_up b8 173 0 0)) hQ
              · unfold w_m_asks_j56
                rw [e_f v0, e_f v1, e_t v2]
                exact x2 (fun r12 g13 => Q r12 g13) hQ
            · obtain ⟨b4, y1, y2, y3⟩ := cc.2 k3
              obtain ⟨g4, x1, x2, x3⟩ := mm.2 k3
              have hfin := rS_le (Nat.le_succ n) (ask_fin hS (by decide) y1 x1)
              by_cases hm0 : m = 0
              · refine ⟨-14, _, _, rS_find hfin (f := 4) (by omega) (by omega), fun Q hQ => cS Q ?_, fun Q hQ => mS' Q ?_⟩
                · unfold w_R_answerOf
                  rw [e_f v0, e_f v1, e_t v2]
                  refine y3 hm0 (fun r7 b8 => Q r7 (x_up b8 173 0 0)) ?_
                  rw [up_cm (by omega)]
                  rw [upR (b := b4) (r := 173) (r' := 10) (by omega)] at hQ
                  exact hQ
                · unfold w_m_asks_j56
                  rw [e_f v0, e_f v1, e_t v2]
                  exact x3 hm0 (fun r12 g13 => Q r12 g13) hQ
              · refine ⟨xw (Int.tdiv 360 m), _, _, hfin, fun Q hQ => cS Q ?_, fun Q hQ => mS' Q ?_⟩
                · unfold w_R_answerOf
                  rw [e_f v0, e_f v1, e_t v2]
                  exact y2 hm0 (fun r7 b8 => Q r7 (x_up b8 173 0 0)) hQ
                · unfold w_m_asks_j56
                  rw [e_f v0, e_f v1, e_t v2]
                  exact x2 hm0 (fun r12 g13 => Q r12 g13) hQ
          · obtain ⟨b4, y1, y2⟩ := R_most_A h173 (by omega) b17 b18 k04.1 hk3 z1 z2 c0
            obtain ⟨g4, x1, x2⟩ := m_most_A (by omega) g278 g302 k04.1 hk3 z1 z2 m0
            have hlen : (mL k).length ≤ 475 := by
              unfold mL
              repeat' split
              all_goals decide
            refine ⟨kMost k m, _, _, rS_le (Nat.le_succ n) (ask_fin hS hlen y1 x1), fun Q hQ => cS Q ?_, fun Q hQ => mS' Q ?_⟩
            · unfold w_R_answerOf
              rw [e_f v0, e_f v1, e_f v2]
              exact y2 (fun r7 b8 => Q r7 (x_up b8 173 0 0)) hQ
            · unfold w_m_asks_j56
              rw [e_f v0, e_f v1, e_f v2]
              exact x2 (fun r12 g13 => Q r12 g13) hQ
    · refine ⟨-2, x, g, hS1, fun Q hQ => ?_, fun Q hQ => ?_⟩
      · unfold w_R_answer
        rw [R_has_t (by omega) (by omega), e_f (by decide)]
        by_cases e : v < 0
        · rw [e_t e]
          exact hQ
        · rw [e_f e, e_t (by omega)]
          exact hQ
      · unfold w_m_asks
        rw [m_isFx_t (by omega) (by omega) (by omega), e_f (by decide), m_in_f (by omega), e_t rfl]
        exact hQ
  · refine ⟨-2, x, g, hS1, fun Q hQ => ?_, fun Q hQ => ?_⟩
    · unfold w_R_answer
      rw [R_has_f (by omega), e_t rfl]
      exact hQ
    · unfold w_m_asks
      rw [m_isFx_f (by omega) (by omega) (by omega), e_t rfl]
      exact hQ
