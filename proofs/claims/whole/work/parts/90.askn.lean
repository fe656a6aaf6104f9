/-! ===== ASKS: the model's pile ===== -/
def SG (b g0 : xB) (d G : Nat) : Prop := ∀ (k i S : Nat), i + k = S → b 19 G = (S : Int) → ∀ (g : xB) (P : Nat) (L : List Nat), P + d ≤ 2 → mT g0 g (P + 1) L → g 75 P = (G : Int) → g 76 P = (i : Int) → (L ++ memS b (tr b d) G i k).length ≤ 475 → ∃ g', mT g0 g' P (L ++ memS b (tr b d) G i k) ∧ pK g g' P ∧ ∀ (Q : Int → xB → Prop) (K : xB → Int → Prop), (∃ n, w_m_spanOfAll_h11 Q K n g' (svL (L ++ memS b (tr b d) G i k))) → ∃ n, w_m_spanOfAll_h11 Q K n g (svL L)
theorem SG_step {b g0 : xB} {N d G : Nat} (hI : rI b N) (hE : mEq b g0 N) (hd : d ≤ 2) (hG : G < N) (hk4 : b 17 G = 4) (hrec : ∀ s, s < G → b 17 s = 4 → ∃ d', d = d' + 1 ∧ SG b g0 d' s) : SG b g0 d G := by
  intro k
  have hN := hI.1
  obtain ⟨hs1, hs2, hs3⟩ := (hI.2.2 G hG).2.2 hk4
  induction k with
  | zero =>
    intro i S hi hS g P L hP hm h75 h76 hlen
    have e0 : memS b (tr b d) G i 0 = [] := rfl
    rw [e0, List.append_nil] at hlen ⊢
    have hb := svL_bd L
    obtain ⟨m1, m2, m3, m4⟩ := hm
    have e422 : g 71 (422 + G) = (S : Int) := by rw [m1 71 (by omega) (by omega) (by omega) (by omega) (by omega), ← ((hE G hG).2 hk4).1]; exact hS
    refine ⟨x_up g 1507 0 P, ⟨fun r a1 a2 a3 a4 a5 => by rw [upR a4]; exact m1 r a1 a2 a3 a4 a5, by simp (disch := omega) only [up_eq, up_r, up_i, fil_in, fil_i, fil_r], by simp (disch := omega) only [up_eq, up_r, up_i, fil_in, fil_i, fil_r]; exact m3, fun j hj => by simp (disch := omega) only [up_eq, up_r, up_i, fil_in, fil_i, fil_r]; exact m4 j hj⟩, fun j hj => ⟨by simp (disch := omega) only [up_eq, up_r, up_i, fil_in, fil_i, fil_r], by simp (disch := omega) only [up_eq, up_r, up_i, fil_in, fil_i, fil_r]⟩, fun Q K ⟨n, hn⟩ => ⟨n + 1, ?_⟩⟩
    rw [w_m_spanOfAll_h11_s]
    have m2' : g 1507 0 - 1 = (P : Int) := by omega
    simp (disch := omega) only [w_m_next, m2', h75, h76, e422, w_m_spanOfAll_j38, Int.add_zero, e_T, e_F, e_t, e_f, e_gd, e_bg0, e_bg1, e_nz, Int.toNat_natCast, Int.toNat_add, Int.toNat_mul, xw_al, xw_ar, xw_ml, xw_mr, xw_sl, xw_sr, xw_id, x_sl_c, mc3, mc6, mc8, mc12, mc64, mc72, Nat.add_assoc, Int.reduceToNat, L_isLine_t, L_isLine_f, R_has_t, R_has_f, R_isCh_t, R_isCh_f, V_isCurve_t, V_isCurve_f, Q_isCue_t, Q_isCue_f, Q_isList_t, Q_isList_f, B_isPb_t, B_isPb_f, m_in_t, m_in_f, m_isLine_t, m_isLine_f, m_isPb_t, m_isPb_f, m_isFx_t, m_isFx_f, F_note_e, m_finds_e, Int.reduceToNat, noted_neg, up_eq, up_r, up_i, fil_in, fil_i, fil_r]
    exact hn
  | succ k ih =>
    intro i S hi hS g P L hP hm h75 h76 hlen
    have hm' := hm
    obtain ⟨m1, m2, m3, m4⟩ := hm
    have hsi := hs3 i (by omega)
    have hb := svL_bd L
    have hlen0 : L.length ≤ 475 := by
      rw [List.length_append] at hlen
      omega
    have e422 : g 71 (422 + G) = (S : Int) := by rw [m1 71 (by omega) (by omega) (by omega) (by omega) (by omega), ← ((hE G hG).2 hk4).1]; exact hS
    have e446 : g 71 (446 + (G * 6 + i)) = b 20 (G * 6 + i) := by rw [m1 71 (by omega) (by omega) (by omega) (by omega) (by omega), ← ((hE G hG).2 hk4).2 i (by omega)]
    have m2' : g 1507 0 - 1 = (P : Int) := by omega
    have e0 : memS b (tr b d) G i (k + 1) = (if b 20 (G * 6 + i) = -1 then [] else tr b d (b 20 (G * 6 + i)).toNat) ++ memS b (tr b d) G (i + 1) k := rfl
    rw [e0] at hlen ⊢
    have hm2 : mT g0 (x_up g 76 P (i + 1)) (P + 1) L := ⟨fun r a1 a2 a3 a4 a5 => by rw [upR a2]; exact m1 r a1 a2 a3 a4 a5, by simp (disch := omega) only [up_eq, up_r, up_i, fil_in, fil_i, fil_r]; exact m2, by simp (disch := omega) only [up_eq, up_r, up_i, fil_in, fil_i, fil_r]; exact m3, fun j hj => by simp (disch := omega) only [up_eq, up_r, up_i, fil_in, fil_i, fil_r]; exact m4 j hj⟩
    by_cases en : b 20 (G * 6 + i) = -1
    · rw [if_pos en, List.nil_append] at hlen ⊢
      obtain ⟨g', h1, h2, h3⟩ := ih (i + 1) S (by omega) hS (x_up g 76 P (i + 1)) P L hP hm2 (by simp (disch := omega) only [up_eq, up_r, up_i, fil_in, fil_i, fil_r]; exact h75) (by simp (disch := omega) only [up_eq, up_r, up_i, fil_in, fil_i, fil_r]; omega) hlen
      refine ⟨g', h1, fun j hj => ?_, fun Q K hg' => ?_⟩
      · have := h2 j hj
        rw [up_i (by omega), up_i (by omega)] at this
        exact this
      · obtain ⟨n, hn⟩ := h3 Q K hg'
        refine ⟨n + 1, ?_⟩
        rw [w_m_spanOfAll_h11_s]
        simp (disch := omega) only [w_m_next, m2', h75, h76, e422, e446, w_m_spanOfAll_j38, Int.add_zero, e_T, e_F, e_t, e_f, e_gd, e_bg0, e_bg1, e_nz, Int.toNat_natCast, Int.toNat_add, Int.toNat_mul, xw_al, xw_ar, xw_ml, xw_mr, xw_sl, xw_sr, xw_id, x_sl_c, mc3, mc6, mc8, mc12, mc64, mc72, Nat.add_assoc, Int.reduceToNat, L_isLine_t, L_isLine_f, R_has_t, R_has_f, R_isCh_t, R_isCh_f, V_isCurve_t, V_isCurve_f, Q_isCue_t, Q_isCue_f, Q_isList_t, Q_isList_f, B_isPb_t, B_isPb_f, m_in_t, m_in_f, m_isLine_t, m_isLine_f, m_isPb_t, m_isPb_f, m_isFx_t, m_isFx_f, F_note_e, m_finds_e, Int.reduceToNat, noted_neg, up_eq, up_r, up_i, fil_in, fil_i, fil_r]
        exact hn
    · obtain ⟨s, hs⟩ := nat_of (l := b 20 (G * 6 + i)) (by omega)
      rw [if_neg en, hs, Int.toNat_natCast, ← List.append_assoc] at hlen ⊢
      have e446' : g 71 (446 + (G * 6 + i)) = (s : Int) := by omega
      have ek := (hE s (by omega)).1
      have hks := hI.2.2 s (by omega)
      have hb2 := svL_bd (tr b d s)
      have hlen2 : L.length + (tr b d s).length ≤ 475 := by
        rw [List.length_append, List.length_append] at hlen
        omega
      by_cases hns : b 17 s = 4
      · obtain ⟨d', rfl, hR⟩ := hrec s (by omega) hns
        obtain ⟨t1, t2, t3⟩ := hks.2.2 hns
        obtain ⟨S2, hS2⟩ := nat_of t1
        have em : tr b (d' + 1) s = 5 :: memS b (tr b d') s 0 S2 := by
          refine (if_pos hns).trans ?_
          rw [hS2, Int.toNat_natCast]
        obtain ⟨g1, x1, x2, x3, x4, x5⟩ := m_spanG_A (f := s) (by omega) (by omega) hm2 (by omega) (by rw [em, List.length_cons] at hlen2; omega)
        rw [em, show L ++ 5 :: memS b (tr b d') s 0 S2 = L ++ [5] ++ memS b (tr b d') s 0 S2 by simp] at hlen ⊢
        obtain ⟨g2, y1, y2, y3⟩ := hR S2 0 S2 (by omega) hS2 g1 (P + 1) (L ++ [5]) (by omega) x1 x3 (by rw [x4]; rfl) (by rw [List.length_append] at hlen; omega)
        have a75 : g2 75 P = (G : Int) := by rw [(y2 P (by omega)).1, (x2 P (by omega)).1]; simp (disch := omega) only [up_eq, up_r, up_i, fil_in, fil_i, fil_r]; exact h75
        have a76 : g2 76 P = ((i + 1 : Nat) : Int) := by rw [(y2 P (by omega)).2, (x2 P (by omega)).2]; simp (disch := omega) only [up_eq, up_r, up_i, fil_in, fil_i, fil_r]; omega
        obtain ⟨g', h4, h5, h6⟩ := ih (i + 1) S (by omega) hS g2 P _ hP y1 a75 a76 hlen
        refine ⟨g', h4, fun j hj => ?_, fun Q K hg' => ?_⟩
        · rw [(h5 j hj).1, (h5 j hj).2, (y2 j (by omega)).1, (y2 j (by omega)).2, (x2 j (by omega)).1, (x2 j (by omega)).2]
          exact ⟨by simp (disch := omega) only [up_eq, up_r, up_i, fil_in, fil_i, fil_r], by simp (disch := omega) only [up_eq, up_r, up_i, fil_in, fil_i, fil_r]⟩
        · obtain ⟨n, hn⟩ := y3 Q K (h6 Q K hg')
          refine ⟨n + 1, ?_⟩
          have e5 : svL (L ++ [5]) = svL L := by
            rw [svL_app]
            exact Int.add_zero _
          rw [e5] at hn
          have sp := x5 (fun r5 g6 => w_m_spanOfAll_h11 Q K n g6 (xw (svL L + r5))) (by rw [Int.add_zero, xw_id (by omega) (by omega)]; exact hn)
          rw [w_m_spanOfAll_h11_s]
          simp (disch := omega) only [w_m_next, m2', h75, h76, e422, e446', w_m_spanOfAll_j38, e_T, e_F, e_t, e_f, e_gd, e_bg0, e_bg1, e_nz, Int.toNat_natCast, Int.toNat_add, Int.toNat_mul, xw_al, xw_ar, xw_ml, xw_mr, xw_sl, xw_sr, xw_id, x_sl_c, mc3, mc6, mc8, mc12, mc64, mc72, Nat.add_assoc, Int.reduceToNat, L_isLine_t, L_isLine_f, R_has_t, R_has_f, R_isCh_t, R_isCh_f, V_isCurve_t, V_isCurve_f, Q_isCue_t, Q_isCue_f, Q_isList_t, Q_isList_f, B_isPb_t, B_isPb_f, m_in_t, m_in_f, m_isLine_t, m_isLine_f, m_isPb_t, m_isPb_f, m_isFx_t, m_isFx_f, F_note_e, m_finds_e, Int.reduceToNat, noted_neg, up_eq, up_r, up_i, fil_in, fil_i, fil_r]
          simp only [sp]
      · have em : tr b d s = tr1 (b 17 s) := by
          cases d with
          | zero => exact if_neg hns
          | succ d => exact if_neg hns
        rw [em] at hlen hlen2 hb2 ⊢
        obtain ⟨g1, x1, x2, x3, x4⟩ := m_span1_A (f := s) (k := b 17 s) (by omega) ek.symm hks.1 (by omega) hm2 (by rw [List.length_append]; omega)
        obtain ⟨g', h4, h5, h6⟩ := ih (i + 1) S (by omega) hS g1 P _ hP x1 (by rw [x2]; simp (disch := omega) only [up_eq, up_r, up_i, fil_in, fil_i, fil_r]; exact h75) (by rw [x3]; simp (disch := omega) only [up_eq, up_r, up_i, fil_in, fil_i, fil_r]; omega) hlen
        refine ⟨g', h4, fun j hj => ?_, fun Q K hg' => ?_⟩
        · rw [(h5 j hj).1, (h5 j hj).2, x2, x3]
          exact ⟨by simp (disch := omega) only [up_eq, up_r, up_i, fil_in, fil_i, fil_r], by simp (disch := omega) only [up_eq, up_r, up_i, fil_in, fil_i, fil_r]⟩
        · obtain ⟨n, hn⟩ := h6 Q K hg'
          refine ⟨n + 1, ?_⟩
          rw [svL_app] at hn
          have sp := x4 (fun r5 g6 => w_m_spanOfAll_h11 Q K n g6 (xw (svL L + r5))) (by rw [xw_id (by omega) (by omega)]; exact hn)
          rw [w_m_spanOfAll_h11_s]
          simp (disch := omega) only [w_m_next, m2', h75, h76, e422, e446', w_m_spanOfAll_j38, e_T, e_F, e_t, e_f, e_gd, e_bg0, e_bg1, e_nz, Int.toNat_natCast, Int.toNat_add, Int.toNat_mul, xw_al, xw_ar, xw_ml, xw_mr, xw_sl, xw_sr, xw_id, x_sl_c, mc3, mc6, mc8, mc12, mc64, mc72, Nat.add_assoc, Int.reduceToNat, L_isLine_t, L_isLine_f, R_has_t, R_has_f, R_isCh_t, R_isCh_f, V_isCurve_t, V_isCurve_f, Q_isCue_t, Q_isCue_f, Q_isList_t, Q_isList_f, B_isPb_t, B_isPb_f, m_in_t, m_in_f, m_isLine_t, m_isLine_f, m_isPb_t, m_isPb_f, m_isFx_t, m_isFx_f, F_note_e, m_finds_e, Int.reduceToNat, noted_neg, up_eq, up_r, up_i, fil_in, fil_i, fil_r]
          simp only [sp]
theorem SG_all {b g0 : xB} {N : Nat} (hI : rI b N) (hE : mEq b g0 N) : ∀ d G, d ≤ 2 → G < N → b 17 G = 4 → cGroups b G ≤ d → SG b g0 d G := by
  intro d
  induction d with
  | zero =>
    intro G hd hG hk hr
    refine SG_step hI hE hd hG hk (fun s hs hk2 => ?_)
    have := cGroups_grp (b := b) (f := s) (k := G) hs hk2
    omega
  | succ d ih =>
    intro G hd hG hk hr
    refine SG_step hI hE hd hG hk (fun s hs hk2 => ?_)
    have := cGroups_grp (b := b) (f := s) (k := G) hs hk2
    exact ⟨d, rfl, ih s (by omega) (by omega) hk2 (by omega)⟩
theorem m_spanAll_A {b g : xB} {N f : Nat} (hI : rI b N) (hE : mEq b g N) (hf : f < N) (h0 : g 1511 0 = 0) : ∃ g', mT g g' 0 (tr b 3 f) ∧ ∀ Q : Int → xB → Prop, Q (svL (tr b 3 f)) g' → w_m_spanOfAll g f Q = True := by
  have hN := hI.1
  have ek := (hE f hf).1
  have hks := hI.2.2 f hf
  have hl : (tr b 3 f).length ≤ 475 := tr_len hI 3 f hf
  have hm : mT g (x_up g 1507 0 0) 0 [] := ⟨fun r a1 a2 a3 a4 a5 => by rw [upR a4], by simp (disch := omega) only [up_eq, up_r, up_i, fil_in, fil_i, fil_r]; rfl, by simp (disch := omega) only [up_eq, up_r, up_i, fil_in, fil_i, fil_r]; rw [h0]; rfl, fun j hj => absurd hj (Nat.not_lt_zero j)⟩
  by_cases hk : b 17 f = 4
  · obtain ⟨t1, t2, t3⟩ := hks.2.2 hk
    obtain ⟨S, hS⟩ := nat_of t1
    have em : tr b 3 f = [] ++ [5] ++ memS b (tr b 2) f 0 S := by
      refine (if_pos hk).trans ?_
      rw [hS, Int.toNat_natCast]
      rfl
    rw [em] at hl ⊢
    have hrk := cGroups_grp (b := b) (f := f) (k := N) hf hk
    have hrk3 := hI.2.1
    obtain ⟨g1, x1, x2, x3, x4, x5⟩ := m_spanG_A (f := f) (by omega) (by omega) hm (by omega) (by decide)
    obtain ⟨g2, y1, y2, y3⟩ := SG_all hI hE 2 f (Nat.le_refl 2) hf hk (by omega) S 0 S (by omega) hS g1 0 _ (by omega) x1 x3 (by rw [x4]; rfl) hl
    refine ⟨g2, y1, fun Q hQ => eq_true ?_⟩
    have m2 := y1.2.1
    have fin : ∃ n, w_m_spanOfAll_h11 Q (fun g8 v2_7 => Q v2_7 g8) n g2 (svL ([] ++ [5] ++ memS b (tr b 2) f 0 S)) := by
      refine ⟨1, ?_⟩
      rw [w_m_spanOfAll_h11_s, e_f (by omega)]
      exact hQ
    have y4 := y3 Q (fun g8 v2_7 => Q v2_7 g8) fin
    have e5 : svL ([] ++ [5]) = 0 := by decide
    rw [e5] at y4
    have sp := x5 (fun r1 g2 => ∃ n, w_m_spanOfAll_h11 Q (fun g8 v2_7 => Q v2_7 g8) n g2 r1) y4
    unfold w_m_spanOfAll
    simp only [sp]
  · have em : tr b 3 f = [] ++ tr1 (b 17 f) := if_neg hk
    rw [em] at hl ⊢
    obtain ⟨g1, x1, x2, x3, x4⟩ := m_span1_A (f := f) (k := b 17 f) (by omega) ek.symm hks.1 (by omega) hm hl
    refine ⟨g1, x1, fun Q hQ => eq_true ?_⟩
    have m2 := x1.2.1
    have sp := x4 (fun r1 g2 => ∃ n, w_m_spanOfAll_h11 Q (fun g8 v2_7 => Q v2_7 g8) n g2 r1) (by
      refine ⟨1, ?_⟩
      rw [w_m_spanOfAll_h11_s, e_f (by omega)]
      exact hQ)
    unfold w_m_spanOfAll
    simp only [sp]
