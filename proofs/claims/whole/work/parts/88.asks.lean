/-! ===== ASKS: what is marked on the way ===== -/
def sv (m : Nat) : Int := if m = 3 then 5 else if m = 4 then 3 else if m = 5 then 0 else 1
def svL : List Nat → Int
  | [] => 0
  | m :: l => sv m + svL l
theorem svL_app : ∀ L M : List Nat, svL (L ++ M) = svL L + svL M
  | [], M => by
    show svL M = 0 + svL M
    omega
  | m :: L, M => by
    show sv m + svL (L ++ M) = sv m + svL L + svL M
    rw [svL_app L M]
    omega
theorem svL_bd : ∀ L : List Nat, 0 ≤ svL L ∧ svL L ≤ 5 * (L.length : Int)
  | [] => ⟨Int.le_refl _, Int.le_refl _⟩
  | m :: L => by
    have := svL_bd L
    have h : 0 ≤ sv m ∧ sv m ≤ 5 := by
      unfold sv
      repeat' split
      all_goals omega
    have e : (m :: L).length = L.length + 1 := rfl
    have e2 : svL (m :: L) = sv m + svL L := rfl
    rw [e, e2]
    omega
def tr1 (k : Int) : List Nat := if k = 1 then [2, 1] else if k = 2 then [3] else if k = 3 then [4] else [1]
def tr (b : xB) : Nat → Nat → List Nat
  | 0, f => if b 17 f = 4 then [] else tr1 (b 17 f)
  | d + 1, f => if b 17 f = 4 then 5 :: memS b (tr b d) f 0 (b 19 f).toNat else tr1 (b 17 f)
theorem tr1_len (k : Int) : (tr1 k).length ≤ 2 := by
  unfold tr1
  split
  · exact Nat.le_refl _
  · split
    · exact Nat.le_succ _
    · split
      · exact Nat.le_succ _
      · exact Nat.le_succ _
def tl : Nat → Nat
  | 0 => 2
  | d + 1 => 1 + 6 * tl d
theorem tl_2 : ∀ d, 2 ≤ tl d
  | 0 => Nat.le_refl _
  | d + 1 => by
    have := tl_2 d
    show 2 ≤ 1 + 6 * tl d
    omega
theorem tr_len {b : xB} {N : Nat} (hI : rI b N) : ∀ d f, f < N → (tr b d f).length ≤ tl d
  | 0, f, hf => by
    show (if b 17 f = 4 then [] else tr1 (b 17 f)).length ≤ 2
    split
    · exact Nat.zero_le _
    · exact tr1_len _
  | d + 1, f, hf => by
    show (if b 17 f = 4 then 5 :: memS b (tr b d) f 0 (b 19 f).toNat else tr1 (b 17 f)).length ≤ 1 + 6 * tl d
    by_cases e : b 17 f = 4
    · rw [if_pos e]
      obtain ⟨k1, k2, k3⟩ := (hI.2.2 f hf).2.2 e
      have key : ∀ k i, i + k ≤ 6 → (memS b (tr b d) f i k).length ≤ k * tl d := by
        intro k
        induction k with
        | zero => intro i _; simp [memS]
        | succ k ih =>
          intro i hi
          show ((if b 20 (f * 6 + i) = -1 then [] else tr b d (b 20 (f * 6 + i)).toNat) ++ memS b (tr b d) f (i + 1) k).length ≤ _
          rw [List.length_append, Nat.succ_mul]
          have a := ih (i + 1) (by omega)
          have : (if b 20 (f * 6 + i) = -1 then [] else tr b d (b 20 (f * 6 + i)).toNat).length ≤ tl d := by
            split
            · exact Nat.zero_le _
            · have := k3 i (by omega)
              exact tr_len hI d _ (by omega)
          omega
      have a := key (b 19 f).toNat 0 (by omega)
      have c : (b 19 f).toNat * tl d ≤ 6 * tl d := Nat.mul_le_mul_right _ (by omega)
      rw [List.length_cons]
      omega
    · rw [if_neg e]
      have := tr1_len (b 17 f)
      have := tl_2 d
      omega
/-- the class's marks -/
def cT (b0 b : xB) (L : List Nat) : Prop := (∀ r, r ≠ 24 → r ≠ 172 → b r = b0 r) ∧ b 172 0 = (L.length : Int) ∧ wrL 24 b L
theorem len1 (L : List Nat) (m : Nat) : (L ++ [m]).length = L.length + 1 := by
  rw [List.length_append]
  rfl
theorem R_mark_A {b0 b : xB} {L : List Nat} {m : Nat} (h173 : b0 173 0 = 1) (hc : cT b0 b L) (hl : L.length < 475) : ∃ b', cT b0 b' (L ++ [m]) ∧ ∀ Q : xB → Prop, Q b' → w_R_mark b m Q := by
  obtain ⟨c1, c2, c3⟩ := hc
  have e173 : b 173 0 = 1 := by rw [c1 173 (by omega) (by omega)]; exact h173
  refine ⟨x_up (x_up b 24 L.length m) 172 0 (L.length + 1), ⟨fun r h1 h2 => by rw [upR h2, upR h1]; exact c1 r h1 h2, by rw [len1, up_eq]; omega, wrL_push c3 (fun j hj => by simp (disch := omega) only [up_eq, up_r, up_i, fil_in, fil_i, fil_r]) (by simp (disch := omega) only [up_eq, up_r, up_i, fil_in, fil_i, fil_r])⟩, fun Q hQ => ?_⟩
  unfold w_R_mark
  simp (disch := omega) only [c2, e_T, e_F, e_t, e_f, e_gd, e_bg0, e_bg1, e_nz, Int.toNat_natCast, Int.toNat_add, Int.toNat_mul, xw_al, xw_ar, xw_ml, xw_mr, xw_sl, xw_sr, xw_id, x_sl_c, mc3, mc6, mc8, mc12, mc64, mc72, Nat.add_assoc, Int.reduceToNat, L_isLine_t, L_isLine_f, R_has_t, R_has_f, R_isCh_t, R_isCh_f, V_isCurve_t, V_isCurve_f, Q_isCue_t, Q_isCue_f, Q_isList_t, Q_isList_f, B_isPb_t, B_isPb_f, m_in_t, m_in_f, m_isLine_t, m_isLine_f, m_isPb_t, m_isPb_f, m_isFx_t, m_isFx_f, F_note_e, m_finds_e, Int.reduceToNat, noted_neg, up_eq, up_r, up_i, fil_in, fil_i, fil_r]
  exact hQ
theorem R_span1_A {b0 b : xB} {L : List Nat} {f : Nat} (h173 : b0 173 0 = 1) (hf : f < 24) (hc : cT b0 b L) (hl : (L ++ tr1 (b0 17 f)).length ≤ 475) : ∃ b', cT b0 b' (L ++ tr1 (b0 17 f)) ∧ ∀ Q : Int → xB → Prop, Q (svL (tr1 (b0 17 f))) b' → w_R_spanOfOne b f Q := by
  have e17 : b 17 f = b0 17 f := by rw [hc.1 17 (by omega) (by omega)]
  by_cases k1 : b0 17 f = 1
  · have e : tr1 (b0 17 f) = [2] ++ [1] := if_pos k1
    rw [e, ← List.append_assoc] at hl ⊢
    rw [len1, len1] at hl
    obtain ⟨b1, x1, x2⟩ := R_mark_A (m := 2) h173 hc (by omega)
    obtain ⟨b2, y1, y2⟩ := R_mark_A (m := 1) h173 x1 (by rw [len1]; omega)
    refine ⟨b2, y1, fun Q hQ => ?_⟩
    unfold w_R_spanOfOne
    rw [e_gd (by omega) (by omega), Int.toNat_natCast, e_t (by omega)]
    exact x2 _ (y2 _ hQ)
  by_cases k2 : b0 17 f = 2
  · have e : tr1 (b0 17 f) = [3] := (if_neg k1).trans (if_pos k2)
    rw [e] at hl ⊢
    rw [len1] at hl
    obtain ⟨b1, x1, x2⟩ := R_mark_A (m := 3) h173 hc (by omega)
    refine ⟨b1, x1, fun Q hQ => ?_⟩
    unfold w_R_spanOfOne
    rw [e_gd (by omega) (by omega), Int.toNat_natCast, e_f (by omega), e_t (by omega)]
    exact x2 _ hQ
  by_cases k3 : b0 17 f = 3
  · have e : tr1 (b0 17 f) = [4] := (if_neg k1).trans ((if_neg k2).trans (if_pos k3))
    rw [e] at hl ⊢
    rw [len1] at hl
    obtain ⟨b1, x1, x2⟩ := R_mark_A (m := 4) h173 hc (by omega)
    refine ⟨b1, x1, fun Q hQ => ?_⟩
    unfold w_R_spanOfOne
    rw [e_gd (by omega) (by omega), Int.toNat_natCast, e_f (by omega), e_f (by omega), e_t (by omega)]
    exact x2 _ hQ
  · have e : tr1 (b0 17 f) = [1] := (if_neg k1).trans ((if_neg k2).trans (if_neg k3))
    rw [e] at hl ⊢
    rw [len1] at hl
    obtain ⟨b1, x1, x2⟩ := R_mark_A (m := 1) h173 hc (by omega)
    refine ⟨b1, x1, fun Q hQ => ?_⟩
    unfold w_R_spanOfOne
    rw [e_gd (by omega) (by omega), Int.toNat_natCast, e_f (by omega), e_f (by omega), e_f (by omega)]
    exact x2 _ hQ
theorem R_spanOf_A {b0 : xB} {N : Nat} (hI : rI b0 N) (h173 : b0 173 0 = 1) : ∀ d f, d ≤ 3 → f < N → ∀ (b : xB) (L : List Nat), cT b0 b L → (L ++ tr b0 d f).length ≤ 475 → ∃ b', cT b0 b' (L ++ tr b0 d f) ∧ ∀ Q : Int → xB → Prop, Q (svL (tr b0 d f)) b' → w_R_spanOf (d + 1) b f ((3 - d : Nat) : Int) Q := by
  have hN := hI.1
  have one : ∀ d f, f < N → b0 17 f ≠ 4 → ∀ (b : xB) (L : List Nat), cT b0 b L → (L ++ tr1 (b0 17 f)).length ≤ 475 → ∃ b', cT b0 b' (L ++ tr1 (b0 17 f)) ∧ ∀ Q : Int → xB → Prop, Q (svL (tr1 (b0 17 f))) b' → w_R_spanOf (d + 1) b f ((3 - d : Nat) : Int) Q := by
    intro d f hf hk b L hc hlen
    have e17 : b 17 f ≠ 4 := by rw [hc.1 17 (by omega) (by omega)]; exact hk
    obtain ⟨b', x1, x2⟩ := R_span1_A (f := f) h173 (by omega) hc hlen
    refine ⟨b', x1, fun Q hQ => ?_⟩
    rw [w_R_spanOf_s, e_gd (by omega) (by omega), Int.toNat_natCast, e_f e17]
    exact x2 _ hQ
  intro d
  induction d with
  | zero =>
    intro f hd hf b L hc hlen
    by_cases e : b0 17 f = 4
    · have hm : tr b0 0 f = [] := if_pos e
      rw [hm, List.append_nil]
      refine ⟨b, hc, fun Q hQ => ?_⟩
      have e17 : b 17 f = 4 := by rw [hc.1 17 (by omega) (by omega)]; exact e
      rw [w_R_spanOf_s, e_gd (by omega) (by omega), Int.toNat_natCast, e_t e17, e_f (by omega)]
      exact hQ
    · have hm : tr b0 0 f = tr1 (b0 17 f) := if_neg e
      rw [hm] at hlen ⊢
      exact one 0 f hf e b L hc hlen
  | succ d ih =>
    intro f hd hf b L hc hlen
    by_cases e : b0 17 f = 4
    · have hm : tr b0 (d + 1) f = 5 :: memS b0 (tr b0 d) f 0 (b0 19 f).toNat := if_pos e
      rw [hm] at hlen ⊢
      obtain ⟨k1, k2, k3⟩ := (hI.2.2 f hf).2.2 e
      obtain ⟨S, hS⟩ := nat_of k1
      rw [hS, Int.toNat_natCast] at hlen ⊢
      have loop : ∀ k i (b : xB) (L : List Nat) (w : Int), i + k = S → cT b0 b L → (L ++ memS b0 (tr b0 d) f i k).length ≤ 475 → 0 ≤ w → w ≤ 5 * (L.length : Int) → ∃ b', cT b0 b' (L ++ memS b0 (tr b0 d) f i k) ∧ ∀ (Q : Int → xB → Prop) (K : xB → Int → Prop), K b' (w + svL (memS b0 (tr b0 d) f i k)) → w_R_spanOf_h33 (w_R_spanOf (d + 1)) Q K (k + 1) b f ((3 - (d + 1) : Nat) : Int) w i := by
        intro k
        induction k with
        | zero =>
          intro i b L w hi hc hlen hw0 hw1
          have e0 : memS b0 (tr b0 d) f i 0 = [] := rfl
          rw [e0, List.append_nil]
          refine ⟨b, hc, fun Q K hK => ?_⟩
          have e19 : b 19 f = (S : Int) := by rw [hc.1 19 (by omega) (by omega)]; exact hS
          rw [w_R_spanOf_h33_s, e_gd (by omega) (by omega), Int.toNat_natCast, e_f (by omega)]
          have e1 : w + svL [] = w := Int.add_zero w
          rw [e1] at hK
          exact hK
        | succ k ih2 =>
          intro i b L w hi hc hlen hw0 hw1
          have e19 : b 19 f = (S : Int) := by rw [hc.1 19 (by omega) (by omega)]; exact hS
          have e20 : b 20 (f * 6 + i) = b0 20 (f * 6 + i) := by rw [hc.1 20 (by omega) (by omega)]
          have e0 : memS b0 (tr b0 d) f i (k + 1) = (if b0 20 (f * 6 + i) = -1 then [] else tr b0 d (b0 20 (f * 6 + i)).toNat) ++ memS b0 (tr b0 d) f (i + 1) k := rfl
          rw [e0] at hlen ⊢
          have hk3 := k3 i (by omega)
          by_cases en : b0 20 (f * 6 + i) = -1
          · rw [if_pos en, List.nil_append] at hlen ⊢
            obtain ⟨b', h1, h2⟩ := ih2 (i + 1) b L w (by omega) hc hlen hw0 hw1
            refine ⟨b', h1, fun Q K hK => ?_⟩
            rw [w_R_spanOf_h33_s]
            simp (disch := omega) only [e_T, e_F, e_t, e_f, e_gd, e_bg0, e_bg1, e_nz, Int.toNat_natCast, Int.toNat_add, Int.toNat_mul, xw_al, xw_ar, xw_ml, xw_mr, xw_sl, xw_sr, xw_id, x_sl_c, mc3, mc6, mc8, mc12, mc64, mc72, Nat.add_assoc, Int.reduceToNat, L_isLine_t, L_isLine_f, R_has_t, R_has_f, R_isCh_t, R_isCh_f, V_isCurve_t, V_isCurve_f, Q_isCue_t, Q_isCue_f, Q_isList_t, Q_isList_f, B_isPb_t, B_isPb_f, m_in_t, m_in_f, m_isLine_t, m_isLine_f, m_isPb_t, m_isPb_f, m_isFx_t, m_isFx_f, F_note_e, m_finds_e, Int.reduceToNat, noted_neg, up_eq, up_r, up_i, fil_in, fil_i, fil_r]
            exact h2 Q K hK
          · rw [if_neg en] at hlen ⊢
            obtain ⟨s, hs⟩ := nat_of (l := b0 20 (f * 6 + i)) (by omega)
            rw [hs, Int.toNat_natCast] at hlen ⊢
            rw [svL_app]
            rw [← List.append_assoc] at hlen ⊢
            have hb1 := svL_bd (tr b0 d s)
            have hb2 : (tr b0 d s).length ≤ 475 := by
              rw [List.length_append, List.length_append] at hlen
              omega
            obtain ⟨b1, h1, h2⟩ := ih s (by omega) (by omega) b L hc (by rw [List.length_append] at hlen; omega)
            have hb3 : ((L ++ tr b0 d s).length : Int) = (L.length : Int) + ((tr b0 d s).length : Int) := by
              rw [List.length_append]
              omega
            have hb4 : (L.length : Int) ≤ 475 := by
              rw [List.length_append, List.length_append] at hlen
              omega
            obtain ⟨b', h3, h4⟩ := ih2 (i + 1) b1 _ (w + svL (tr b0 d s)) (by omega) h1 hlen (by omega) (by omega)
            refine ⟨b', h3, fun Q K hK => ?_⟩
            have e20' : b 20 (f * 6 + i) = (s : Int) := by omega
            have hd2 : ((3 - (d + 1) : Nat) : Int) + 1 = ((3 - d : Nat) : Int) := by omega
            have h4 := h4 Q K (by rw [Int.add_assoc]; exact hK)
            rw [w_R_spanOf_h33_s]
            simp (disch := omega) only [e20', e_T, e_F, e_t, e_f, e_gd, e_bg0, e_bg1, e_nz, Int.toNat_natCast, Int.toNat_add, Int.toNat_mul, xw_al, xw_ar, xw_ml, xw_mr, xw_sl, xw_sr, xw_id, x_sl_c, mc3, mc6, mc8, mc12, mc64, mc72, Nat.add_assoc, Int.reduceToNat, L_isLine_t, L_isLine_f, R_has_t, R_has_f, R_isCh_t, R_isCh_f, V_isCurve_t, V_isCurve_f, Q_isCue_t, Q_isCue_f, Q_isList_t, Q_isList_f, B_isPb_t, B_isPb_f, m_in_t, m_in_f, m_isLine_t, m_isLine_f, m_isPb_t, m_isPb_f, m_isFx_t, m_isFx_f, F_note_e, m_finds_e, Int.reduceToNat, noted_neg, up_eq, up_r, up_i, fil_in, fil_i, fil_r]
            rw [hd2]
            refine h2 _ ?_
            rw [xw_id (by omega) (by omega)]
            exact h4
      rw [show L ++ 5 :: memS b0 (tr b0 d) f 0 S = L ++ [5] ++ memS b0 (tr b0 d) f 0 S by simp] at hlen ⊢
      obtain ⟨b1, m1, m2⟩ := R_mark_A (m := 5) h173 hc (by rw [List.length_append, len1] at hlen; omega)
      obtain ⟨b', h1, h2⟩ := loop S 0 b1 _ 0 (by omega) m1 hlen (by omega) (by omega)
      refine ⟨b', h1, fun Q hQ => ?_⟩
      have e17 : b 17 f = 4 := by rw [hc.1 17 (by omega) (by omega)]; exact e
      rw [w_R_spanOf_s, e_gd (by omega) (by omega), Int.toNat_natCast, e_t e17, e_t (by omega)]
      refine m2 _ ⟨S + 1, h2 Q _ ?_⟩
      have e1 : svL (5 :: memS b0 (tr b0 d) f 0 S) = 0 + svL (memS b0 (tr b0 d) f 0 S) := rfl
      rw [e1] at hQ
      exact hQ
    · have hm : tr b0 (d + 1) f = tr1 (b0 17 f) := if_neg e
      rw [hm] at hlen ⊢
      exact one (d + 1) f hf e b L hc hlen
