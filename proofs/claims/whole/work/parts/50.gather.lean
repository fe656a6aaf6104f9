/-! ===== the MEMBERS of a GROUP, on both sides ===== -/
def memS (b : xB) (F : Nat → List Nat) (f : Nat) : Nat → Nat → List Nat
  | _, 0 => []
  | i, k + 1 => (if b 20 (f * 6 + i) = -1 then [] else F (b 20 (f * 6 + i)).toNat) ++ memS b F f (i + 1) k
def mem (b : xB) : Nat → Nat → List Nat
  | 0, f => if b 17 f = 4 then [] else [f]
  | d + 1, f => if b 17 f = 4 then memS b (mem b d) f 0 (b 19 f).toNat else [f]
/-- what gather needs of the FIXTURES -/
def rI (b : xB) (N : Nat) : Prop := N ≤ 24 ∧ cGroups b N ≤ 3 ∧ ∀ f, f < N → 0 ≤ b 17 f ∧ b 17 f ≤ 4 ∧ (b 17 f = 4 → 0 ≤ b 19 f ∧ b 19 f ≤ 6 ∧ ∀ i, i < 6 → -1 ≤ b 20 (f * 6 + i) ∧ b 20 (f * 6 + i) < f)
theorem rR_I {b : xB} {s : Nat → Int} {N : Nat} (h : rR b s) (hN : b 161 0 = (N : Int)) : rI b N := by
  obtain ⟨r1, r2, r3, r4, r5, r6, r7, r8, r9⟩ := h
  rw [hN, Int.toNat_natCast] at r6
  refine ⟨by omega, by omega, fun f hf => ?_⟩
  obtain ⟨q1, q2, q3⟩ := r8 f (by omega)
  rcases q3 with ⟨k1, k2, k3⟩ | ⟨k1, k2, k3, k4, k5, k6, k7⟩
  · exact ⟨k1, by omega, fun e => by omega⟩
  · exact ⟨by omega, by omega, fun _ => ⟨k5, k6, fun i hi => (k7 i hi).2⟩⟩
section
variable {b : xB} {N : Nat}
theorem cGroups_mono {m k : Nat} (h : m ≤ k) : cGroups b m ≤ cGroups b k := by
  induction k with
  | zero => rw [show m = 0 by omega]; exact Nat.le_refl _
  | succ k ih =>
    by_cases e : m = k + 1
    · rw [e]; exact Nat.le_refl _
    · have := ih (by omega)
      show _ ≤ cGroups b k + _
      omega
theorem cGroups_grp {f k : Nat} (h : f < k) (hg : b 17 f = 4) : cGroups b f + 1 ≤ cGroups b k := by
  have := cGroups_mono (b := b) (m := f + 1) (k := k) h
  have e : cGroups b (f + 1) = cGroups b f + 1 := by
    show cGroups b f + (if b 17 f = 4 then 1 else 0) = _
    rw [if_pos hg]
  omega
theorem memS_in {F : Nat → List Nat} {f x : Nat} : ∀ k i, x ∈ memS b F f i k → ∃ j, j < i + k ∧ i ≤ j ∧ b 20 (f * 6 + j) ≠ -1 ∧ x ∈ F (b 20 (f * 6 + j)).toNat
  | 0, i, h => by simp [memS] at h
  | k + 1, i, h => by
    have h : x ∈ (if b 20 (f * 6 + i) = -1 then [] else F (b 20 (f * 6 + i)).toNat) ++ memS b F f (i + 1) k := h
    rcases List.mem_append.mp h with h | h
    · by_cases e : b 20 (f * 6 + i) = -1
      · rw [if_pos e] at h
        exact absurd h List.not_mem_nil
      · rw [if_neg e] at h
        exact ⟨i, by omega, by omega, e, h⟩
    · obtain ⟨j, a, c, d⟩ := memS_in k (i + 1) h
      exact ⟨j, by omega, by omega, d⟩
theorem mem_len (hI : rI b N) : ∀ d f, f < N → (mem b d f).length ≤ 6 ^ d
  | 0, f, hf => by
    show (if b 17 f = 4 then [] else [f]).length ≤ 1
    split
    · exact Nat.zero_le _
    · exact Nat.le_refl _
  | d + 1, f, hf => by
    show (if b 17 f = 4 then memS b (mem b d) f 0 (b 19 f).toNat else [f]).length ≤ _
    by_cases e : b 17 f = 4
    · rw [if_pos e]
      obtain ⟨k1, k2, k3⟩ := (hI.2.2 f hf).2.2 e
      have key : ∀ k i, i + k ≤ 6 → (memS b (mem b d) f i k).length ≤ k * 6 ^ d := by
        intro k
        induction k with
        | zero => intro i _; simp [memS]
        | succ k ih =>
          intro i hi
          show ((if b 20 (f * 6 + i) = -1 then [] else mem b d (b 20 (f * 6 + i)).toNat) ++ memS b (mem b d) f (i + 1) k).length ≤ _
          rw [List.length_append, Nat.succ_mul]
          have a := ih (i + 1) (by omega)
          have : (if b 20 (f * 6 + i) = -1 then [] else mem b d (b 20 (f * 6 + i)).toNat).length ≤ 6 ^ d := by
            split
            · exact Nat.zero_le _
            · have := k3 i (by omega)
              exact mem_len hI d _ (by omega)
          omega
      have a := key (b 19 f).toNat 0 (by omega)
      have c : (b 19 f).toNat * 6 ^ d ≤ 6 * 6 ^ d := Nat.mul_le_mul_right _ (by omega)
      rw [Nat.pow_succ]
      omega
    · rw [if_neg e]
      exact Nat.pos_pow_of_pos_or d
  where Nat.pos_pow_of_pos_or (d : Nat) : 1 ≤ 6 ^ (d + 1) := Nat.pos_of_ne_zero (by simp)
theorem mem_ok (hI : rI b N) : ∀ d f, f < N → ∀ x, x ∈ mem b d f → x < N ∧ b 17 x ≠ 4
  | 0, f, hf, x, h => by
    have h : x ∈ (if b 17 f = 4 then [] else [f]) := h
    by_cases e : b 17 f = 4
    · rw [if_pos e] at h
      exact absurd h List.not_mem_nil
    · rw [if_neg e] at h
      rw [List.mem_singleton.mp h]
      exact ⟨hf, e⟩
  | d + 1, f, hf, x, h => by
    have h : x ∈ (if b 17 f = 4 then memS b (mem b d) f 0 (b 19 f).toNat else [f]) := h
    by_cases e : b 17 f = 4
    · rw [if_pos e] at h
      obtain ⟨k1, k2, k3⟩ := (hI.2.2 f hf).2.2 e
      obtain ⟨j, a, c, d1, d2⟩ := memS_in _ _ h
      have := k3 j (by omega)
      exact mem_ok hI d _ (by omega) x d2
    · rw [if_neg e] at h
      rw [List.mem_singleton.mp h]
      exact ⟨hf, e⟩
end
/-- members written -/
def wrL (r : Nat) (b : xB) (L : List Nat) : Prop := ∀ j, (h : j < L.length) → b r j = (L[j] : Int)
theorem wrL_push {r : Nat} {b b' : xB} {L : List Nat} {x : Nat} (h : wrL r b L) (e : ∀ j, j < L.length → b' r j = b r j) (e2 : b' r L.length = (x : Int)) : wrL r b' (L ++ [x]) := by
  intro j hj
  rw [List.length_append] at hj
  by_cases c : j < L.length
  · rw [List.getElem_append_left c, e j c]
    exact h j c
  · have : j = L.length := by simp at hj; omega
    subst this
    rw [e2]
    simp
def cst (b0 b : xB) (L : List Nat) : Prop := (∀ r, r ≠ 23 → r ≠ 170 → b r = b0 r) ∧ b 170 0 = (L.length : Int) ∧ wrL 23 b L
/-- the class's -/
theorem R_gather_A {b0 : xB} {N : Nat} (hI : rI b0 N) : ∀ d f, d ≤ 3 → f < N → ∀ (b : xB) (L : List Nat), cst b0 b L → (L ++ mem b0 d f).length ≤ 216 → ∃ b', cst b0 b' (L ++ mem b0 d f) ∧ ∀ Q : xB → Prop, Q b' → w_R_gather (d + 1) b f ((3 - d : Nat) : Int) Q := by
  have one : ∀ d f, f < N → b0 17 f ≠ 4 → ∀ (b : xB) (L : List Nat), cst b0 b L → (L ++ [f]).length ≤ 216 → ∃ b', cst b0 b' (L ++ [f]) ∧ ∀ Q : xB → Prop, Q b' → w_R_gather (d + 1) b f ((3 - d : Nat) : Int) Q := by
    intro d f hf hk b L ⟨c1, c2, c3⟩ hlen
    rw [List.length_append] at hlen
    have hlen : L.length + 1 ≤ 216 := hlen
    have e17 : b 17 f ≠ 4 := by rw [c1 17 (by omega) (by omega)]; exact hk
    have hN := hI.1
    refine ⟨x_up (x_up b 23 L.length f) 170 0 (L.length + 1), ⟨fun r h1 h2 => by rw [upR h2, upR h1]; exact c1 r h1 h2, by simp (disch := omega) only [up_eq, up_r, up_i, fil_in, fil_i, fil_r]; simp, wrL_push c3 (fun j hj => by simp (disch := omega) only [up_eq, up_r, up_i, fil_in, fil_i, fil_r]) (by simp (disch := omega) only [up_eq, up_r, up_i, fil_in, fil_i, fil_r])⟩, fun Q hQ => ?_⟩
    rw [w_R_gather_s]
    simp (disch := omega) only [c2, e_T, e_F, e_t, e_f, e_gd, e_bg0, e_bg1, e_nz, Int.toNat_natCast, Int.toNat_add, Int.toNat_mul, xw_al, xw_ar, xw_ml, xw_mr, xw_sl, xw_sr, xw_id, x_sl_c, mc3, mc6, mc8, mc12, mc64, mc72, Nat.add_assoc, Int.reduceToNat, L_isLine_t, L_isLine_f, R_has_t, R_has_f, R_isCh_t, R_isCh_f, V_isCurve_t, V_isCurve_f, Q_isCue_t, Q_isCue_f, Q_isList_t, Q_isList_f, B_isPb_t, B_isPb_f, m_in_t, m_in_f, m_isLine_t, m_isLine_f, m_isPb_t, m_isPb_f, m_isFx_t, m_isFx_f, F_note_e, m_finds_e, Int.reduceToNat, noted_neg, up_eq, up_r, up_i, fil_in, fil_i, fil_r]
    exact hQ
  intro d
  induction d with
  | zero =>
    intro f hd hf b L hc hlen
    by_cases e : b0 17 f = 4
    · have hm : mem b0 0 f = [] := if_pos e
      rw [hm, List.append_nil]
      refine ⟨b, hc, fun Q hQ => ?_⟩
      have e17 : b 17 f = 4 := by rw [hc.1 17 (by omega) (by omega)]; exact e
      have hN := hI.1
      rw [w_R_gather_s]
      simp (disch := omega) only [e_T, e_F, e_t, e_f, e_gd, e_bg0, e_bg1, e_nz, Int.toNat_natCast, Int.toNat_add, Int.toNat_mul, xw_al, xw_ar, xw_ml, xw_mr, xw_sl, xw_sr, xw_id, x_sl_c, mc3, mc6, mc8, mc12, mc64, mc72, Nat.add_assoc, Int.reduceToNat, L_isLine_t, L_isLine_f, R_has_t, R_has_f, R_isCh_t, R_isCh_f, V_isCurve_t, V_isCurve_f, Q_isCue_t, Q_isCue_f, Q_isList_t, Q_isList_f, B_isPb_t, B_isPb_f, m_in_t, m_in_f, m_isLine_t, m_isLine_f, m_isPb_t, m_isPb_f, m_isFx_t, m_isFx_f, F_note_e, m_finds_e, Int.reduceToNat, noted_neg, up_eq, up_r, up_i, fil_in, fil_i, fil_r]
      exact hQ
    · have hm : mem b0 0 f = [f] := if_neg e
      rw [hm] at hlen ⊢
      exact one 0 f hf e b L hc hlen
  | succ d ih =>
    intro f hd hf b L hc hlen
    by_cases e : b0 17 f = 4
    · have hm : mem b0 (d + 1) f = memS b0 (mem b0 d) f 0 (b0 19 f).toNat := if_pos e
      rw [hm] at hlen ⊢
      obtain ⟨k1, k2, k3⟩ := (hI.2.2 f hf).2.2 e
      obtain ⟨S, hS⟩ := nat_of k1
      rw [hS, Int.toNat_natCast] at hlen ⊢
      have hN := hI.1
      have loop : ∀ k i (b : xB) (L : List Nat), i + k = S → cst b0 b L → (L ++ memS b0 (mem b0 d) f i k).length ≤ 216 → ∃ b', cst b0 b' (L ++ memS b0 (mem b0 d) f i k) ∧ ∀ (Q : xB → Prop) (K : xB → Prop), K b' → w_R_gather_h49 (w_R_gather (d + 1)) Q K (k + 1) b f ((3 - (d + 1) : Nat) : Int) i := by
        intro k
        induction k with
        | zero =>
          intro i b L hi hc hlen
          have e0 : memS b0 (mem b0 d) f i 0 = [] := rfl
          rw [e0, List.append_nil]
          refine ⟨b, hc, fun Q K hK => ?_⟩
          have e19 : b 19 f = (S : Int) := by rw [hc.1 19 (by omega) (by omega)]; exact hS
          rw [w_R_gather_h49_s]
          simp (disch := omega) only [e_T, e_F, e_t, e_f, e_gd, e_bg0, e_bg1, e_nz, Int.toNat_natCast, Int.toNat_add, Int.toNat_mul, xw_al, xw_ar, xw_ml, xw_mr, xw_sl, xw_sr, xw_id, x_sl_c, mc3, mc6, mc8, mc12, mc64, mc72, Nat.add_assoc, Int.reduceToNat, L_isLine_t, L_isLine_f, R_has_t, R_has_f, R_isCh_t, R_isCh_f, V_isCurve_t, V_isCurve_f, Q_isCue_t, Q_isCue_f, Q_isList_t, Q_isList_f, B_isPb_t, B_isPb_f, m_in_t, m_in_f, m_isLine_t, m_isLine_f, m_isPb_t, m_isPb_f, m_isFx_t, m_isFx_f, F_note_e, m_finds_e, Int.reduceToNat, noted_neg, up_eq, up_r, up_i, fil_in, fil_i, fil_r]
          exact hK
        | succ k ih2 =>
          intro i b L hi hc hlen
          have e19 : b 19 f = (S : Int) := by rw [hc.1 19 (by omega) (by omega)]; exact hS
          have e20 : b 20 (f * 6 + i) = b0 20 (f * 6 + i) := by rw [hc.1 20 (by omega) (by omega)]
          have e0 : memS b0 (mem b0 d) f i (k + 1) = (if b0 20 (f * 6 + i) = -1 then [] else mem b0 d (b0 20 (f * 6 + i)).toNat) ++ memS b0 (mem b0 d) f (i + 1) k := rfl
          rw [e0] at hlen ⊢
          have hk3 := k3 i (by omega)
          by_cases en : b0 20 (f * 6 + i) = -1
          · rw [if_pos en, List.nil_append] at hlen ⊢
            obtain ⟨b', h1, h2⟩ := ih2 (i + 1) b L (by omega) hc hlen
            refine ⟨b', h1, fun Q K hK => ?_⟩
            rw [w_R_gather_h49_s]
            simp (disch := omega) only [e_T, e_F, e_t, e_f, e_gd, e_bg0, e_bg1, e_nz, Int.toNat_natCast, Int.toNat_add, Int.toNat_mul, xw_al, xw_ar, xw_ml, xw_mr, xw_sl, xw_sr, xw_id, x_sl_c, mc3, mc6, mc8, mc12, mc64, mc72, Nat.add_assoc, Int.reduceToNat, L_isLine_t, L_isLine_f, R_has_t, R_has_f, R_isCh_t, R_isCh_f, V_isCurve_t, V_isCurve_f, Q_isCue_t, Q_isCue_f, Q_isList_t, Q_isList_f, B_isPb_t, B_isPb_f, m_in_t, m_in_f, m_isLine_t, m_isLine_f, m_isPb_t, m_isPb_f, m_isFx_t, m_isFx_f, F_note_e, m_finds_e, Int.reduceToNat, noted_neg, up_eq, up_r, up_i, fil_in, fil_i, fil_r]
            exact h2 Q K hK
          · rw [if_neg en, ← List.append_assoc] at hlen ⊢
            obtain ⟨s, hs⟩ := nat_of (l := b0 20 (f * 6 + i)) (by omega)
            rw [hs, Int.toNat_natCast] at hlen ⊢
            obtain ⟨b1, h1, h2⟩ := ih s (by omega) (by omega) b L hc (by rw [List.length_append] at hlen; omega)
            obtain ⟨b', h3, h4⟩ := ih2 (i + 1) b1 _ (by omega) h1 hlen
            refine ⟨b', h3, fun Q K hK => ?_⟩
            have e20' : b 20 (f * 6 + i) = (s : Int) := by omega
            rw [w_R_gather_h49_s]
            simp (disch := omega) only [e20', e_T, e_F, e_t, e_f, e_gd, e_bg0, e_bg1, e_nz, Int.toNat_natCast, Int.toNat_add, Int.toNat_mul, xw_al, xw_ar, xw_ml, xw_mr, xw_sl, xw_sr, xw_id, x_sl_c, mc3, mc6, mc8, mc12, mc64, mc72, Nat.add_assoc, Int.reduceToNat, L_isLine_t, L_isLine_f, R_has_t, R_has_f, R_isCh_t, R_isCh_f, V_isCurve_t, V_isCurve_f, Q_isCue_t, Q_isCue_f, Q_isList_t, Q_isList_f, B_isPb_t, B_isPb_f, m_in_t, m_in_f, m_isLine_t, m_isLine_f, m_isPb_t, m_isPb_f, m_isFx_t, m_isFx_f, F_note_e, m_finds_e, Int.reduceToNat, noted_neg, up_eq, up_r, up_i, fil_in, fil_i, fil_r]
            have hd2 : ((3 - (d + 1) : Nat) : Int) + 1 = ((3 - d : Nat) : Int) := by omega
            rw [hd2]
            exact h2 _ (h4 Q K hK)
      obtain ⟨b', h1, h2⟩ := loop S 0 b L (by omega) hc hlen
      refine ⟨b', h1, fun Q hQ => ?_⟩
      have e17 : b 17 f = 4 := by rw [hc.1 17 (by omega) (by omega)]; exact e
      rw [w_R_gather_s]
      simp (disch := omega) only [e_T, e_F, e_t, e_f, e_gd, e_bg0, e_bg1, e_nz, Int.toNat_natCast, Int.toNat_add, Int.toNat_mul, xw_al, xw_ar, xw_ml, xw_mr, xw_sl, xw_sr, xw_id, x_sl_c, mc3, mc6, mc8, mc12, mc64, mc72, Nat.add_assoc, Int.reduceToNat, L_isLine_t, L_isLine_f, R_has_t, R_has_f, R_isCh_t, R_isCh_f, V_isCurve_t, V_isCurve_f, Q_isCue_t, Q_isCue_f, Q_isList_t, Q_isList_f, B_isPb_t, B_isPb_f, m_in_t, m_in_f, m_isLine_t, m_isLine_f, m_isPb_t, m_isPb_f, m_isFx_t, m_isFx_f, F_note_e, m_finds_e, Int.reduceToNat, noted_neg, up_eq, up_r, up_i, fil_in, fil_i, fil_r]
      exact ⟨S + 1, h2 Q Q hQ⟩
    · have hm : mem b0 (d + 1) f = [f] := if_neg e
      rw [hm] at hlen ⊢
      exact one (d + 1) f hf e b L hc hlen
theorem R_collect_A {b : xB} {N f : Nat} (hI : rI b N) (hf : f < N) : ∃ b', cst b b' (mem b 3 f) ∧ ∀ Q : Int → xB → Prop, Q ((mem b 3 f).length : Int) b' → w_R_collect b f Q := by
  have hl := mem_len hI 3 f hf
  obtain ⟨b', h1, h2⟩ := R_gather_A hI 3 f (Nat.le_refl 3) hf (x_up b 170 0 0) [] ⟨fun r _ h2 => upR h2, by simp (disch := omega) only [up_eq, up_r, up_i, fil_in, fil_i, fil_r]; rfl, fun j hj => absurd hj (Nat.not_lt_zero j)⟩ (by rw [List.nil_append]; omega)
  rw [List.nil_append] at h1
  refine ⟨b', h1, fun Q hQ => ?_⟩
  refine h2 _ ?_
  rw [h1.2.1]
  exact hQ
/-- the model's: its array as the class has it -/
def mst (g0 g : xB) (P : Nat) (L : List Nat) : Prop := (∀ r, r ≠ 74 → r ≠ 75 → r ≠ 76 → r ≠ 1506 → r ≠ 1507 → g r = g0 r) ∧ g 1507 0 = (P : Int) ∧ g 1506 0 = (L.length : Int) ∧ wrL 74 g L
def mEq (b g : xB) (N : Nat) : Prop := ∀ f, f < N → b 17 f = g 71 (278 + f) ∧ (b 17 f = 4 → b 19 f = g 71 (422 + f) ∧ ∀ i, i < 6 → b 20 (f * 6 + i) = g 71 (446 + (f * 6 + i)))
theorem rR_E {b : xB} {g : xB} {N : Nat} (h : rR b (g 71)) (hN : b 161 0 = (N : Int)) : mEq b g N := by
  intro f hf
  obtain ⟨q1, q2, q3⟩ := h.2.2.2.2.2.2.2.1 f (by omega)
  refine ⟨q1, fun e => ?_⟩
  rcases q3 with ⟨k1, k2, k3⟩ | ⟨k1, k2, k3, k4, k5, k6, k7⟩
  · omega
  · exact ⟨k4, fun i hi => (k7 i hi).1⟩
theorem m_gather_A {b g0 : xB} {N : Nat} (hI : rI b N) (hE : mEq b g0 N) : ∀ (d G : Nat), d ≤ 2 → G < N → b 17 G = 4 → cGroups b G ≤ d → ∀ (k i S : Nat), i + k = S → b 19 G = (S : Int) → ∀ (g : xB) (P : Nat) (L : List Nat), P + d ≤ 3 → mst g0 g (P + 1) L → g 75 P = (G : Int) → g 76 P = (i : Int) → (L ++ memS b (mem b d) G i k).length ≤ 216 → ∃ g', mst g0 g' P (L ++ memS b (mem b d) G i k) ∧ (∀ j, j < P → g' 75 j = g 75 j ∧ g' 76 j = g 76 j) ∧ (∀ Q K : xB → Prop, (∃ n, w_m_gather_h15 Q K n g') → ∃ n, w_m_gather_h15 Q K n g) := by
  intro d
  induction d with
  | zero =>
    intro G hd hG hk4 hrk k
    induction k with
    | zero =>
      intro i S hi hS g P L hP hm h75 h76 hlen
      have e0 : memS b (mem b 0) G i 0 = [] := rfl
      rw [e0, List.append_nil]
      obtain ⟨m1, m2, m3, m4⟩ := hm
      have hN := hI.1
      have hks := (hI.2.2 G hG).2.2 hk4
      have e422 : g 71 (422 + G) = (S : Int) := by rw [m1 71 (by omega) (by omega) (by omega) (by omega) (by omega), ← ((hE G hG).2 hk4).1]; exact hS
      refine ⟨x_up g 1507 0 P, ⟨fun r a1 a2 a3 a4 a5 => by rw [upR a5]; exact m1 r a1 a2 a3 a4 a5, by simp (disch := omega) only [up_eq, up_r, up_i, fil_in, fil_i, fil_r], by simp (disch := omega) only [up_eq, up_r, up_i, fil_in, fil_i, fil_r]; exact m3, fun j hj => by simp (disch := omega) only [up_eq, up_r, up_i, fil_in, fil_i, fil_r]; exact m4 j hj⟩, fun j hj => ⟨by simp (disch := omega) only [up_eq, up_r, up_i, fil_in, fil_i, fil_r], by simp (disch := omega) only [up_eq, up_r, up_i, fil_in, fil_i, fil_r]⟩, fun Q K ⟨n, hn⟩ => ⟨n + 1, ?_⟩⟩
      rw [w_m_gather_h15_s]
      have m2' : g 1507 0 - 1 = (P : Int) := by omega
      simp (disch := omega) only [w_m_next, m2', h75, h76, e422, e_T, e_F, e_t, e_f, e_gd, e_bg0, e_bg1, e_nz, Int.toNat_natCast, Int.toNat_add, Int.toNat_mul, xw_al, xw_ar, xw_ml, xw_mr, xw_sl, xw_sr, xw_id, x_sl_c, mc3, mc6, mc8, mc12, mc64, mc72, Nat.add_assoc, Int.reduceToNat, L_isLine_t, L_isLine_f, R_has_t, R_has_f, R_isCh_t, R_isCh_f, V_isCurve_t, V_isCurve_f, Q_isCue_t, Q_isCue_f, Q_isList_t, Q_isList_f, B_isPb_t, B_isPb_f, m_in_t, m_in_f, m_isLine_t, m_isLine_f, m_isPb_t, m_isPb_f, m_isFx_t, m_isFx_f, F_note_e, m_finds_e, Int.reduceToNat, noted_neg, up_eq, up_r, up_i, fil_in, fil_i, fil_r]
      exact hn
    | succ k ih =>
      intro i S hi hS g P L hP hm h75 h76 hlen
      obtain ⟨m1, m2, m3, m4⟩ := hm
      have hN := hI.1
      have hks := (hI.2.2 G hG).2.2 hk4
      obtain ⟨hs1, hs2, hs3⟩ := hks
      have hsi := hs3 i (by omega)
      have e422 : g 71 (422 + G) = (S : Int) := by rw [m1 71 (by omega) (by omega) (by omega) (by omega) (by omega), ← ((hE G hG).2 hk4).1]; exact hS
      have e446 : g 71 (446 + (G * 6 + i)) = b 20 (G * 6 + i) := by rw [m1 71 (by omega) (by omega) (by omega) (by omega) (by omega), ← ((hE G hG).2 hk4).2 i (by omega)]
      have m2' : g 1507 0 - 1 = (P : Int) := by omega
      have e0 : memS b (mem b 0) G i (k + 1) = (if b 20 (G * 6 + i) = -1 then [] else mem b 0 (b 20 (G * 6 + i)).toNat) ++ memS b (mem b 0) G (i + 1) k := rfl
      rw [e0] at hlen ⊢
      by_cases en : b 20 (G * 6 + i) = -1
      · rw [if_pos en, List.nil_append] at hlen ⊢
        obtain ⟨g', h1, h2, h3⟩ := ih (i + 1) S (by omega) hS (x_up g 76 P (i + 1)) P L hP ⟨fun r a1 a2 a3 a4 a5 => by rw [upR a3]; exact m1 r a1 a2 a3 a4 a5, by simp (disch := omega) only [up_eq, up_r, up_i, fil_in, fil_i, fil_r]; exact m2, by simp (disch := omega) only [up_eq, up_r, up_i, fil_in, fil_i, fil_r]; exact m3, fun j hj => by simp (disch := omega) only [up_eq, up_r, up_i, fil_in, fil_i, fil_r]; exact m4 j hj⟩ (by simp (disch := omega) only [up_eq, up_r, up_i, fil_in, fil_i, fil_r]; exact h75) (by simp (disch := omega) only [up_eq, up_r, up_i, fil_in, fil_i, fil_r]; omega) hlen
        refine ⟨g', h1, fun j hj => ?_, fun Q K hg' => ?_⟩
        · have := h2 j hj
          rw [up_i (by omega), up_i (by omega)] at this
          exact this
        · obtain ⟨n, hn⟩ := h3 Q K hg'
          refine ⟨n + 1, ?_⟩
          rw [w_m_gather_h15_s]
          simp (disch := omega) only [w_m_next, m2', h75, h76, e422, e446, e_T, e_F, e_t, e_f, e_gd, e_bg0, e_bg1, e_nz, Int.toNat_natCast, Int.toNat_add, Int.toNat_mul, xw_al, xw_ar, xw_ml, xw_mr, xw_sl, xw_sr, xw_id, x_sl_c, mc3, mc6, mc8, mc12, mc64, mc72, Nat.add_assoc, Int.reduceToNat, L_isLine_t, L_isLine_f, R_has_t, R_has_f, R_isCh_t, R_isCh_f, V_isCurve_t, V_isCurve_f, Q_isCue_t, Q_isCue_f, Q_isList_t, Q_isList_f, B_isPb_t, B_isPb_f, m_in_t, m_in_f, m_isLine_t, m_isLine_f, m_isPb_t, m_isPb_f, m_isFx_t, m_isFx_f, F_note_e, m_finds_e, Int.reduceToNat, noted_neg, up_eq, up_r, up_i, fil_in, fil_i, fil_r]
          exact hn
      · obtain ⟨s, hs⟩ := nat_of (l := b 20 (G * 6 + i)) (by omega)
        have hns : b 17 s ≠ 4 := by
          intro z
          have := cGroups_grp (b := b) (f := s) (k := G) (by omega) z
          omega
        have em : mem b 0 s = [s] := if_neg hns
        rw [if_neg en, hs, Int.toNat_natCast, em, ← List.append_assoc] at hlen ⊢
        have hlen' : L.length + 1 ≤ 216 := by
          rw [List.length_append, List.length_append] at hlen
          have : [s].length = 1 := rfl
          omega
        have e278 : g 71 (278 + s) ≠ 4 := by rw [m1 71 (by omega) (by omega) (by omega) (by omega) (by omega), ← (hE s (by omega)).1]; exact hns
        obtain ⟨g', h1, h2, h3⟩ := ih (i + 1) S (by omega) hS (x_up (x_up (x_up g 76 P (i + 1)) 74 L.length s) 1506 0 (L.length + 1)) P (L ++ [s]) hP ⟨fun r a1 a2 a3 a4 a5 => by rw [upR a4, upR a1, upR a3]; exact m1 r a1 a2 a3 a4 a5, by simp (disch := omega) only [up_eq, up_r, up_i, fil_in, fil_i, fil_r]; exact m2, by simp (disch := omega) only [up_eq, up_r, up_i, fil_in, fil_i, fil_r]; simp, wrL_push m4 (fun j hj => by simp (disch := omega) only [up_eq, up_r, up_i, fil_in, fil_i, fil_r]) (by simp (disch := omega) only [up_eq, up_r, up_i, fil_in, fil_i, fil_r])⟩ (by simp (disch := omega) only [up_eq, up_r, up_i, fil_in, fil_i, fil_r]; exact h75) (by simp (disch := omega) only [up_eq, up_r, up_i, fil_in, fil_i, fil_r]; omega) hlen
        refine ⟨g', h1, fun j hj => ?_, fun Q K hg' => ?_⟩
        · have := h2 j hj
          rw [up_r (by omega), up_r (by omega), up_r (by omega), up_r (by omega), up_r (by omega), up_i (by omega)] at this
          exact this
        · obtain ⟨n, hn⟩ := h3 Q K hg'
          refine ⟨n + 1, ?_⟩
          have e446' : g 71 (446 + (G * 6 + i)) = (s : Int) := by omega
          rw [w_m_gather_h15_s]
          simp (disch := omega) only [w_m_next, m2', h75, h76, e422, e446', w_m_meet, w_m_kindOf, m3, e_T, e_F, e_t, e_f, e_gd, e_bg0, e_bg1, e_nz, Int.toNat_natCast, Int.toNat_add, Int.toNat_mul, xw_al, xw_ar, xw_ml, xw_mr, xw_sl, xw_sr, xw_id, x_sl_c, mc3, mc6, mc8, mc12, mc64, mc72, Nat.add_assoc, Int.reduceToNat, L_isLine_t, L_isLine_f, R_has_t, R_has_f, R_isCh_t, R_isCh_f, V_isCurve_t, V_isCurve_f, Q_isCue_t, Q_isCue_f, Q_isList_t, Q_isList_f, B_isPb_t, B_isPb_f, m_in_t, m_in_f, m_isLine_t, m_isLine_f, m_isPb_t, m_isPb_f, m_isFx_t, m_isFx_f, F_note_e, m_finds_e, Int.reduceToNat, noted_neg, up_eq, up_r, up_i, fil_in, fil_i, fil_r]
          exact hn
  | succ d ihd =>
    intro G hd hG hk4 hrk k
    induction k with
    | zero =>
      intro i S hi hS g P L hP hm h75 h76 hlen
      have e0 : memS b (mem b (d + 1)) G i 0 = [] := rfl
      rw [e0, List.append_nil]
      obtain ⟨m1, m2, m3, m4⟩ := hm
      have hN := hI.1
      have hks := (hI.2.2 G hG).2.2 hk4
      have e422 : g 71 (422 + G) = (S : Int) := by rw [m1 71 (by omega) (by omega) (by omega) (by omega) (by omega), ← ((hE G hG).2 hk4).1]; exact hS
      refine ⟨x_up g 1507 0 P, ⟨fun r a1 a2 a3 a4 a5 => by rw [upR a5]; exact m1 r a1 a2 a3 a4 a5, by simp (disch := omega) only [up_eq, up_r, up_i, fil_in, fil_i, fil_r], by simp (disch := omega) only [up_eq, up_r, up_i, fil_in, fil_i, fil_r]; exact m3, fun j hj => by simp (disch := omega) only [up_eq, up_r, up_i, fil_in, fil_i, fil_r]; exact m4 j hj⟩, fun j hj => ⟨by simp (disch := omega) only [up_eq, up_r, up_i, fil_in, fil_i, fil_r], by simp (disch := omega) only [up_eq, up_r, up_i, fil_in, fil_i, fil_r]⟩, fun Q K ⟨n, hn⟩ => ⟨n + 1, ?_⟩⟩
      rw [w_m_gather_h15_s]
      have m2' : g 1507 0 - 1 = (P : Int) := by omega
      simp (disch := omega) only [w_m_next, m2', h75, h76, e422, e_T, e_F, e_t, e_f, e_gd, e_bg0, e_bg1, e_nz, Int.toNat_natCast, Int.toNat_add, Int.toNat_mul, xw_al, xw_ar, xw_ml, xw_mr, xw_sl, xw_sr, xw_id, x_sl_c, mc3, mc6, mc8, mc12, mc64, mc72, Nat.add_assoc, Int.reduceToNat, L_isLine_t, L_isLine_f, R_has_t, R_has_f, R_isCh_t, R_isCh_f, V_isCurve_t, V_isCurve_f, Q_isCue_t, Q_isCue_f, Q_isList_t, Q_isList_f, B_isPb_t, B_isPb_f, m_in_t, m_in_f, m_isLine_t, m_isLine_f, m_isPb_t, m_isPb_f, m_isFx_t, m_isFx_f, F_note_e, m_finds_e, Int.reduceToNat, noted_neg, up_eq, up_r, up_i, fil_in, fil_i, fil_r]
      exact hn
    | succ k ih =>
      intro i S hi hS g P L hP hm h75 h76 hlen
      obtain ⟨m1, m2, m3, m4⟩ := hm
      have hN := hI.1
      obtain ⟨hs1, hs2, hs3⟩ := (hI.2.2 G hG).2.2 hk4
      have hsi := hs3 i (by omega)
      have e422 : g 71 (422 + G) = (S : Int) := by rw [m1 71 (by omega) (by omega) (by omega) (by omega) (by omega), ← ((hE G hG).2 hk4).1]; exact hS
      have e446 : g 71 (446 + (G * 6 + i)) = b 20 (G * 6 + i) := by rw [m1 71 (by omega) (by omega) (by omega) (by omega) (by omega), ← ((hE G hG).2 hk4).2 i (by omega)]
      have m2' : g 1507 0 - 1 = (P : Int) := by omega
      have e0 : memS b (mem b (d + 1)) G i (k + 1) = (if b 20 (G * 6 + i) = -1 then [] else mem b (d + 1) (b 20 (G * 6 + i)).toNat) ++ memS b (mem b (d + 1)) G (i + 1) k := rfl
      rw [e0] at hlen ⊢
      by_cases en : b 20 (G * 6 + i) = -1
      · rw [if_pos en, List.nil_append] at hlen ⊢
        obtain ⟨g', h1, h2, h3⟩ := ih (i + 1) S (by omega) hS (x_up g 76 P (i + 1)) P L hP ⟨fun r a1 a2 a3 a4 a5 => by rw [upR a3]; exact m1 r a1 a2 a3 a4 a5, by simp (disch := omega) only [up_eq, up_r, up_i, fil_in, fil_i, fil_r]; exact m2, by simp (disch := omega) only [up_eq, up_r, up_i, fil_in, fil_i, fil_r]; exact m3, fun j hj => by simp (disch := omega) only [up_eq, up_r, up_i, fil_in, fil_i, fil_r]; exact m4 j hj⟩ (by simp (disch := omega) only [up_eq, up_r, up_i, fil_in, fil_i, fil_r]; exact h75) (by simp (disch := omega) only [up_eq, up_r, up_i, fil_in, fil_i, fil_r]; omega) hlen
        refine ⟨g', h1, fun j hj => ?_, fun Q K hg' => ?_⟩
        · have := h2 j hj
          rw [up_i (by omega), up_i (by omega)] at this
          exact this
        · obtain ⟨n, hn⟩ := h3 Q K hg'
          refine ⟨n + 1, ?_⟩
          rw [w_m_gather_h15_s]
          simp (disch := omega) only [w_m_next, m2', h75, h76, e422, e446, e_T, e_F, e_t, e_f, e_gd, e_bg0, e_bg1, e_nz, Int.toNat_natCast, Int.toNat_add, Int.toNat_mul, xw_al, xw_ar, xw_ml, xw_mr, xw_sl, xw_sr, xw_id, x_sl_c, mc3, mc6, mc8, mc12, mc64, mc72, Nat.add_assoc, Int.reduceToNat, L_isLine_t, L_isLine_f, R_has_t, R_has_f, R_isCh_t, R_isCh_f, V_isCurve_t, V_isCurve_f, Q_isCue_t, Q_isCue_f, Q_isList_t, Q_isList_f, B_isPb_t, B_isPb_f, m_in_t, m_in_f, m_isLine_t, m_isLine_f, m_isPb_t, m_isPb_f, m_isFx_t, m_isFx_f, F_note_e, m_finds_e, Int.reduceToNat, noted_neg, up_eq, up_r, up_i, fil_in, fil_i, fil_r]
          exact hn
      · obtain ⟨s, hs⟩ := nat_of (l := b 20 (G * 6 + i)) (by omega)
        rw [if_neg en, hs, Int.toNat_natCast, ← List.append_assoc] at hlen ⊢
        have e446' : g 71 (446 + (G * 6 + i)) = (s : Int) := by omega
        by_cases hns : b 17 s = 4
        · have em : mem b (d + 1) s = memS b (mem b d) s 0 (b 19 s).toNat := if_pos hns
          obtain ⟨t1, t2, t3⟩ := (hI.2.2 s (by omega)).2.2 hns
          obtain ⟨S2, hS2⟩ := nat_of t1
          rw [em, hS2, Int.toNat_natCast] at hlen ⊢
          have hrk2 := cGroups_grp (b := b) (f := s) (k := G) (by omega) hns
          have e278 : g 71 (278 + s) = 4 := by rw [m1 71 (by omega) (by omega) (by omega) (by omega) (by omega), ← (hE s (by omega)).1]; exact hns
          obtain ⟨g1, h1, h2, h3⟩ := ihd s (by omega) (by omega) hns (by omega) S2 0 S2 (by omega) hS2 (x_up (x_up (x_up (x_up g 76 P (i + 1)) 75 (P + 1) s) 76 (P + 1) 0) 1507 0 (P + 1 + 1)) (P + 1) L (by omega) ⟨fun r a1 a2 a3 a4 a5 => by rw [upR a5, upR a3, upR a2, upR a3]; exact m1 r a1 a2 a3 a4 a5, by simp (disch := omega) only [up_eq, up_r, up_i, fil_in, fil_i, fil_r]; omega, by simp (disch := omega) only [up_eq, up_r, up_i, fil_in, fil_i, fil_r]; exact m3, fun j hj => by simp (disch := omega) only [up_eq, up_r, up_i, fil_in, fil_i, fil_r]; exact m4 j hj⟩ (by simp (disch := omega) only [up_eq, up_r, up_i, fil_in, fil_i, fil_r]) (by simp (disch := omega) only [up_eq, up_r, up_i, fil_in, fil_i, fil_r]; rfl) (by rw [List.length_append] at hlen; omega)
          have a75 : g1 75 P = (G : Int) := by rw [(h2 P (by omega)).1]; simp (disch := omega) only [up_eq, up_r, up_i, fil_in, fil_i, fil_r]; exact h75
          have a76 : g1 76 P = ((i + 1 : Nat) : Int) := by rw [(h2 P (by omega)).2]; simp (disch := omega) only [up_eq, up_r, up_i, fil_in, fil_i, fil_r]; omega
          obtain ⟨g', h4, h5, h6⟩ := ih (i + 1) S (by omega) hS g1 P _ hP h1 a75 a76 hlen
          refine ⟨g', h4, fun j hj => ?_, fun Q K hg' => ?_⟩
          · rw [(h5 j hj).1, (h5 j hj).2, (h2 j (by omega)).1, (h2 j (by omega)).2]
            exact ⟨by simp (disch := omega) only [up_eq, up_r, up_i, fil_in, fil_i, fil_r], by simp (disch := omega) only [up_eq, up_r, up_i, fil_in, fil_i, fil_r]⟩
          · obtain ⟨n, hn⟩ := h3 Q K (h6 Q K hg')
            refine ⟨n + 1, ?_⟩
            have m2'' : g 1507 0 = (P : Int) + 1 := by omega
            rw [w_m_gather_h15_s]
            simp (disch := omega) only [w_m_next, Int.add_sub_cancel, h75, h76, e422, e446', w_m_meet, w_m_kindOf, w_m_open, m2'', e_T, e_F, e_t, e_f, e_gd, e_bg0, e_bg1, e_nz, Int.toNat_natCast, Int.toNat_add, Int.toNat_mul, xw_al, xw_ar, xw_ml, xw_mr, xw_sl, xw_sr, xw_id, x_sl_c, mc3, mc6, mc8, mc12, mc64, mc72, Nat.add_assoc, Int.reduceToNat, L_isLine_t, L_isLine_f, R_has_t, R_has_f, R_isCh_t, R_isCh_f, V_isCurve_t, V_isCurve_f, Q_isCue_t, Q_isCue_f, Q_isList_t, Q_isList_f, B_isPb_t, B_isPb_f, m_in_t, m_in_f, m_isLine_t, m_isLine_f, m_isPb_t, m_isPb_f, m_isFx_t, m_isFx_f, F_note_e, m_finds_e, Int.reduceToNat, noted_neg, up_eq, up_r, up_i, fil_in, fil_i, fil_r]
            exact hn
        · have em : mem b (d + 1) s = [s] := if_neg hns
          rw [em] at hlen ⊢
          have hlen' : L.length + 1 ≤ 216 := by
            rw [List.length_append, List.length_append] at hlen
            have : [s].length = 1 := rfl
            omega
          have e278 : g 71 (278 + s) ≠ 4 := by rw [m1 71 (by omega) (by omega) (by omega) (by omega) (by omega), ← (hE s (by omega)).1]; exact hns
          obtain ⟨g', h1, h2, h3⟩ := ih (i + 1) S (by omega) hS (x_up (x_up (x_up g 76 P (i + 1)) 74 L.length s) 1506 0 (L.length + 1)) P (L ++ [s]) hP ⟨fun r a1 a2 a3 a4 a5 => by rw [upR a4, upR a1, upR a3]; exact m1 r a1 a2 a3 a4 a5, by simp (disch := omega) only [up_eq, up_r, up_i, fil_in, fil_i, fil_r]; exact m2, by simp (disch := omega) only [up_eq, up_r, up_i, fil_in, fil_i, fil_r]; simp, wrL_push m4 (fun j hj => by simp (disch := omega) only [up_eq, up_r, up_i, fil_in, fil_i, fil_r]) (by simp (disch := omega) only [up_eq, up_r, up_i, fil_in, fil_i, fil_r])⟩ (by simp (disch := omega) only [up_eq, up_r, up_i, fil_in, fil_i, fil_r]; exact h75) (by simp (disch := omega) only [up_eq, up_r, up_i, fil_in, fil_i, fil_r]; omega) hlen
          refine ⟨g', h1, fun j hj => ?_, fun Q K hg' => ?_⟩
          · have := h2 j hj
            rw [up_r (by omega), up_r (by omega), up_r (by omega), up_r (by omega), up_r (by omega), up_i (by omega)] at this
            exact this
          · obtain ⟨n, hn⟩ := h3 Q K hg'
            refine ⟨n + 1, ?_⟩
            rw [w_m_gather_h15_s]
            simp (disch := omega) only [w_m_next, m2', h75, h76, e422, e446', w_m_meet, w_m_kindOf, m3, e_T, e_F, e_t, e_f, e_gd, e_bg0, e_bg1, e_nz, Int.toNat_natCast, Int.toNat_add, Int.toNat_mul, xw_al, xw_ar, xw_ml, xw_mr, xw_sl, xw_sr, xw_id, x_sl_c, mc3, mc6, mc8, mc12, mc64, mc72, Nat.add_assoc, Int.reduceToNat, L_isLine_t, L_isLine_f, R_has_t, R_has_f, R_isCh_t, R_isCh_f, V_isCurve_t, V_isCurve_f, Q_isCue_t, Q_isCue_f, Q_isList_t, Q_isList_f, B_isPb_t, B_isPb_f, m_in_t, m_in_f, m_isLine_t, m_isLine_f, m_isPb_t, m_isPb_f, m_isFx_t, m_isFx_f, F_note_e, m_finds_e, Int.reduceToNat, noted_neg, up_eq, up_r, up_i, fil_in, fil_i, fil_r]
            exact hn
theorem m_gather_i {b g : xB} {N f : Nat} (hI : rI b N) (hE : mEq b g N) (hf : f < N) : ∃ g', mst g g' 0 (mem b 3 f) ∧ ∀ Q : xB → Prop, Q g' → w_m_gather g f Q = True := by
  have hN := hI.1
  have e278 := (hE f hf).1
  by_cases e : b 17 f = 4
  · have em : mem b 3 f = memS b (mem b 2) f 0 (b 19 f).toNat := if_pos e
    have hl := mem_len hI 3 f hf
    obtain ⟨t1, t2, t3⟩ := (hI.2.2 f hf).2.2 e
    obtain ⟨S, hS⟩ := nat_of t1
    rw [em, hS, Int.toNat_natCast] at hl ⊢
    have hrk := cGroups_grp (b := b) (f := f) (k := N) hf e
    have hrk3 := hI.2.1
    obtain ⟨g', h1, h2, h3⟩ := m_gather_A hI hE 2 f (Nat.le_refl 2) hf e (by omega) S 0 S (by omega) hS (x_up (x_up (x_up (x_up (x_up g 1506 0 0) 1507 0 0) 75 0 f) 76 0 0) 1507 0 1) 0 [] (by omega) ⟨fun r a1 a2 a3 a4 a5 => by rw [upR a5, upR a3, upR a2, upR a5, upR a4], by simp (disch := omega) only [up_eq, up_r, up_i, fil_in, fil_i, fil_r]; rfl, by simp (disch := omega) only [up_eq, up_r, up_i, fil_in, fil_i, fil_r]; rfl, fun j hj => absurd hj (Nat.not_lt_zero j)⟩ (by simp (disch := omega) only [up_eq, up_r, up_i, fil_in, fil_i, fil_r]) (by simp (disch := omega) only [up_eq, up_r, up_i, fil_in, fil_i, fil_r]; rfl) (by rw [List.nil_append]; omega)
    rw [List.nil_append] at h1
    refine ⟨g', h1, fun Q hQ => ?_⟩
    have : ∃ n, w_m_gather_h15 Q Q n (x_up (x_up (x_up (x_up (x_up g 1506 0 0) 1507 0 0) 75 0 f) 76 0 0) 1507 0 1) := by
      refine h3 Q Q ⟨1, ?_⟩
      have m2 := h1.2.1
      rw [w_m_gather_h15_s]
      simp (disch := omega) only [e_T, e_F, e_t, e_f, e_gd, e_bg0, e_bg1, e_nz, Int.toNat_natCast, Int.toNat_add, Int.toNat_mul, xw_al, xw_ar, xw_ml, xw_mr, xw_sl, xw_sr, xw_id, x_sl_c, mc3, mc6, mc8, mc12, mc64, mc72, Nat.add_assoc, Int.reduceToNat, L_isLine_t, L_isLine_f, R_has_t, R_has_f, R_isCh_t, R_isCh_f, V_isCurve_t, V_isCurve_f, Q_isCue_t, Q_isCue_f, Q_isList_t, Q_isList_f, B_isPb_t, B_isPb_f, m_in_t, m_in_f, m_isLine_t, m_isLine_f, m_isPb_t, m_isPb_f, m_isFx_t, m_isFx_f, F_note_e, m_finds_e, Int.reduceToNat, noted_neg, up_eq, up_r, up_i, fil_in, fil_i, fil_r]
      exact hQ
    refine eq_true ?_
    simp (disch := omega) only [w_m_gather, w_m_meet, w_m_kindOf, w_m_open, Int.reduceAdd, Int.zero_add, e_T, e_F, e_t, e_f, e_gd, e_bg0, e_bg1, e_nz, Int.toNat_natCast, Int.toNat_add, Int.toNat_mul, xw_al, xw_ar, xw_ml, xw_mr, xw_sl, xw_sr, xw_id, x_sl_c, mc3, mc6, mc8, mc12, mc64, mc72, Nat.add_assoc, Int.reduceToNat, L_isLine_t, L_isLine_f, R_has_t, R_has_f, R_isCh_t, R_isCh_f, V_isCurve_t, V_isCurve_f, Q_isCue_t, Q_isCue_f, Q_isList_t, Q_isList_f, B_isPb_t, B_isPb_f, m_in_t, m_in_f, m_isLine_t, m_isLine_f, m_isPb_t, m_isPb_f, m_isFx_t, m_isFx_f, F_note_e, m_finds_e, Int.reduceToNat, noted_neg, up_eq, up_r, up_i, fil_in, fil_i, fil_r]
    exact this
  · have em : mem b 3 f = [f] := if_neg e
    rw [em]
    refine ⟨x_up (x_up (x_up (x_up g 1506 0 0) 1507 0 0) 74 0 f) 1506 0 1, ⟨fun r a1 a2 a3 a4 a5 => by rw [upR a4, upR a1, upR a5, upR a4], by simp (disch := omega) only [up_eq, up_r, up_i, fil_in, fil_i, fil_r]; rfl, by simp (disch := omega) only [up_eq, up_r, up_i, fil_in, fil_i, fil_r]; rfl, fun j hj => ?_⟩, fun Q hQ => ?_⟩
    · have : j = 0 := by simp at hj; omega
      subst this
      simp (disch := omega) only [up_eq, up_r, up_i, fil_in, fil_i, fil_r]
      rfl
    · refine eq_true ?_
      simp (disch := omega) only [w_m_gather, w_m_meet, w_m_kindOf, Int.reduceAdd, Int.zero_add, e_T, e_F, e_t, e_f, e_gd, e_bg0, e_bg1, e_nz, Int.toNat_natCast, Int.toNat_add, Int.toNat_mul, xw_al, xw_ar, xw_ml, xw_mr, xw_sl, xw_sr, xw_id, x_sl_c, mc3, mc6, mc8, mc12, mc64, mc72, Nat.add_assoc, Int.reduceToNat, L_isLine_t, L_isLine_f, R_has_t, R_has_f, R_isCh_t, R_isCh_f, V_isCurve_t, V_isCurve_f, Q_isCue_t, Q_isCue_f, Q_isList_t, Q_isList_f, B_isPb_t, B_isPb_f, m_in_t, m_in_f, m_isLine_t, m_isLine_f, m_isPb_t, m_isPb_f, m_isFx_t, m_isFx_f, F_note_e, m_finds_e, Int.reduceToNat, noted_neg, up_eq, up_r, up_i, fil_in, fil_i, fil_r]
      refine ⟨1, ?_⟩
      rw [w_m_gather_h15_s]
      simp (disch := omega) only [e_T, e_F, e_t, e_f, e_gd, e_bg0, e_bg1, e_nz, Int.toNat_natCast, Int.toNat_add, Int.toNat_mul, xw_al, xw_ar, xw_ml, xw_mr, xw_sl, xw_sr, xw_id, x_sl_c, mc3, mc6, mc8, mc12, mc64, mc72, Nat.add_assoc, Int.reduceToNat, L_isLine_t, L_isLine_f, R_has_t, R_has_f, R_isCh_t, R_isCh_f, V_isCurve_t, V_isCurve_f, Q_isCue_t, Q_isCue_f, Q_isList_t, Q_isList_f, B_isPb_t, B_isPb_f, m_in_t, m_in_f, m_isLine_t, m_isLine_f, m_isPb_t, m_isPb_f, m_isFx_t, m_isFx_f, F_note_e, m_finds_e, Int.reduceToNat, noted_neg, up_eq, up_r, up_i, fil_in, fil_i, fil_r]
      exact hQ
