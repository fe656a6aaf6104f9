/-! ===== a TICK: LINES are cooled ===== -/
theorem htR_set {b g : xB} {f c : Nat} {v : Int} (h : htR b g) (hf : f < 24) (hp : b 25 f ≠ -1) (hc : c < kChan (b 17 f)) (h0 : 0 ≤ v) (h1 : v ≤ b 45 (f * 3 + c)) : htR (x_up b 45 (f * 3 + c) v) (x_up g 78 (f * 3 + c) v) := by
  obtain ⟨a1, a2, a3, a4⟩ := h
  refine ⟨a1, fun f' c' hf' hp' hc' => ?_, a3, a4⟩
  have hk := kChan_le (b 17 f)
  have hk' := kChan_le (b 17 f')
  have hp' : b 25 f' ≠ -1 := hp'
  have hc' : c' < kChan (b 17 f') := hc'
  obtain ⟨v1, v2, v3, v4, v5⟩ := a2 f' c' hf' hp' hc'
  have ew : whV (x_up b 45 (f * 3 + c) v) f' c' = whV b f' c' := rfl
  rw [ew]
  by_cases e : f' = f ∧ c' = c
  · obtain ⟨rfl, rfl⟩ := e
    refine ⟨by simp (disch := omega) only [up_eq, up_r, up_i, fil_in, fil_i, fil_r], by simp (disch := omega) only [up_eq, up_r, up_i, fil_in, fil_i, fil_r]; exact h0, ?_, ?_, by simp (disch := omega) only [up_eq, up_r, up_i, fil_in, fil_i, fil_r]; exact v5⟩
    · simp (disch := omega) only [up_eq, up_r, up_i, fil_in, fil_i, fil_r]
      omega
    · simp (disch := omega) only [up_eq, up_r, up_i, fil_in, fil_i, fil_r]
      intro z
      have := v4 z
      omega
  · simp (disch := omega) only [up_eq, up_r, up_i, fil_in, fil_i, fil_r]
    exact ⟨v1, v2, v3, v4, v5⟩
theorem cut_in {f l : Nat} {lim : Int} (hf : f < 24) (hl : l < 4) (hlim : 0 ≤ lim) : ∀ (k : Nat) (a : Int) (b g : xB), k ≤ kChan (b 17 f) → htR b g → b 25 f = (l : Int) → b 14 l = lim → g 71 (264 + l) = lim → -200 ≤ a → a ≤ 20000 → ∃ (b' g' : xB) (a' : Int), htR b' g' ∧ (∀ r, r ≠ 45 → b' r = b r) ∧ (∀ r, r ≠ 78 → g' r = g r) ∧ -200 ≤ a' ∧ a' ≤ a ∧ (a ≤ lim → b' = b ∧ g' = g ∧ a' = a) ∧ (∀ (Q : Int → xB → Prop) (K : xB → Int → Int → Int → Prop) (v4 : Int), K b' l a' v4 → w_X_cut_h73 Q K (k + 1) b l a v4 f ((k : Int) - 1)) ∧ (∀ (Q : Int → xB → Prop) (K : xB → Int → Prop), K g' a' → w_m_cut_h6 Q K (k + 1) g f l a ((k : Int) - 1))
  | 0, a, b, g, hk, h, h25, h14, h264, a0, a1 => by
    refine ⟨b, g, a, h, fun _ _ => rfl, fun _ _ => rfl, a0, Int.le_refl _, fun _ => ⟨rfl, rfl, rfl⟩, fun Q K v4 hK => ?_, fun Q K hK => ?_⟩
    · rw [w_X_cut_h73_s, e_t (by omega)]
      exact hK
    · rw [w_m_cut_h6_s, e_t (by omega)]
      exact hK
  | k + 1, a, b, g, hk, h, h25, h14, h264, a0, a1 => by
    have hp : b 25 f ≠ -1 := by omega
    have hk3 := kChan_le (b 17 f)
    obtain ⟨k0, k3, hkk, h18, n0, n1, h21, -⟩ := h.1 f hf hp
    have kb := kHeat_bd (k := b 17 f) n0 n1
    obtain ⟨v1, v2, v3, v4, v5⟩ := h.2.1 f k hf hp (by omega)
    have ec : ((k + 1 : Nat) : Int) - 1 = (k : Int) := by omega
    have ech : (f : Int) * 3 + k = ((f * 3 + k : Nat) : Int) := by omega
    have ech2 : (3 : Int) * f + k = ((f * 3 + k : Nat) : Int) := by omega
    rw [ec]
    have mTop : ∀ (Q : Int → xB → Prop) (K : xB → Int → Prop), lim < a → (x_br (wmV b f k l = 0) (w_m_cut_h6 Q K (k + 1) g f l a (xw ((k : Int) + -1))) (w_m_heatOf g f (fun r3 g4 => x_gd (xw (xw (3 * (f : Int)) + k)) 72 (x_gd (xw (xw (3 * (f : Int)) + k)) 72 (∃ n, w_m_cut_h73 Q (fun g13 v1_7 v2_8 v4_9 v5_10 v6_11 v7_12 => w_m_cut_j115 Q (w_m_cut_h6 Q K (k + 1)) g13 v1_7 v2_8 v4_9 v5_10 v6_11 v7_12) n g4 f l a k (xw (Int.tdiv (xw (r3 * (g4 78 ((xw (xw (3 * (f : Int)) + k)).toNat)))) 255)) (g4 78 ((xw (xw (3 * (f : Int)) + k)).toNat))))))) → w_m_cut_h6 Q K (k + 1 + 1) g f l a k := by
      intro Q K hla hj
      rw [w_m_cut_h6_s, e_f (by omega), show xw (264 + (l : Int)) = ((264 + l : Nat) : Int) from (xw_id (by omega) (by omega)).trans (by omega), Int.toNat_natCast, e_gd (by omega) (by omega), h264, e_t hla, m_warm_e h hf (by omega) hl]
      exact hj
    by_cases hla : lim < a
    · by_cases hw : dimV (b 17 f) k = 1 ∧ b 46 (f * 3 + k) = 1
      · have hwm : wmV b f k l = 1 := wmV_1.mpr ⟨h25, by omega, hw⟩
        obtain ⟨n, hn⟩ := nat_of v2
        have hn255 : n ≤ 255 := by have := v4 hw.1; omega
        have hm := heat_mul (x := b 21 f) (y := (n : Int)) (by omega) (by omega) (by omega) (by omega)
        have hcl := cutL_le (hot := b 21 f) (lim := lim) (oth := a - (b 21 f * (n : Int)).tdiv 255) n
        have hm2 := heat_mul (x := b 21 f) (y := ((cutL (b 21 f) lim (a - (b 21 f * (n : Int)).tdiv 255) n : Nat) : Int)) (by omega) (by omega) (by omega) (by omega)
        have hmono : (b 21 f * ((cutL (b 21 f) lim (a - (b 21 f * (n : Int)).tdiv 255) n : Nat) : Int)).tdiv 255 ≤ (b 21 f * (n : Int)).tdiv 255 := Int.tdiv_le_tdiv (by decide) (Int.mul_le_mul_of_nonneg_left (by omega) (by omega))
        have h' := htR_set (v := ((cutL (b 21 f) lim (a - (b 21 f * (n : Int)).tdiv 255) n : Nat) : Int)) h hf hp (show k < kChan (b 17 f) by omega) (by omega) (by rw [hn]; omega)
        obtain ⟨b', g', a', z1, z2, z3, z4, z5, z6, z7, z8⟩ := cut_in hf hl hlim k (a - (b 21 f * (n : Int)).tdiv 255 + (b 21 f * ((cutL (b 21 f) lim (a - (b 21 f * (n : Int)).tdiv 255) n : Nat) : Int)).tdiv 255) (x_up b 45 (f * 3 + k) ((cutL (b 21 f) lim (a - (b 21 f * (n : Int)).tdiv 255) n : Nat) : Int)) (x_up g 78 (f * 3 + k) ((cutL (b 21 f) lim (a - (b 21 f * (n : Int)).tdiv 255) n : Nat) : Int)) (show k ≤ kChan (b 17 f) by omega) h' h25 h14 h264 (by omega) (by omega)
        have s78 : g 78 (f * 3 + k) = (n : Int) := by omega
        refine ⟨b', g', a', z1, fun r hr => (z2 r hr).trans (upR hr), fun r hr => (z3 r hr).trans (upR hr), z4, by omega, fun z => by omega, fun Q K v4' hK => ?_, fun Q K hK => mTop Q K hla ?_⟩
        · have z7 := z7 Q K v4' hK
          rw [w_X_cut_h73_s, e_f (by omega), e_gd (by omega) (by omega), Int.toNat_natCast, h14, e_t hla, R_dim_e hf k0 k3, hw.1, e_f (by decide), xw_al, xw_id (z := (f : Int) * 3 + k) (by omega) (by omega), ech, e_gd (by omega) (by omega), Int.toNat_natCast, e_f (by omega), e_gd (by omega) (by omega), h14]
          unfold w_X_cutChannel
          rw [e_gd (by omega) (by omega), Int.toNat_natCast, xw_al, xw_id (z := (f : Int) * 3 + k) (by omega) (by omega), ech, e_gd (by omega) (by omega), Int.toNat_natCast, hn, xw_id (z := b 21 f * (n : Int)) (by omega) (by omega), xw_id (z := (b 21 f * (n : Int)).tdiv 255) (by omega) (by omega), xw_id (z := a - (b 21 f * (n : Int)).tdiv 255) (by omega) (by omega)]
          refine ⟨n + 1, X_cutL (by omega) (by omega) (by omega) (by omega) n hn255 ?_⟩
          unfold w_X_cutChannel_j68
          rw [e_gd (by omega) (by omega), Int.toNat_natCast, xw_id (z := b 21 f * ((cutL (b 21 f) lim (a - (b 21 f * (n : Int)).tdiv 255) n : Nat) : Int)) (by omega) (by omega), xw_id (z := (b 21 f * ((cutL (b 21 f) lim (a - (b 21 f * (n : Int)).tdiv 255) n : Nat) : Int)).tdiv 255) (by omega) (by omega), xw_id (z := a - (b 21 f * (n : Int)).tdiv 255 + (b 21 f * ((cutL (b 21 f) lim (a - (b 21 f * (n : Int)).tdiv 255) n : Nat) : Int)).tdiv 255) (by omega) (by omega), xw_id (by omega) (by omega), show (k : Int) + -1 = (k : Int) - 1 by omega]
          exact z7
        · have z8 := z8 Q K hK
          rw [hwm, e_f (by decide), m_heatOf_e h hf hp, xw_al, xw_id (z := 3 * (f : Int) + k) (by omega) (by omega), ech2, e_gd (by omega) (by omega), e_gd (by omega) (by omega), Int.toNat_natCast, s78, xw_id (z := b 21 f * (n : Int)) (by omega) (by omega), xw_id (z := (b 21 f * (n : Int)).tdiv 255) (by omega) (by omega)]
          refine ⟨n + 1, m_cutL h hf hp hl (by omega) (by omega) n hn255 ?_⟩
          rw [h264]
          unfold w_m_cut_j115
          rw [xw_al, xw_id (z := 3 * (f : Int) + k) (by omega) (by omega), ech2, e_gd (by omega) (by omega), Int.toNat_natCast, m_heatOf_e h' hf hp]
          show w_m_cut_h6 Q K (k + 1) _ f l (xw (a + xw (xw (Int.tdiv (xw (b 21 f * _)) 255) - _))) (xw ((k : Int) + -1))
          rw [xw_id (z := b 21 f * ((cutL (b 21 f) lim (a - (b 21 f * (n : Int)).tdiv 255) n : Nat) : Int)) (by omega) (by omega), xw_id (z := (b 21 f * ((cutL (b 21 f) lim (a - (b 21 f * (n : Int)).tdiv 255) n : Nat) : Int)).tdiv 255) (by omega) (by omega), xw_id (z := (b 21 f * ((cutL (b 21 f) lim (a - (b 21 f * (n : Int)).tdiv 255) n : Nat) : Int)).tdiv 255 - (b 21 f * (n : Int)).tdiv 255) (by omega) (by omega), xw_id (z := a + ((b 21 f * ((cutL (b 21 f) lim (a - (b 21 f * (n : Int)).tdiv 255) n : Nat) : Int)).tdiv 255 - (b 21 f * (n : Int)).tdiv 255)) (by omega) (by omega), xw_id (by omega) (by omega), show (k : Int) + -1 = (k : Int) - 1 by omega, show a + ((b 21 f * ((cutL (b 21 f) lim (a - (b 21 f * (n : Int)).tdiv 255) n : Nat) : Int)).tdiv 255 - (b 21 f * (n : Int)).tdiv 255) = a - (b 21 f * (n : Int)).tdiv 255 + (b 21 f * ((cutL (b 21 f) lim (a - (b 21 f * (n : Int)).tdiv 255) n : Nat) : Int)).tdiv 255 by omega]
          exact z8
      · have hwm : wmV b f k l = 0 := (wmV_01 b f k l).resolve_right (fun z => hw (wmV_1.mp z).2.2)
        obtain ⟨b', g', a', z1, z2, z3, z4, z5, z6, z7, z8⟩ := cut_in hf hl hlim k a b g (by omega) h h25 h14 h264 a0 a1
        refine ⟨b', g', a', z1, z2, z3, z4, z5, fun z => by omega, fun Q K v4' hK => ?_, fun Q K hK => mTop Q K hla ?_⟩
        · have z7 := z7 Q K v4' hK
          rw [w_X_cut_h73_s, e_f (by omega), e_gd (by omega) (by omega), Int.toNat_natCast, h14, e_t hla, R_dim_e hf k0 k3]
          rcases dimV_01 (b 17 f) k with z | z
          · rw [z, e_t rfl, xw_id (by omega) (by omega), show (k : Int) + -1 = (k : Int) - 1 by omega]
            exact z7
          · have w01 := whV_01 b f k
            rw [z, e_f (by decide), xw_al, xw_id (z := (f : Int) * 3 + k) (by omega) (by omega), ech, e_gd (by omega) (by omega), Int.toNat_natCast, e_t (by omega), xw_id (by omega) (by omega), show (k : Int) + -1 = (k : Int) - 1 by omega]
            exact z7
        · have z8 := z8 Q K hK
          rw [hwm, e_t rfl, xw_id (by omega) (by omega), show (k : Int) + -1 = (k : Int) - 1 by omega]
          exact z8
    · refine ⟨b, g, a, h, fun _ _ => rfl, fun _ _ => rfl, a0, Int.le_refl _, fun _ => ⟨rfl, rfl, rfl⟩, fun Q K v4' hK => ?_, fun Q K hK => ?_⟩
      · rw [w_X_cut_h73_s, e_f (by omega), e_gd (by omega) (by omega), Int.toNat_natCast, h14, e_f hla]
        exact hK
      · rw [w_m_cut_h6_s, e_f (by omega), show xw (264 + (l : Int)) = ((264 + l : Nat) : Int) from (xw_id (by omega) (by omega)).trans (by omega), Int.toNat_natCast, e_gd (by omega) (by omega), h264, e_f hla]
        exact hK
/-- the model goes on over what is no channel there -/
theorem m_cut_skip {b g : xB} {f l kc : Nat} {a lim : Int} (h : htR b g) (hf : f < 24) (hl : l < 4) (h264 : g 71 (264 + l) = lim) (hw : ∀ c, kc ≤ c → c < 3 → wmV b f c l = 0) {Q : Int → xB → Prop} {K : xB → Int → Prop} (hlo : a ≤ lim → K g a) (hb : ∃ n, w_m_cut_h6 Q K n g f l a ((kc : Int) - 1)) : ∀ m : Nat, kc + m ≤ 3 → ∃ n, w_m_cut_h6 Q K n g f l a (((kc + m : Nat) : Int) - 1)
  | 0, _ => hb
  | m + 1, hm => by
    obtain ⟨n, ih⟩ := m_cut_skip h hf hl h264 hw (Q := Q) hlo hb m (by omega)
    refine ⟨n + 1, ?_⟩
    rw [w_m_cut_h6_s, e_f (by omega), show xw (264 + (l : Int)) = ((264 + l : Nat) : Int) from (xw_id (by omega) (by omega)).trans (by omega), Int.toNat_natCast, e_gd (by omega) (by omega), h264, show ((kc + (m + 1) : Nat) : Int) - 1 = ((kc + m : Nat) : Int) by omega]
    by_cases hla : lim < a
    · rw [e_t hla, m_warm_e h hf (by omega) hl, hw (kc + m) (by omega) (by omega), e_t rfl, xw_id (by omega) (by omega), show ((kc + m : Nat) : Int) + -1 = ((kc + m : Nat) : Int) - 1 by omega]
      exact ih
    · rw [e_f hla]
      exact hlo (by omega)
