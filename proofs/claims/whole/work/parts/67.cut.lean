/-! ===== a TICK: the model's sum, the order of patching, one cut ===== -/
theorem sumN_ext {φ ψ : Nat → Int} {k : Nat} : ∀ n, k ≤ n → (∀ i, i < k → φ i = ψ i) → (∀ i, k ≤ i → i < n → φ i = 0) → sumN φ n = sumN ψ k
  | 0, h, _, _ => by rw [show k = 0 by omega]; rfl
  | n + 1, h, h1, h2 => by
    by_cases e : k = n + 1
    · subst e
      exact sumN_c _ h1
    · show sumN φ n + φ n = _
      rw [sumN_ext n (by omega) h1 (fun i a b => h2 i a (by omega)), h2 n (by omega) (by omega)]
      omega
def mC (b : xB) (l f c : Nat) : Int := if wmV b f c l = 1 then (b 21 f * b 45 (f * 3 + c)).tdiv 255 else 0
def htN (b : xB) (l f : Nat) : Int := if b 25 f = (l : Int) then htF b f else 0
theorem wmV_1 {b : xB} {f c l : Nat} : wmV b f c l = 1 ↔ (b 25 f = (l : Int) ∧ c < kChan (b 17 f) ∧ dimV (b 17 f) c = 1 ∧ b 46 (f * 3 + c) = 1) := by
  unfold wmV
  constructor
  · intro h
    split at h
    · assumption
    · omega
  · intro h
    rw [if_pos h]
theorem wmV_01 (b : xB) (f c l : Nat) : wmV b f c l = 0 ∨ wmV b f c l = 1 := by
  unfold wmV
  split <;> omega
theorem mC_sum (b : xB) (l f : Nat) : sumN (mC b l f) 3 = htN b l f := by
  have hk := kChan_le (b 17 f)
  unfold htN
  by_cases e : b 25 f = (l : Int)
  · rw [if_pos e]
    refine sumN_ext 3 hk (fun c hc => ?_) (fun c hc _ => ?_)
    · unfold mC htC
      by_cases z : dimV (b 17 f) c = 1 ∧ b 46 (f * 3 + c) = 1
      · rw [if_pos z, if_pos (wmV_1.mpr ⟨e, hc, z⟩)]
      · rw [if_neg z, if_neg (fun w => z (wmV_1.mp w).2.2)]
    · unfold mC
      rw [if_neg (fun w => by have := (wmV_1.mp w).2.1; omega)]
  · rw [if_neg e]
    refine (sumN_c (ψ := fun _ => 0) 3 (fun c _ => ?_)).trans (sumN_0 3)
    unfold mC
    rw [if_neg (fun w => e (wmV_1.mp w).1)]
theorem mC_bd {b g : xB} {l f c : Nat} (h : htR b g) (hf : f < 24) : 0 ≤ mC b l f c ∧ mC b l f c ≤ 200 := by
  unfold mC
  split
  · rename_i e
    obtain ⟨e1, e2, e3, e4⟩ := wmV_1.mp e
    by_cases hp : b 25 f = -1
    · omega
    · have := htC_bd h hf hp e2
      unfold htC at this
      rw [if_pos ⟨e3, e4⟩] at this
      exact this
  · omega
theorem m_sum_in {b g : xB} {f l : Nat} (h : htR b g) (hf : f < 24) (hl : l < 4) {Q : xB → Prop} {K : xB → Int → Int → Int → Prop} {a : Int} (ha : 0 ≤ a) (ha' : a ≤ 1000000) (hK : K g l (a + htN b l f) f) : ∀ (k c : Nat), c + k = 3 → w_m_warm_h19 Q K (k + 1) g l (a + sumN (mC b l f) c) f c
  | 0, c, hc => by
    have : c = 3 := by omega
    subst this
    rw [w_m_warm_h19_s, e_f (by omega), mC_sum]
    exact hK
  | k + 1, c, hc => by
    have ih := m_sum_in h hf hl (Q := Q) ha ha' hK k (c + 1) (by omega)
    have sb := sumN_bd (φ := mC b l f) (B := 200) c (fun c' _ => mC_bd h hf)
    have mb := mC_bd (l := l) (c := c) h hf
    have hs : sumN (mC b l f) (c + 1) = sumN (mC b l f) c + mC b l f c := rfl
    rw [hs] at ih
    have ec : (c : Int) + 1 = ((c + 1 : Nat) : Int) := by omega
    have ech : (3 : Int) * f + c = ((f * 3 + c : Nat) : Int) := by omega
    rw [w_m_warm_h19_s, e_t (by omega), m_warm_e h hf (by omega) hl]
    rcases wmV_01 b f c l with z | z
    · have hz : mC b l f c = 0 := if_neg (by omega)
      rw [hz, Int.add_zero] at ih
      rw [z, e_t rfl]
      unfold w_m_warm_j62
      rw [Int.add_zero, xw_id (by omega) (by omega), xw_id (by omega) (by omega), ec]
      exact ih
    · obtain ⟨e1, e2, e3, e4⟩ := wmV_1.mp z
      have hp : b 25 f ≠ -1 := by omega
      obtain ⟨v1, v2, v3, v4, v5⟩ := h.2.1 f c hf hp e2
      obtain ⟨k0, k3, hk, h18, n0, n1, h21, -⟩ := h.1 f hf hp
      have kb := kHeat_bd (k := b 17 f) n0 n1
      have hm := heat_mul (x := b 21 f) (y := b 45 (f * 3 + c)) (by omega) (by omega) v2 (v4 e3)
      have hz : mC b l f c = (b 21 f * b 45 (f * 3 + c)).tdiv 255 := if_pos z
      rw [z, e_f (by decide), m_heatOf_e h hf hp, xw_al, xw_id (z := 3 * (f : Int) + c) (by omega) (by omega), ech, e_gd (by omega) (by omega), Int.toNat_natCast, ← v1, xw_id (z := b 21 f * b 45 (f * 3 + c)) (by omega) (by omega), xw_id (z := (b 21 f * b 45 (f * 3 + c)).tdiv 255) (by omega) (by omega), ← hz]
      unfold w_m_warm_j62
      rw [xw_id (z := a + sumN (mC b l f) c + mC b l f c) (by omega) (by omega), xw_id (by omega) (by omega), ec, Int.add_assoc]
      exact ih
theorem htN_bd {b g : xB} {l f : Nat} (h : htR b g) (hf : f < 24) : 0 ≤ htN b l f ∧ htN b l f ≤ 600 := by
  unfold htN
  split
  · rename_i e
    exact htF_bd h hf (by omega)
  · omega
theorem m_sum_A {b g : xB} {l N : Nat} (h : htR b g) (hl : l < 4) (hN : g 71 276 = (N : Int)) (hN24 : N ≤ 24) {Q : xB → Prop} {K : xB → Int → Int → Prop} (hK : K g l (sumN (htN b l) N)) : ∀ (k f : Nat), f + k = N → w_m_warm_h4 Q K (k + 1) g l (sumN (htN b l) f) f
  | 0, f, hf => by
    have : f = N := by omega
    subst this
    rw [w_m_warm_h4_s, e_f (by omega)]
    exact hK
  | k + 1, f, hf => by
    have ih := m_sum_A h hl hN hN24 (Q := Q) hK k (f + 1) (by omega)
    have sb := sumN_bd (φ := htN b l) (B := 600) f (fun f' hf' => htN_bd h (by omega))
    have hs : sumN (htN b l) (f + 1) = sumN (htN b l) f + htN b l f := rfl
    rw [hs] at ih
    rw [w_m_warm_h4_s, e_t (by omega)]
    refine ⟨3 + 1, ?_⟩
    have := m_sum_in (f := f) (l := l) (a := sumN (htN b l) f) h (by omega) hl (Q := Q) (K := fun g8 v1_5 v2_6 v3_7 => w_m_warm_h4 Q K (k + 1) g8 v1_5 v2_6 (xw (v3_7 + 1))) sb.1 (by omega) (by
      rw [xw_id (by omega) (by omega), show (f : Int) + 1 = ((f + 1 : Nat) : Int) by omega]
      exact ih) 3 0 (by omega)
    rw [show sumN (mC b l f) 0 = 0 from rfl, Int.add_zero] at this
    exact this
/-! the order of patching -/
def bOK (o : Nat → Nat) (k f : Nat) (v : Int) : Prop := (v = -1 ∧ ∀ i, i < k → f ≤ o i) ∨ (∃ j, j < k ∧ v = (o j : Int) ∧ o j < f ∧ ∀ i, i < k → o i < f → i ≤ j)
/-- s: the order is that of s's numbers, all patched FIXTURES lie in it -/
def oOK (s : Nat → Int) (o : Nat → Nat) (C N : Nat) : Prop := N ≤ 24 ∧ s 276 = (N : Int) ∧ (∀ i, i < C → o i < N ∧ s (326 + o i) ≠ -1) ∧ (∀ i j, i < j → j < C → s (374 + o i) < s (374 + o j)) ∧ (∀ f, f < N → s (326 + f) ≠ -1 → ∃ i, i < C ∧ o i = f)
theorem pB_k {g : xB} {o : Nat → Nat} {C N k : Nat} {x : Int} (h : oOK (g 71) o C N) (hk : k ≤ C) (hx : ∀ i, i < C → (g 71 (374 + o i) < x ↔ i < k)) : ∀ (m f : Nat) (v : Int), f + m = N → bOK o k f v → ∃ r, bOK o k N r ∧ ∀ (Q : Int → xB → Prop) (K : xB → Int → Prop), K g r → w_m_patchedBefore_h4 Q K (m + 1) g x v f
  | 0, f, v, hf, hv => by
    have : f = N := by omega
    subst this
    obtain ⟨h1, h2, h3, h4, h5⟩ := h
    refine ⟨v, hv, fun Q K hK => ?_⟩
    rw [w_m_patchedBefore_h4_s, e_f (by omega)]
    exact hK
  | m + 1, f, v, hf, hv => by
    have hh := h
    obtain ⟨h1, h2, h3, h4, h5⟩ := hh
    have ef : (f : Int) + 1 = ((f + 1 : Nat) : Int) := by omega
    have skip : (∀ i, i < k → o i ≠ f) → bOK o k (f + 1) v := by
      intro hn
      rcases hv with ⟨v1, v2⟩ | ⟨j, v1, v2, v3, v4⟩
      · exact Or.inl ⟨v1, fun i hi => by have := v2 i hi; have := hn i hi; omega⟩
      · exact Or.inr ⟨j, v1, v2, by omega, fun i hi hlt => v4 i hi (by have := hn i hi; omega)⟩
    by_cases hp : g 71 (326 + f) = -1
    · obtain ⟨r, r1, r2⟩ := pB_k h hk hx m (f + 1) v (by omega) (skip (fun i hi z => (h3 i (by omega)).2 (by rw [z]; exact hp)))
      refine ⟨r, r1, fun Q K hK => ?_⟩
      have r2 := r2 Q K hK
      rw [w_m_patchedBefore_h4_s]
      simp (disch := omega) only [w_m_patchedBefore_j48, w_m_patchedBefore_j49, w_m_patchedBefore_j88, w_m_patchedBefore_j89, e_T, e_F, e_t, e_f, e_gd, e_bg0, e_bg1, e_nz, Int.toNat_natCast, Int.toNat_add, Int.toNat_mul, xw_al, xw_ar, xw_ml, xw_mr, xw_sl, xw_sr, xw_id, x_sl_c, mc3, mc6, mc8, mc12, mc64, mc72, Nat.add_assoc, Int.reduceToNat, L_isLine_t, L_isLine_f, R_has_t, R_has_f, R_isCh_t, R_isCh_f, V_isCurve_t, V_isCurve_f, Q_isCue_t, Q_isCue_f, Q_isList_t, Q_isList_f, B_isPb_t, B_isPb_f, m_in_t, m_in_f, m_isLine_t, m_isLine_f, m_isPb_t, m_isPb_f, m_isFx_t, m_isFx_f, F_note_e, m_finds_e, Int.reduceToNat, noted_neg, up_eq, up_r, up_i, fil_in, fil_i, fil_r]
      rw [ef]
      exact r2
    · obtain ⟨i, hi, ei⟩ := h5 f (by omega) hp
      have hxi := hx i hi
      rw [ei] at hxi
      by_cases hik : i < k
      · have hlt := hxi.mpr hik
        rcases hv with ⟨v1, v2⟩ | ⟨j, v1, v2, v3, v4⟩
        · obtain ⟨r, r1, r2⟩ := pB_k h hk hx m (f + 1) f (by omega) (Or.inr ⟨i, hik, by rw [ei], by omega, fun i' hi' hl => by
            have := v2 i' hi'
            have e : o i' = f := by omega
            rcases Nat.lt_trichotomy i' i with z | z | z
            · omega
            · omega
            · have := h4 i i' z (by omega)
              rw [e, ei] at this
              omega⟩)
          refine ⟨r, r1, fun Q K hK => ?_⟩
          have r2 := r2 Q K hK
          rw [w_m_patchedBefore_h4_s]
          simp (disch := omega) only [w_m_patchedBefore_j49, w_m_patchedBefore_j84, w_m_patchedBefore_j89, e_T, e_F, e_t, e_f, e_gd, e_bg0, e_bg1, e_nz, Int.toNat_natCast, Int.toNat_add, Int.toNat_mul, xw_al, xw_ar, xw_ml, xw_mr, xw_sl, xw_sr, xw_id, x_sl_c, mc3, mc6, mc8, mc12, mc64, mc72, Nat.add_assoc, Int.reduceToNat, L_isLine_t, L_isLine_f, R_has_t, R_has_f, R_isCh_t, R_isCh_f, V_isCurve_t, V_isCurve_f, Q_isCue_t, Q_isCue_f, Q_isList_t, Q_isList_f, B_isPb_t, B_isPb_f, m_in_t, m_in_f, m_isLine_t, m_isLine_f, m_isPb_t, m_isPb_f, m_isFx_t, m_isFx_f, F_note_e, m_finds_e, Int.reduceToNat, noted_neg, up_eq, up_r, up_i, fil_in, fil_i, fil_r]
          rw [ef]
          exact r2
        · by_cases hji : j < i
          · have ho := h4 j i hji hi
            rw [ei] at ho
            obtain ⟨r, r1, r2⟩ := pB_k h hk hx m (f + 1) f (by omega) (Or.inr ⟨i, hik, by rw [ei], by omega, fun i' hi' hl => by
              by_cases e : o i' = f
              · rcases Nat.lt_trichotomy i' i with z | z | z
                · omega
                · omega
                · have := h4 i i' z (by omega)
                  rw [e, ei] at this
                  omega
              · have := v4 i' hi' (by omega)
                omega⟩)
            refine ⟨r, r1, fun Q K hK => ?_⟩
            have r2 := r2 Q K hK
            have hj24 := (h3 j (by omega)).1
            rw [w_m_patchedBefore_h4_s, v2]
            simp (disch := omega) only [w_m_patchedBefore_j49, w_m_patchedBefore_j84, w_m_patchedBefore_j89, e_T, e_F, e_t, e_f, e_gd, e_bg0, e_bg1, e_nz, Int.toNat_natCast, Int.toNat_add, Int.toNat_mul, xw_al, xw_ar, xw_ml, xw_mr, xw_sl, xw_sr, xw_id, x_sl_c, mc3, mc6, mc8, mc12, mc64, mc72, Nat.add_assoc, Int.reduceToNat, L_isLine_t, L_isLine_f, R_has_t, R_has_f, R_isCh_t, R_isCh_f, V_isCurve_t, V_isCurve_f, Q_isCue_t, Q_isCue_f, Q_isList_t, Q_isList_f, B_isPb_t, B_isPb_f, m_in_t, m_in_f, m_isLine_t, m_isLine_f, m_isPb_t, m_isPb_f, m_isFx_t, m_isFx_f, F_note_e, m_finds_e, Int.reduceToNat, noted_neg, up_eq, up_r, up_i, fil_in, fil_i, fil_r]
            rw [ef]
            exact r2
          · have hne : j ≠ i := fun z => by rw [z, ei] at v3; omega
            have ho := h4 i j (by omega) (by omega)
            rw [ei] at ho
            obtain ⟨r, r1, r2⟩ := pB_k h hk hx m (f + 1) v (by omega) (Or.inr ⟨j, v1, v2, by omega, fun i' hi' hl => by
              by_cases e : o i' = f
              · rcases Nat.lt_trichotomy i' i with z | z | z
                · omega
                · omega
                · have := h4 i i' z (by omega)
                  rw [e, ei] at this
                  omega
              · exact v4 i' hi' (by omega)⟩)
            refine ⟨r, r1, fun Q K hK => ?_⟩
            have r2 := r2 Q K hK
            have hj24 := (h3 j (by omega)).1
            rw [v2] at r2
            rw [w_m_patchedBefore_h4_s, v2]
            simp (disch := omega) only [w_m_patchedBefore_j49, w_m_patchedBefore_j88, w_m_patchedBefore_j89, e_T, e_F, e_t, e_f, e_gd, e_bg0, e_bg1, e_nz, Int.toNat_natCast, Int.toNat_add, Int.toNat_mul, xw_al, xw_ar, xw_ml, xw_mr, xw_sl, xw_sr, xw_id, x_sl_c, mc3, mc6, mc8, mc12, mc64, mc72, Nat.add_assoc, Int.reduceToNat, L_isLine_t, L_isLine_f, R_has_t, R_has_f, R_isCh_t, R_isCh_f, V_isCurve_t, V_isCurve_f, Q_isCue_t, Q_isCue_f, Q_isList_t, Q_isList_f, B_isPb_t, B_isPb_f, m_in_t, m_in_f, m_isLine_t, m_isLine_f, m_isPb_t, m_isPb_f, m_isFx_t, m_isFx_f, F_note_e, m_finds_e, Int.reduceToNat, noted_neg, up_eq, up_r, up_i, fil_in, fil_i, fil_r]
            rw [ef]
            exact r2
      · have hnlt : ¬ g 71 (374 + f) < x := fun z => hik (hxi.mp z)
        obtain ⟨r, r1, r2⟩ := pB_k h hk hx m (f + 1) v (by omega) (skip (fun i' hi' z => by
          rcases Nat.lt_trichotomy i' i with y | y | y
          · have := h4 i' i y hi
            rw [z, ei] at this
            omega
          · omega
          · omega))
        refine ⟨r, r1, fun Q K hK => ?_⟩
        have r2 := r2 Q K hK
        rw [w_m_patchedBefore_h4_s]
        simp (disch := omega) only [w_m_patchedBefore_j48, w_m_patchedBefore_j49, w_m_patchedBefore_j88, w_m_patchedBefore_j89, e_T, e_F, e_t, e_f, e_gd, e_bg0, e_bg1, e_nz, Int.toNat_natCast, Int.toNat_add, Int.toNat_mul, xw_al, xw_ar, xw_ml, xw_mr, xw_sl, xw_sr, xw_id, x_sl_c, mc3, mc6, mc8, mc12, mc64, mc72, Nat.add_assoc, Int.reduceToNat, L_isLine_t, L_isLine_f, R_has_t, R_has_f, R_isCh_t, R_isCh_f, V_isCurve_t, V_isCurve_f, Q_isCue_t, Q_isCue_f, Q_isList_t, Q_isList_f, B_isPb_t, B_isPb_f, m_in_t, m_in_f, m_isLine_t, m_isLine_f, m_isPb_t, m_isPb_f, m_isFx_t, m_isFx_f, F_note_e, m_finds_e, Int.reduceToNat, noted_neg, up_eq, up_r, up_i, fil_in, fil_i, fil_r]
        rw [ef]
        exact r2
/-- the FIXTURE at place k - 1 of the order, or none -/
def oAt (o : Nat → Nat) (k : Nat) : Int := if k = 0 then -1 else (o (k - 1) : Int)
theorem pB_A {g : xB} {o : Nat → Nat} {C N k : Nat} {x : Int} (h : oOK (g 71) o C N) (hk : k ≤ C) (hx : ∀ i, i < C → (g 71 (374 + o i) < x ↔ i < k)) {Q : Int → xB → Prop} (hQ : Q (oAt o k) g) : w_m_patchedBefore g x Q := by
  obtain ⟨r, r1, r2⟩ := pB_k h hk hx N 0 (-1) (by omega) (Or.inl ⟨rfl, fun _ _ => Nat.zero_le _⟩)
  have e : r = oAt o k := by
    unfold oAt
    rcases r1 with ⟨v1, v2⟩ | ⟨j, v1, v2, v3, v4⟩
    · by_cases hz : k = 0
      · rw [if_pos hz]
        exact v1
      · have := v2 0 (by omega)
        have := (h.2.2.1 0 (by omega)).1
        omega
    · rw [if_neg (by omega), v2]
      have := v4 (k - 1) (by omega) (h.2.2.1 (k - 1) (by omega)).1
      rw [show j = k - 1 by omega]
  refine ⟨N + 1, r2 Q _ ?_⟩
  rw [e]
  exact hQ
/-! one cut -/
def cutL (hot lim oth : Int) : Nat → Nat
  | 0 => 0
  | n + 1 => if lim < oth + (hot * ((n + 1 : Nat) : Int)).tdiv 255 then cutL hot lim oth n else n + 1
theorem cutL_le {hot lim oth : Int} : ∀ n, cutL hot lim oth n ≤ n
  | 0 => Nat.le_refl 0
  | n + 1 => by
    show (if lim < oth + (hot * ((n + 1 : Nat) : Int)).tdiv 255 then cutL hot lim oth n else n + 1) ≤ n + 1
    have := cutL_le (hot := hot) (lim := lim) (oth := oth) n
    split <;> omega
theorem X_cutL {b : xB} {hot lim oth ch : Int} (h0 : 0 ≤ hot) (h1 : hot ≤ 200) (o0 : -1000 ≤ oth) (o1 : oth ≤ 100000) {Q : Int → xB → Prop} {K : xB → Int → Int → Int → Int → Prop} : ∀ n : Nat, n ≤ 255 → K b ch hot (cutL hot lim oth n) oth → w_X_cutChannel_h41 Q K (n + 1) b lim ch hot n oth
  | 0, hn, hK => by
    rw [w_X_cutChannel_h41_s, e_f (by omega)]
    exact hK
  | n + 1, hn, hK => by
    have hm := heat_mul (x := hot) (y := ((n + 1 : Nat) : Int)) h0 h1 (by omega) (by omega)
    rw [w_X_cutChannel_h41_s, e_t (by omega), xw_id (z := hot * ((n + 1 : Nat) : Int)) (by omega) (by omega), xw_id (z := (hot * ((n + 1 : Nat) : Int)).tdiv 255) (by omega) (by omega), xw_id (z := oth + (hot * ((n + 1 : Nat) : Int)).tdiv 255) (by omega) (by omega)]
    have hc : cutL hot lim oth (n + 1) = if lim < oth + (hot * ((n + 1 : Nat) : Int)).tdiv 255 then cutL hot lim oth n else n + 1 := rfl
    by_cases e : lim < oth + (hot * ((n + 1 : Nat) : Int)).tdiv 255
    · rw [hc, if_pos e] at hK
      rw [e_t e, xw_id (by omega) (by omega), show ((n + 1 : Nat) : Int) + -1 = (n : Int) by omega]
      exact X_cutL h0 h1 o0 o1 n (by omega) hK
    · rw [hc, if_neg e] at hK
      rw [e_f e]
      exact hK
theorem m_cutL {b g : xB} {f l c : Nat} {a had : Int} (h : htR b g) (hf : f < 24) (hp : b 25 f ≠ -1) (hl : l < 4) (o0 : -1000 ≤ a - had) (o1 : a - had ≤ 100000) {Q : Int → xB → Prop} {K : xB → Int → Int → Int → Int → Int → Int → Prop} : ∀ n : Nat, n ≤ 255 → K g f l a c had (cutL (b 21 f) (g 71 (264 + l)) (a - had) n) → w_m_cut_h73 Q K (n + 1) g f l a c had n
  | 0, hn, hK => by
    rw [w_m_cut_h73_s, e_f (by omega)]
    exact hK
  | n + 1, hn, hK => by
    obtain ⟨k0, k3, hk, h18, n0, n1, h21, -⟩ := h.1 f hf hp
    have kb := kHeat_bd (k := b 17 f) n0 n1
    have hm := heat_mul (x := b 21 f) (y := ((n + 1 : Nat) : Int)) (by omega) (by omega) (by omega) (by omega)
    rw [w_m_cut_h73_s, e_t (by omega), m_heatOf_e h hf hp, show xw (264 + (l : Int)) = ((264 + l : Nat) : Int) from (xw_id (by omega) (by omega)).trans (by omega), Int.toNat_natCast, e_gd (by omega) (by omega), xw_id (z := b 21 f * ((n + 1 : Nat) : Int)) (by omega) (by omega), xw_id (z := (b 21 f * ((n + 1 : Nat) : Int)).tdiv 255) (by omega) (by omega), xw_id (z := a - had) (by omega) (by omega), xw_id (z := a - had + (b 21 f * ((n + 1 : Nat) : Int)).tdiv 255) (by omega) (by omega)]
    have hc : cutL (b 21 f) (g 71 (264 + l)) (a - had) (n + 1) = if g 71 (264 + l) < a - had + (b 21 f * ((n + 1 : Nat) : Int)).tdiv 255 then cutL (b 21 f) (g 71 (264 + l)) (a - had) n else n + 1 := rfl
    by_cases e : g 71 (264 + l) < a - had + (b 21 f * ((n + 1 : Nat) : Int)).tdiv 255
    · rw [hc, if_pos e] at hK
      rw [e_t e, xw_id (by omega) (by omega), show ((n + 1 : Nat) : Int) + -1 = (n : Int) by omega]
      exact m_cutL h hf hp hl o0 o1 n (by omega) hK
    · rw [hc, if_neg e] at hK
      rw [e_f e]
      exact hK
