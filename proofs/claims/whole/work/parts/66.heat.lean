/-! ===== a TICK: HEAT of a LINE ===== -/
def sumN (φ : Nat → Int) : Nat → Int
  | 0 => 0
  | n + 1 => sumN φ n + φ n
theorem sumN_c {φ ψ : Nat → Int} : ∀ n, (∀ i, i < n → φ i = ψ i) → sumN φ n = sumN ψ n
  | 0, _ => rfl
  | n + 1, h => by
    show sumN φ n + φ n = sumN ψ n + ψ n
    rw [sumN_c n (fun i hi => h i (by omega)), h n (by omega)]
theorem sumN_0 : ∀ n, sumN (fun _ => 0) n = 0
  | 0 => rfl
  | n + 1 => by
    show sumN _ n + 0 = 0
    rw [sumN_0 n]
    rfl
theorem sumN_one {φ : Nat → Int} {a : Nat} {x : Int} {ψ : Nat → Int} : ∀ n, a < n → (∀ i, i < n → i ≠ a → ψ i = φ i) → ψ a = φ a + x → sumN ψ n = sumN φ n + x
  | 0, h, _, _ => absurd h (Nat.not_lt_zero a)
  | n + 1, h, h1, h2 => by
    show sumN ψ n + ψ n = sumN φ n + φ n + x
    by_cases e : a = n
    · subst e
      rw [sumN_c a (fun i hi => h1 i (by omega) (by omega)), h2]
      omega
    · rw [sumN_one n (by omega) (fun i hi hne => h1 i (by omega) hne) h2, h1 n (by omega) (fun z => e z.symm)]
      omega
theorem sumN_bd {φ : Nat → Int} {B : Int} : ∀ n, (∀ i, i < n → 0 ≤ φ i ∧ φ i ≤ B) → 0 ≤ sumN φ n ∧ sumN φ n ≤ n * B
  | 0, _ => by
    show 0 ≤ (0 : Int) ∧ (0 : Int) ≤ ((0 : Nat) : Int) * B
    rw [show ((0 : Nat) : Int) * B = 0 from Int.zero_mul B]
    exact ⟨Int.le_refl _, Int.le_refl _⟩
  | n + 1, h => by
    have ih := sumN_bd n (fun i hi => h i (by omega))
    have hn := h n (by omega)
    show 0 ≤ sumN φ n + φ n ∧ sumN φ n + φ n ≤ ((n + 1 : Nat) : Int) * B
    rw [show ((n + 1 : Nat) : Int) = (n : Int) + 1 by omega, Int.add_mul, Int.one_mul]
    omega
/-- a sum along an order without a repeat, and the sum over what the order has -/
theorem sum_perm {φ : Nat → Int} {o : Nat → Nat} {N : Nat} : ∀ (C : Nat) (ψ : Nat → Int), (∀ i, i < C → o i < N) → (∀ i j, i < j → j < C → o i ≠ o j) → (∀ i, i < C → ψ (o i) = φ (o i)) → (∀ f, f < N → (∀ i, i < C → o i ≠ f) → ψ f = 0) → sumN (fun i => φ (o i)) C = sumN ψ N
  | 0, ψ, _, _, _, h4 => by
    rw [sumN_c (ψ := fun _ => 0) N (fun f hf => h4 f hf (fun i hi => absurd hi (Nat.not_lt_zero i))), sumN_0]
    rfl
  | C + 1, ψ, h1, h2, h3, h4 => by
    have ih := sum_perm (φ := φ) (o := o) (N := N) C (fun f => if f = o C then 0 else ψ f) (fun i hi => h1 i (by omega)) (fun i j hi hj => h2 i j hi (by omega)) (fun i hi => by
      have := h2 i C hi (by omega)
      show (if o i = o C then 0 else ψ (o i)) = φ (o i)
      rw [if_neg this]
      exact h3 i (by omega)) (fun f hf hn => by
      show (if f = o C then 0 else ψ f) = 0
      by_cases e : f = o C
      · rw [if_pos e]
      · rw [if_neg e]
        refine h4 f hf (fun i hi => ?_)
        by_cases e2 : i = C
        · subst e2
          exact fun z => e z.symm
        · exact hn i (by omega))
    show sumN (fun i => φ (o i)) C + φ (o C) = _
    rw [ih]
    refine (sumN_one (φ := fun f => if f = o C then 0 else ψ f) (ψ := ψ) (a := o C) (x := φ (o C)) N (h1 C (by omega)) (fun i hi hne => ?_) ?_).symm
    · show ψ i = (if i = o C then 0 else ψ i)
      rw [if_neg hne]
    · show ψ (o C) = (if o C = o C then 0 else ψ (o C)) + φ (o C)
      rw [if_pos rfl, h3 C (by omega)]
      omega
/-- HEAT of one CHANNEL, of one FIXTURE -/
def htC (b : xB) (f c : Nat) : Int := if dimV (b 17 f) c = 1 ∧ b 46 (f * 3 + c) = 1 then (b 21 f * b 45 (f * 3 + c)).tdiv 255 else 0
def htF (b : xB) (f : Nat) : Int := sumN (htC b f) (kChan (b 17 f))
/-- what heat needs -/
def htR (b g : xB) : Prop := (∀ f, f < 24 → b 25 f ≠ -1 → 0 ≤ b 17 f ∧ b 17 f ≤ 3 ∧ b 17 f = g 71 (278 + f) ∧ b 18 f = g 71 (302 + f) ∧ 0 ≤ b 18 f ∧ b 18 f ≤ 100 ∧ b 21 f = kHeat (b 17 f) (b 18 f) ∧ 0 ≤ b 25 f ∧ b 25 f < 4 ∧ 0 ≤ b 26 f ∧ b 26 f < 64 ∧ b 26 f = g 71 (350 + f)) ∧ levR b g ∧ (∀ l, l < 4 → (b 12 l = g 71 (4 + l) ∧ 0 ≤ b 12 l ∧ b 12 l ≤ 64) ∨ (b 12 l = -1 ∧ g 71 (4 + l) = 0)) ∧ (∀ f, f < 24 → b 25 f = g 71 (326 + f))
theorem htR_of {M n : Int} {b g : xB} (h : rG M n b (g 71)) (hl : levR b g) : htR b g := by
  obtain ⟨hF, hL, hR, hP, hV, hQ, hY, hX, u1, u2, u3, u4⟩ := h
  refine ⟨fun f hf hp => ?_, hl, fun l hl => ?_, fun f hf => (hP.1 f hf).1⟩
  · obtain ⟨p1, p2, p3, p4, p5, p6⟩ := (hP.2.1 f hf).resolve_left (fun z => hp z.1)
    obtain ⟨q1, q2, q3⟩ := hR.2.2.2.2.2.2.2.1 f p5
    obtain ⟨k1, k2, k3, k4, k5, k6⟩ := q3.resolve_right (fun z => p6 z.1)
    exact ⟨k1, k2, q1, q2, k3, k4, k5, p1, p2, p3, p4, (hP.1 f hf).2.1⟩
  · rcases (hL l hl).2.2.2.2.2.2 with ⟨c1, c2, c3, c4, c5, c6⟩ | ⟨c1, c2, c3, c4, c5⟩ | ⟨c1, c2, c3, c4⟩
    · exact Or.inl ⟨c3, c4, c5⟩
    · exact Or.inl ⟨c3, c4, c5⟩
    · exact Or.inr ⟨c3, c4⟩
theorem kHeat_bd {k n : Int} (h0 : 0 ≤ n) (h1 : n ≤ 100) : 0 ≤ kHeat k n ∧ kHeat k n ≤ 200 := by
  unfold kHeat
  repeat' split
  all_goals omega
theorem heat_mul {x y : Int} (h0 : 0 ≤ x) (h1 : x ≤ 200) (h2 : 0 ≤ y) (h3 : y ≤ 255) : 0 ≤ x * y ∧ x * y ≤ 51000 ∧ 0 ≤ (x * y).tdiv 255 ∧ (x * y).tdiv 255 ≤ 200 := by
  have a1 : 0 ≤ x * y := Int.mul_nonneg h0 h2
  have a2 : x * y ≤ 200 * y := Int.mul_le_mul_of_nonneg_right h1 h2
  rw [Int.tdiv_eq_ediv_of_nonneg a1]
  omega
theorem htC_bd {b g : xB} {f c : Nat} (h : htR b g) (hf : f < 24) (hp : b 25 f ≠ -1) (hc : c < kChan (b 17 f)) : 0 ≤ htC b f c ∧ htC b f c ≤ 200 := by
  obtain ⟨k0, k3, -, -, n0, n1, h21, -⟩ := h.1 f hf hp
  obtain ⟨v1, v2, v3, v4, v5⟩ := h.2.1 f c hf hp hc
  have kb := kHeat_bd (k := b 17 f) n0 n1
  unfold htC
  split
  · rename_i e
    exact ⟨(heat_mul (by omega) (by omega) v2 (v4 e.1)).2.2.1, (heat_mul (by omega) (by omega) v2 (v4 e.1)).2.2.2⟩
  · omega
theorem htF_bd {b g : xB} {f : Nat} (h : htR b g) (hf : f < 24) (hp : b 25 f ≠ -1) : 0 ≤ htF b f ∧ htF b f ≤ 600 := by
  have := sumN_bd (φ := htC b f) (B := 200) (kChan (b 17 f)) (fun c hc => htC_bd h hf hp hc)
  have hk := kChan_le (b 17 f)
  unfold htF
  omega
/-- the class's sum over the channels of a FIXTURE -/
theorem X_heat_in {b g : xB} {f l : Nat} (h : htR b g) (hf : f < 24) (hp : b 25 f ≠ -1) {Q : Int → xB → Prop} {K : xB → Int → Int → Int → Prop} {v3 a : Int} (ha : 0 ≤ a) (ha' : a ≤ 1000000) (hK : K b l (a + htF b f) v3) : ∀ (k c : Nat), c + k = kChan (b 17 f) → w_X_heatOn_h46 Q K (k + 1) b l (a + sumN (htC b f) c) v3 f c
  | 0, c, hc => by
    have : c = kChan (b 17 f) := by omega
    subst this
    rw [w_X_heatOn_h46_s, R_chan_e hf, e_f (by omega)]
    exact hK
  | k + 1, c, hc => by
    have ih := X_heat_in h hf hp (Q := Q) ha ha' hK k (c + 1) (by omega)
    obtain ⟨k0, k3, -, -, n0, n1, h21, -⟩ := h.1 f hf hp
    obtain ⟨v1, v2, v3', v4, v5⟩ := h.2.1 f c hf hp (by omega)
    have kb := kHeat_bd (k := b 17 f) n0 n1
    have hk := kChan_le (b 17 f)
    have sb := sumN_bd (φ := htC b f) (B := 200) c (fun c' hc' => htC_bd h hf hp (by omega))
    have hs : sumN (htC b f) (c + 1) = sumN (htC b f) c + htC b f c := rfl
    rw [hs] at ih
    have w01 := whV_01 b f c
    have ec : (c : Int) + 1 = ((c + 1 : Nat) : Int) := by omega
    have ech : (f : Int) * 3 + c = ((f * 3 + c : Nat) : Int) := by omega
    rw [w_X_heatOn_h46_s, R_chan_e hf, e_t (by omega), R_dim_e hf k0 k3]
    rcases dimV_01 (b 17 f) c with z | z
    · have hz : htC b f c = 0 := if_neg (by omega)
      rw [hz, Int.add_zero] at ih
      rw [z, e_t rfl, xw_id (by omega) (by omega), ec]
      exact ih
    · rw [z, e_f (by decide), xw_al, xw_id (z := (f : Int) * 3 + c) (by omega) (by omega), ech, e_gd (by omega) (by omega), Int.toNat_natCast]
      by_cases w : b 46 (f * 3 + c) = 0
      · have hz : htC b f c = 0 := if_neg (by omega)
        rw [hz, Int.add_zero] at ih
        rw [e_t w, xw_id (by omega) (by omega), ec]
        exact ih
      · have hz : htC b f c = (b 21 f * b 45 (f * 3 + c)).tdiv 255 := if_pos ⟨z, by omega⟩
        have hm := heat_mul (x := b 21 f) (y := b 45 (f * 3 + c)) (by omega) (by omega) v2 (v4 z)
        rw [e_f w, e_gd (by omega) (by omega), e_gd (by omega) (by omega), Int.toNat_natCast, xw_id (z := b 21 f * b 45 (f * 3 + c)) (by omega) (by omega), xw_id (z := (b 21 f * b 45 (f * 3 + c)).tdiv 255) (by omega) (by omega), ← hz, xw_id (z := a + sumN (htC b f) c + htC b f c) (by omega) (by omega), xw_id (by omega) (by omega), ec, Int.add_assoc]
        exact ih
/-- of a LINE: by the order of patching -/
def htO (b : xB) (l i : Nat) : Int := if b 25 (b 28 i).toNat = (l : Int) then htF b (b 28 i).toNat else 0
theorem X_heat_A {b g : xB} {l C : Nat} (h : htR b g) (hl : l < 4) (hC : b 186 0 = (C : Int)) (hC24 : C ≤ 24) (ho : ∀ i, i < C → 0 ≤ b 28 i ∧ b 28 i < 24 ∧ b 25 (b 28 i).toNat ≠ -1) {Q : Int → xB → Prop} {K : xB → Int → Prop} (hK : K b (sumN (htO b l) C)) : ∀ (k i : Nat), i + k = C → w_X_heatOn_h4 Q K (k + 1) b l (sumN (htO b l) i) i
  | 0, i, hi => by
    have : i = C := by omega
    subst this
    rw [w_X_heatOn_h4_s, e_f (by omega)]
    exact hK
  | k + 1, i, hi => by
    have ih := X_heat_A h hl hC hC24 ho (Q := Q) hK k (i + 1) (by omega)
    obtain ⟨o1, o2, o3⟩ := ho i (by omega)
    obtain ⟨F, hF⟩ := nat_of o1
    have ei : (i : Int) + 1 = ((i + 1 : Nat) : Int) := by omega
    have sb := sumN_bd (φ := htO b l) (B := 600) i (fun i' hi' => by
      obtain ⟨q1, q2, q3⟩ := ho i' (by omega)
      unfold htO
      split
      · exact htF_bd h (by omega) q3
      · omega)
    have hs : sumN (htO b l) (i + 1) = sumN (htO b l) i + htO b l i := rfl
    rw [hF, Int.toNat_natCast] at o3
    rw [w_X_heatOn_h4_s, e_t (by omega), e_gd (by omega) (by omega), Int.toNat_natCast, hF, e_gd (by omega) (by omega), Int.toNat_natCast]
    by_cases e : b 25 F = (l : Int)
    · have hz : htO b l i = htF b F := by
        unfold htO
        rw [hF, Int.toNat_natCast, if_pos e]
      rw [hs, hz] at ih
      rw [e_t e]
      refine ⟨kChan (b 17 F) + 1, ?_⟩
      have := X_heat_in (l := l) (v3 := (i : Int)) (a := sumN (htO b l) i) h (by omega) o3 (Q := Q) (K := fun b8 v1_5 v2_6 v3_7 => w_X_heatOn_j125 Q (w_X_heatOn_h4 Q K (k + 1)) b8 v1_5 v2_6 v3_7) sb.1 (by omega) (by
        unfold w_X_heatOn_j125
        rw [xw_id (by omega) (by omega), ei]
        exact ih) (kChan (b 17 F)) 0 (by omega)
      rw [show sumN (htC b F) 0 = 0 from rfl, Int.add_zero] at this
      exact this
    · have hz : htO b l i = 0 := by
        unfold htO
        rw [hF, Int.toNat_natCast, if_neg e]
      rw [hs, hz, Int.add_zero] at ih
      rw [e_f e]
      unfold w_X_heatOn_j125
      rw [xw_id (by omega) (by omega), ei]
      exact ih
/-- the model's questions -/
theorem m_whole_e {b g : xB} {f c : Nat} {Q : Int → xB → Prop} (h : htR b g) (hf : f < 24) (hp : b 25 f ≠ -1) (hc : c < 3) : w_m_isWhole g f c Q = Q (whV b f c) g := by
  obtain ⟨k0, k3, hk, h18, n0, n1, h21, l0, l1, p0, p1, h26⟩ := h.1 f hf hp
  have h25 := h.2.2.2 f hf
  obtain ⟨l, hl⟩ := nat_of l0
  have s326 : g 71 (326 + f) = (l : Int) := by omega
  obtain ⟨p, hpp⟩ := nat_of p0
  have s350 : g 71 (350 + f) = (p : Int) := by omega
  have fin : ∀ (e w : Int), endV (b 17 f) c + 1 = e + w → 0 ≤ e → 1 ≤ w → e + w ≤ 10 → w_m_isWhole_j20 Q g f ((p : Int) + e) w = Q (whV b f c) g := by
    intro e w he e0 w0 w10
    have hw : (g 71 (4 + l) < (p : Int) + e + w) ↔ ¬ (b 26 f + endV (b 17 f) c < b 12 (b 25 f).toNat) := by
      rw [hl, Int.toNat_natCast]
      rcases h.2.2.1 l (by omega) with ⟨z1, z2, z3⟩ | ⟨z1, z2⟩ <;> omega
    unfold w_m_isWhole_j20 whV
    rw [show xw (326 + (f : Int)) = ((326 + f : Nat) : Int) from (xw_id (by omega) (by omega)).trans (by omega), Int.toNat_natCast, s326, e_gd (by omega) (by omega), show xw (4 + (l : Int)) = ((4 + l : Nat) : Int) from (xw_id (by omega) (by omega)).trans (by omega), Int.toNat_natCast, e_gd (by omega) (by omega), xw_id (by omega) (by omega)]
    by_cases z : b 26 f + endV (b 17 f) c < b 12 (b 25 f).toNat
    · rw [if_pos z, e_f (fun w => (hw.mp w) z)]
    · rw [if_neg z, e_t (hw.mpr z)]
  unfold w_m_isWhole w_m_placeOf w_m_kindOf
  rw [show xw (350 + (f : Int)) = ((350 + f : Nat) : Int) from (xw_id (by omega) (by omega)).trans (by omega), show xw (278 + (f : Int)) = ((278 + f : Nat) : Int) from (xw_id (by omega) (by omega)).trans (by omega), Int.toNat_natCast, Int.toNat_natCast, s350, ← hk, e_gd (by omega) (by omega), e_gd (by omega) (by omega)]
  dsimp only
  by_cases e2 : b 17 f = 2
  · rw [e_t e2, xw_ar, xw_id (by omega) (by omega)]
    by_cases ec : c = 2
    · have he : endV (b 17 f) c = 4 := by unfold endV; rw [if_pos e2, if_pos ec]
      rw [m_wide_f hf (by omega), e_t rfl]
      exact fin _ 1 (by omega) (by omega) (by omega) (by omega)
    · have he : endV (b 17 f) c = 2 * (c : Int) + 1 := by unfold endV; rw [if_pos e2, if_neg ec]
      rw [m_wide_t hf (by omega) (by omega), e_f (by decide)]
      exact fin _ 2 (by omega) (by omega) (by omega) (by omega)
  · have he : endV (b 17 f) c = c := by unfold endV; rw [if_neg e2]
    rw [e_f e2, xw_id (by omega) (by omega), m_wide_f hf (by omega), e_t rfl]
    exact fin _ 1 (by omega) (by omega) (by omega) (by omega)
theorem m_heatOf_e {b g : xB} {f : Nat} {Q : Int → xB → Prop} (h : htR b g) (hf : f < 24) (hp : b 25 f ≠ -1) : w_m_heatOf g f Q = Q (b 21 f) g := by
  obtain ⟨k0, k3, hk, h18, n0, n1, h21, l0, l1, p0, p1, h26⟩ := h.1 f hf hp
  rw [h21]
  unfold kHeat
  by_cases e1 : 1 < b 17 f
  · by_cases e2 : b 17 f = 2
    · rw [if_pos e2]
      simp (disch := omega) only [w_m_heatOf, w_m_kindOf, ← h18, e_T, e_F, e_t, e_f, e_gd, e_bg0, e_bg1, e_nz, Int.toNat_natCast, Int.toNat_add, Int.toNat_mul, xw_al, xw_ar, xw_ml, xw_mr, xw_sl, xw_sr, xw_id, x_sl_c, mc3, mc6, mc8, mc12, mc64, mc72, Nat.add_assoc, Int.reduceToNat, L_isLine_t, L_isLine_f, R_has_t, R_has_f, R_isCh_t, R_isCh_f, V_isCurve_t, V_isCurve_f, Q_isCue_t, Q_isCue_f, Q_isList_t, Q_isList_f, B_isPb_t, B_isPb_f, m_in_t, m_in_f, m_isLine_t, m_isLine_f, m_isPb_t, m_isPb_f, m_isFx_t, m_isFx_f, F_note_e, m_finds_e, Int.reduceToNat, noted_neg, up_eq, up_r, up_i, fil_in, fil_i, fil_r]
    · rw [if_neg e2, if_pos (by omega)]
      simp (disch := omega) only [w_m_heatOf, w_m_kindOf, e_T, e_F, e_t, e_f, e_gd, e_bg0, e_bg1, e_nz, Int.toNat_natCast, Int.toNat_add, Int.toNat_mul, xw_al, xw_ar, xw_ml, xw_mr, xw_sl, xw_sr, xw_id, x_sl_c, mc3, mc6, mc8, mc12, mc64, mc72, Nat.add_assoc, Int.reduceToNat, L_isLine_t, L_isLine_f, R_has_t, R_has_f, R_isCh_t, R_isCh_f, V_isCurve_t, V_isCurve_f, Q_isCue_t, Q_isCue_f, Q_isList_t, Q_isList_f, B_isPb_t, B_isPb_f, m_in_t, m_in_f, m_isLine_t, m_isLine_f, m_isPb_t, m_isPb_f, m_isFx_t, m_isFx_f, F_note_e, m_finds_e, Int.reduceToNat, noted_neg, up_eq, up_r, up_i, fil_in, fil_i, fil_r]
  · rw [if_neg (by omega), if_neg (by omega)]
    simp (disch := omega) only [w_m_heatOf, w_m_kindOf, e_T, e_F, e_t, e_f, e_gd, e_bg0, e_bg1, e_nz, Int.toNat_natCast, Int.toNat_add, Int.toNat_mul, xw_al, xw_ar, xw_ml, xw_mr, xw_sl, xw_sr, xw_id, x_sl_c, mc3, mc6, mc8, mc12, mc64, mc72, Nat.add_assoc, Int.reduceToNat, L_isLine_t, L_isLine_f, R_has_t, R_has_f, R_isCh_t, R_isCh_f, V_isCurve_t, V_isCurve_f, Q_isCue_t, Q_isCue_f, Q_isList_t, Q_isList_f, B_isPb_t, B_isPb_f, m_in_t, m_in_f, m_isLine_t, m_isLine_f, m_isPb_t, m_isPb_f, m_isFx_t, m_isFx_f, F_note_e, m_finds_e, Int.reduceToNat, noted_neg, up_eq, up_r, up_i, fil_in, fil_i, fil_r]
/-- whether a CHANNEL is warm on a LINE -/
def wmV (b : xB) (f c l : Nat) : Int := if b 25 f = (l : Int) ∧ c < kChan (b 17 f) ∧ dimV (b 17 f) c = 1 ∧ b 46 (f * 3 + c) = 1 then 1 else 0
theorem m_warm_e {b g : xB} {f c l : Nat} {Q : Int → xB → Prop} (h : htR b g) (hf : f < 24) (hc : c < 3) (hl : l < 4) : w_m_isWarm g f c l Q = Q (wmV b f c l) g := by
  have h25 := h.2.2.2 f hf
  unfold w_m_isWarm wmV
  rw [show xw (326 + (f : Int)) = ((326 + f : Nat) : Int) from (xw_id (by omega) (by omega)).trans (by omega), Int.toNat_natCast, ← h25, e_gd (by omega) (by omega)]
  by_cases e : b 25 f = (l : Int)
  · have hp : b 25 f ≠ -1 := by omega
    obtain ⟨k0, k3, hk, h18, n0, n1, h21, l0, l1, p0, p1, h26⟩ := h.1 f hf hp
    rw [e_t e]
    by_cases hch : c < kChan (b 17 f)
    · obtain ⟨v1, v2, v3, v4, v5⟩ := h.2.1 f c hf hp hch
      rw [m_chan_t hf (by omega) (by omega) (by rw [← hk]; exact hch), e_f (by decide), m_dim_e hf (by omega) (by omega), ← hk]
      rcases dimV_01 (b 17 f) c with z | z
      · rw [z, e_t rfl, if_neg (by omega)]
      · rw [z, e_f (by decide), m_whole_e h hf hp hc, ← v5]
        have w01 := whV_01 b f c
        by_cases w : b 46 (f * 3 + c) = 1
        · rw [e_f (by omega), if_pos ⟨e, hch, rfl, w⟩]
        · rw [e_t (by omega), if_neg (by omega)]
    · rw [m_chan_f hf (by omega) (by omega) hc (by rw [← hk]; exact hch), e_t rfl, if_neg (by omega)]
  · rw [e_f e, if_neg (by omega)]
