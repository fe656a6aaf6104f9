/-! ===== a TICK, whole ===== -/
def fD (g g' : xB) : Prop := (∀ r, r ≠ 71 → g' r = g r) ∧ ∀ i, i ≠ 3771 → g' 71 i = g 71 i
theorem rG_T {M n : Int} {b b' : xB} {s s' : Nat → Int} (h : rG M n b s) (B : ∀ r, r ≠ 108 ∧ r ≠ 109 ∧ r ≠ 283 ∧ r ≠ 284 → b' r = b r) (h108 : b 108 0 ≤ b' 108 0) (hs : ∀ i, i < 1742 ∨ (1750 ≤ i ∧ i < 3770) ∨ 3771 < i → s' i = s i) : rG M n b' s' := by
  obtain ⟨hF, hL, hR, hP, hV, hQ, hY, hX, u1, u2, u3, u4⟩ := h
  exact ⟨rF_c hF (B _ (by omega)) (fun i _ _ => hs i (by omega)), rL_c hL (B _ (by omega)) (B _ (by omega)) (B _ (by omega)) (B _ (by omega)) (B _ (by omega)) (B _ (by omega)) (fun i hi => hs i (by omega)), rR_c hR (B _ (by omega)) (B _ (by omega)) (B _ (by omega)) (B _ (by omega)) (B _ (by omega)) (B _ (by omega)) (B _ (by omega)) (B _ (by omega)) (B _ (by omega)) (fun i hi => hs i (by omega)), rP_c hP (B _ (by omega)) (B _ (by omega)) (B _ (by omega)) (B _ (by omega)) (B _ (by omega)) (B _ (by omega)) (B _ (by omega)) (fun i hi => hs i (by omega)), rV_c hV (B _ (by omega)) (B _ (by omega)) (B _ (by omega)) (B _ (by omega)) (B _ (by omega)) (fun i _ hi => hs i (by omega)), rQ_c hQ (B _ (by omega)) (B _ (by omega)) (B _ (by omega)) (B _ (by omega)) (B _ (by omega)) (B _ (by omega)) (B _ (by omega)) (B _ (by omega)) (by rw [B 161 (by omega)]; exact Int.le_refl _) (fun i _ hi => hs i (by omega)), rY_c hY (B _ (by omega)) (B _ (by omega)) (B _ (by omega)) (B _ (by omega)) (B _ (by omega)) (B _ (by omega)) (B _ (by omega)) (B _ (by omega)) (B _ (by omega)) (B _ (by omega)) (B _ (by omega)) (B _ (by omega)) (B _ (by omega)) (fun i _ => by rw [B 39 (by omega)]; exact Int.le_refl _) h108 (by rw [B 161 (by omega)]; exact Int.le_refl _) (fun _ _ => by rw [B 17 (by omega)]) (by rw [B 110 (by omega)]; exact Int.le_refl _) (fun i _ _ hi => hs i (by omega)), rX_c hX (B _ (by omega)) (B _ (by omega)) (B _ (by omega)) (B _ (by omega)) (B _ (by omega)) (by rw [B 161 (by omega)]; exact Int.le_refl _) (fun _ _ => by rw [B 17 (by omega)]) (fun i hi => hs i (by omega)), by rw [B 110 (by omega), hs 3766 (by omega)]; exact u1, by rw [B 110 (by omega)]; exact u2, by rw [B 110 (by omega)]; exact u3, by rw [hs 3767 (by omega)]; exact u4⟩
theorem dg_in {b : xB} {l w : Nat} (hl : l < 4) (hw : w ≤ 64) (h13 : b 13 l = 1) (h12 : b 12 l = (w : Int)) : ∀ (k p : Nat) (a : Int) (g : xB), p + k = w → g 71 3771 = a → g 71 l = 1 → g 71 (4 + l) = (w : Int) → (∀ p, p < w → b 11 (l * 64 + p) = g 71 (8 + (l * 64 + p))) → ∃ a' g', g' 71 3771 = a' ∧ fD g g' ∧ (∀ (Q : Int → xB → Prop) (K : xB → Int → Int → Prop), K b a' l → ∃ n, w_L_addTo_h12 Q K n b a l p) ∧ (∀ (Q : xB → Prop) (K : xB → Int → Prop), K g' l → ∃ n, w_m_writeAll_h149 Q K n g l p)
  | 0, p, a, g, hp, ha, hs, hs4, hb => by
    refine ⟨a, g, ha, ⟨fun _ _ => rfl, fun _ _ => rfl⟩, fun Q K hK => ⟨1, ?_⟩, fun Q K hK => ⟨1, ?_⟩⟩
    · rw [w_L_addTo_h12_s, e_gd (by omega) (by omega), Int.toNat_natCast, e_f (by omega), e_gd (by omega) (by omega), e_f (by omega)]
      exact hK
    · rw [w_m_writeAll_h149_s, show xw (4 + (l : Int)) = ((4 + l : Nat) : Int) from (xw_id (by omega) (by omega)).trans (by omega), e_gd (by omega) (by omega), Int.toNat_natCast, e_f (by omega)]
      exact hK
  | k + 1, p, a, g, hp, ha, hs, hs4, hb => by
    have hpb := hb p (by omega)
    have ep : (p : Int) + 1 = ((p + 1 : Nat) : Int) := by omega
    obtain ⟨a', g', z1, z2, z3, z4⟩ := dg_in hl hw h13 h12 k (p + 1) (xw (xw (31 * a) + b 11 (l * 64 + p))) (x_up g 71 3771 (xw (xw (31 * a) + b 11 (l * 64 + p)))) (by omega) up_eq (by simp (disch := omega) only [up_eq, up_r, up_i, fil_in, fil_i, fil_r]; exact hs) (by simp (disch := omega) only [up_eq, up_r, up_i, fil_in, fil_i, fil_r]; exact hs4) (fun q hq => by simp (disch := omega) only [up_eq, up_r, up_i, fil_in, fil_i, fil_r]; exact hb q hq)
    refine ⟨a', g', z1, ⟨fun r hr => by rw [z2.1 r hr, upR hr], fun i hi => by rw [z2.2 i hi]; simp (disch := omega) only [up_eq, up_r, up_i, fil_in, fil_i, fil_r]⟩, fun Q K hK => ?_, fun Q K hK => ?_⟩
    · obtain ⟨m, z3⟩ := z3 Q K hK
      refine ⟨m + 1, ?_⟩
      rw [w_L_addTo_h12_s, e_gd (by omega) (by omega), Int.toNat_natCast, e_f (by omega), e_gd (by omega) (by omega), e_t (by omega), show xw (xw ((l : Int) * 64) + p) = ((l * 64 + p : Nat) : Int) from (xw_al _ _).trans ((xw_id (by omega) (by omega)).trans (by omega)), e_gd (by omega) (by omega), Int.toNat_natCast, xw_id (z := (p : Int) + 1) (by omega) (by omega), ep]
      exact z3
    · obtain ⟨m, z4⟩ := z4 Q K hK
      refine ⟨m + 1, ?_⟩
      rw [w_m_writeAll_h149_s, show xw (4 + (l : Int)) = ((4 + l : Nat) : Int) from (xw_id (by omega) (by omega)).trans (by omega), e_gd (by omega) (by omega), Int.toNat_natCast, e_t (by omega), show xw (0 + (l : Int)) = (l : Int) from (xw_id (by omega) (by omega)).trans (by omega), e_gd (by omega) (by omega), Int.toNat_natCast, e_t hs, show xw (xw (8 + xw (64 * (l : Int))) + p) = ((8 + (l * 64 + p) : Nat) : Int) from (congrArg (fun z => xw (z + (p : Int))) (xw_ar _ _)).trans ((xw_al _ _).trans ((xw_id (by omega) (by omega)).trans (by omega))), e_gd (by omega) (by omega), Int.toNat_natCast, xw_id (z := (p : Int) + 1) (by omega) (by omega), ep, ha, ← hpb]
      exact z4
theorem dg_all {b : xB} : ∀ (k l : Nat) (a : Int) (g : xB), l + k = 4 → rL b (g 71) → g 71 3771 = a → ∃ a' g', g' 71 3771 = a' ∧ fD g g' ∧ (∀ (Q : Int → xB → Prop) (K : xB → Int → Prop), K b a' → ∃ n, w_L_addTo_h4 Q K n b a l) ∧ (∀ (Q : xB → Prop) (K : xB → Prop), K g' → ∃ n, w_m_writeAll_h142 Q K n g l)
  | 0, l, a, g, hl, h, ha => by
    refine ⟨a, g, ha, ⟨fun _ _ => rfl, fun _ _ => rfl⟩, fun Q K hK => ⟨1, ?_⟩, fun Q K hK => ⟨1, ?_⟩⟩
    · rw [w_L_addTo_h4_s, e_f (by omega)]
      exact hK
    · rw [w_m_writeAll_h142_s, e_f (by omega)]
      exact hK
  | k + 1, l, a, g, hl, h, ha => by
    have hl4 : l < 4 := by omega
    have el : (l : Int) + 1 = ((l + 1 : Nat) : Int) := by omega
    have one : ∃ a' g', g' 71 3771 = a' ∧ fD g g' ∧ (∀ (Q : Int → xB → Prop) (K : xB → Int → Int → Prop), K b a' l → ∃ n, w_L_addTo_h12 Q K n b a l 0) ∧ (∀ (Q : xB → Prop) (K : xB → Int → Prop), K g' l → ∃ n, w_m_writeAll_h149 Q K n g l 0) := by
      rcases (h l hl4).2.2.2.2.2.2 with ⟨c1, c2, c3, c4, c5, c6⟩ | ⟨c1, c2, c3, c4, c5⟩ | ⟨c1, c2, c3, c4⟩
      · obtain ⟨w, hw⟩ := nat_of c4
        exact dg_in hl4 (by omega) c1 hw w 0 a g (by omega) ha c2 (by omega) (fun p hp => (c6 p (by omega)).1)
      · refine ⟨a, g, ha, ⟨fun _ _ => rfl, fun _ _ => rfl⟩, fun Q K hK => ⟨1, ?_⟩, fun Q K hK => ?_⟩
        · rw [w_L_addTo_h12_s, e_gd (by omega) (by omega), Int.toNat_natCast, e_t c1]
          exact hK
        · by_cases e : 0 < g 71 (4 + l)
          · refine ⟨1, ?_⟩
            rw [w_m_writeAll_h149_s, show xw (4 + (l : Int)) = ((4 + l : Nat) : Int) from (xw_id (by omega) (by omega)).trans (by omega), e_gd (by omega) (by omega), Int.toNat_natCast, e_t e, show xw (0 + (l : Int)) = (l : Int) from (xw_id (by omega) (by omega)).trans (by omega), e_gd (by omega) (by omega), Int.toNat_natCast, e_f (by omega)]
            exact hK
          · refine ⟨1, ?_⟩
            rw [w_m_writeAll_h149_s, show xw (4 + (l : Int)) = ((4 + l : Nat) : Int) from (xw_id (by omega) (by omega)).trans (by omega), e_gd (by omega) (by omega), Int.toNat_natCast, e_f e]
            exact hK
      · refine ⟨a, g, ha, ⟨fun _ _ => rfl, fun _ _ => rfl⟩, fun Q K hK => ⟨1, ?_⟩, fun Q K hK => ⟨1, ?_⟩⟩
        · rw [w_L_addTo_h12_s, e_gd (by omega) (by omega), Int.toNat_natCast, e_t c1]
          exact hK
        · rw [w_m_writeAll_h149_s, show xw (4 + (l : Int)) = ((4 + l : Nat) : Int) from (xw_id (by omega) (by omega)).trans (by omega), e_gd (by omega) (by omega), Int.toNat_natCast, e_f (by omega)]
          exact hK
    obtain ⟨a1, g1, w1, w2, w3, w4⟩ := one
    obtain ⟨a', g', z1, z2, z3, z4⟩ := dg_all k (l + 1) a1 g1 (by omega) (rL_c h rfl rfl rfl rfl rfl rfl (fun i hi => w2.2 i (by omega))) w1
    refine ⟨a', g', z1, ⟨fun r hr => (z2.1 r hr).trans (w2.1 r hr), fun i hi => (z2.2 i hi).trans (w2.2 i hi)⟩, fun Q K hK => ?_, fun Q K hK => ?_⟩
    · obtain ⟨m, z3⟩ := z3 Q K hK
      refine ⟨m + 1, ?_⟩
      rw [w_L_addTo_h4_s, e_t (by omega)]
      refine w3 Q _ ?_
      rw [xw_id (by omega) (by omega), el]
      exact z3
    · obtain ⟨m, z4⟩ := z4 Q K hK
      refine ⟨m + 1, ?_⟩
      rw [w_m_writeAll_h142_s, e_t (by omega)]
      refine w4 Q _ ?_
      rw [xw_id (by omega) (by omega), el]
      exact z4
/-- ENTRIES -/
theorem ent_A : ∀ (k p : Nat) (b : xB), p + k = 4 → ∃ b', (∀ r, r ≠ 283 → b' r = b r) ∧ (∀ q, q < 4 → (q < p → b' 283 q = b 283 q) ∧ (p ≤ q → b' 283 q = xw (b 283 q + 1))) ∧ (∀ (Q : Int → xB → Prop) (K : xB → Int → Int → Prop) (v1 v2 : Int), K b' v1 v2 → w_B_runTicks_h47 Q K (k + 1) b v1 v2 p)
  | 0, p, b, hp => by
    refine ⟨b, fun _ _ => rfl, fun q hq => ⟨fun _ => rfl, fun _ => by omega⟩, fun Q K v1 v2 hK => ?_⟩
    rw [w_B_runTicks_h47_s, e_f (by omega)]
    exact hK
  | k + 1, p, b, hp => by
    obtain ⟨b', z1, z2, z3⟩ := ent_A k (p + 1) (x_up b 283 p (xw (b 283 p + 1))) (by omega)
    refine ⟨b', fun r hr => (z1 r hr).trans (upR hr), fun q hq => ⟨fun h => ?_, fun h => ?_⟩, fun Q K v1 v2 hK => ?_⟩
    · rw [(z2 q hq).1 (by omega)]
      simp (disch := omega) only [up_eq, up_r, up_i, fil_in, fil_i, fil_r]
    · by_cases e : q = p
      · subst e
        rw [(z2 q hq).1 (by omega), up_eq]
      · rw [(z2 q hq).2 (by omega), up_i e]
    · rw [w_B_runTicks_h47_s, e_t (by omega), e_gd (by omega) (by omega), Int.toNat_natCast, xw_id (z := (p : Int) + 1) (by omega) (by omega), show (p : Int) + 1 = ((p + 1 : Nat) : Int) by omega]
      exact z3 Q K v1 v2 hK
/-- LEAVINGS -/
theorem lea_A : ∀ (k : Nat) (b : xB), k ≤ 4 → ∃ b', (∀ r, r ≠ 284 → b' r = b r) ∧ (∀ q, q < 4 → (k ≤ q → b' 284 q = b 284 q) ∧ (q < k → b' 284 q = xw (b 284 q + 1))) ∧ (∀ (Q : Int → xB → Prop) (K : xB → Int → Int → Prop) (v1 v2 : Int), K b' v1 v2 → w_B_runTicks_h156 Q K (k + 1) b v1 v2 ((k : Int) - 1))
  | 0, b, hp => by
    refine ⟨b, fun _ _ => rfl, fun q hq => ⟨fun _ => rfl, fun _ => by omega⟩, fun Q K v1 v2 hK => ?_⟩
    rw [w_B_runTicks_h156_s, e_t (by omega)]
    exact hK
  | k + 1, b, hp => by
    obtain ⟨b', z1, z2, z3⟩ := lea_A k (x_up b 284 k (xw (b 284 k + 1))) (by omega)
    refine ⟨b', fun r hr => (z1 r hr).trans (upR hr), fun q hq => ⟨fun h => ?_, fun h => ?_⟩, fun Q K v1 v2 hK => ?_⟩
    · rw [(z2 q hq).1 (by omega)]
      simp (disch := omega) only [up_eq, up_r, up_i, fil_in, fil_i, fil_r]
    · by_cases e : q = k
      · subst e
        rw [(z2 q hq).1 (by omega), up_eq]
      · rw [(z2 q hq).2 (by omega), up_i e]
    · rw [show ((k + 1 : Nat) : Int) - 1 = (k : Int) by omega, w_B_runTicks_h156_s, e_f (by omega), e_gd (by omega) (by omega), Int.toNat_natCast, xw_id (z := (k : Int) + -1) (by omega) (by omega), show (k : Int) + -1 = (k : Int) - 1 by omega]
      exact z3 Q K v1 v2 hK
/-- the PLAYBACKS -/
theorem plays_A {n : Int} : ∀ (k p : Nat) (M : Int) (b g : xB), p + k = 4 → rG M n b (g 71) → 0 ≤ M → M + 2592 * (k : Int) ≤ 900000000 → (∀ q, p ≤ q → q < 4 → b 287 q + 1 ≤ b 108 0) → b 108 0 ≤ 2000 → ∃ b' g', rG (M + 2592 * (k : Int)) n b' (g' 71) ∧ pF b b' ∧ mS g g' ∧ (∀ i, i < 1730 ∨ (3766 < i ∧ i ≠ 3775) → g' 71 i = g 71 i) ∧ (∀ q, q < 4 → (q < p → g' 71 (1742 + q) = g 71 (1742 + q) ∧ g' 71 (1746 + q) = g 71 (1746 + q)) ∧ (p ≤ q → g' 71 (1742 + q) = xw (g 71 (1742 + q) + 1) ∧ g' 71 (1746 + q) = xw (g 71 (1746 + q) + 1))) ∧ (∀ (Q : Int → xB → Prop) (K : xB → Int → Int → Prop) (v1 v2 : Int), K b' v1 v2 → w_B_runTicks_h75 Q K (k + 1) b v1 v2 p) ∧ (∀ (Q K : xB → Prop), K g' → w_m_tickOnce_h14 Q K (k + 1) g p)
  | 0, p, M, b, g, hp, h, hM0, hM, hs, hT => by
    refine ⟨b, g, rG_le h (by omega), fun _ _ => rfl, mS_rf, fun _ _ => rfl, fun q hq => ⟨fun _ => ⟨rfl, rfl⟩, fun _ => by omega⟩, fun Q K v1 v2 hK => ?_, fun Q K hK => ?_⟩
    · rw [w_B_runTicks_h75_s, e_f (by omega)]
      exact hK
    · rw [w_m_tickOnce_h14_s, e_f (by omega)]
      exact hK
  | k + 1, p, M, b, g, hp, h, hM0, hM, hs, hT => by
    have hp4 : p < 4 := by omega
    have ep : (p : Int) + 1 = ((p + 1 : Nat) : Int) := by omega
    obtain ⟨b1, g1, x1, x2, x3, ⟨x4, x5, x6, x7, x8⟩, x9, x10⟩ := play_A hp4 h hM0 (by omega) (hs p (by omega) hp4) hT
    obtain ⟨b', g', y1, y2, y3, y4, y5, y6, y7⟩ := plays_A k (p + 1) (M + 2592) b1 g1 (by omega) x1 (by omega) (by omega) (fun q h1 h2 => by
      rw [x3 q (by omega), x2 108 (by omega)]
      exact hs q (by omega) h2) (by rw [x2 108 (by omega)]; exact hT)
    refine ⟨b', g', rG_le y1 (by omega), fun r hr => (y2 r hr).trans (x2 r hr), mS_tr x4 y3, fun i hi => (y4 i hi).trans (x5 i hi), fun q hq => ⟨fun h => ?_, fun h => ?_⟩, fun Q K v1 v2 hK => ?_, fun Q K hK => ?_⟩
    · obtain ⟨a1, a2⟩ := (y5 q hq).1 (by omega)
      obtain ⟨c1, c2⟩ := x6 q hq (by omega)
      exact ⟨a1.trans c1, a2.trans c2⟩
    · by_cases e : q = p
      · subst e
        obtain ⟨a1, a2⟩ := (y5 q hq).1 (by omega)
        exact ⟨a1.trans x7, a2.trans x8⟩
      · obtain ⟨a1, a2⟩ := (y5 q hq).2 (by omega)
        obtain ⟨c1, c2⟩ := x6 q hq e
        rw [a1, a2, c1, c2]
        exact ⟨rfl, rfl⟩
    · have z := x9 (fun b7 => w_B_runTicks_h75 Q K (k + 1) b7 v1 v2 ((p + 1 : Nat) : Int)) (y6 Q K v1 v2 hK)
      rw [w_B_runTicks_h75_s, e_t (by omega), xw_id (by omega) (by omega), ep]
      simp (disch := omega) only [e_gd, Int.toNat_natCast] at z ⊢
      exact z
    · have z := x10 (fun g1 => w_m_tickOnce_h14 Q K (k + 1) g1 ((p + 1 : Nat) : Int)) (y7 Q K hK)
      rw [w_m_tickOnce_h14_s, e_t (by omega), xw_id (by omega) (by omega), ep]
      simp only [z]
/-- **one TICK, on both sides** -/
theorem tick_A {M n : Int} {b g : xB} (hn : n ≤ 200000) (h : rG M n b (g 71)) (hE : rE b (g 71)) (hT : rT b (g 71)) (hT2 : b 108 0 < 2000) (hM0 : 0 ≤ M) (hM : M + 10368 ≤ 900000000) : ∃ b' g', rG (M + 10368) n b' (g' 71) ∧ rE b' (g' 71) ∧ rT b' (g' 71) ∧ b' 108 0 = b 108 0 + 1 ∧ mS g g' ∧ b' 172 = b 172 ∧ b' 24 = b 24 ∧ (∀ (Q : Int → xB → Prop) (K : xB → Prop) (m : Nat) (v1 v2 : Int), 0 ≤ v2 → v2 < v1 → v1 ≤ 5 → w_B_runTicks_h30 Q K m b' v1 (v2 + 1) → w_B_runTicks_h30 Q K (m + 1) b v1 v2) ∧ (∀ Q : xB → Prop, Q g' → w_m_tickOnce g Q) := by
  obtain ⟨t1, t2, t3, t4⟩ := hT
  have e108 : xw (b 108 0 + 1) = b 108 0 + 1 := xw_id (by omega) (by omega)
  have e3770 : xw (g 71 3770 + 1) = g 71 3770 + 1 := by rw [← t1]; exact e108
  -- entries
  obtain ⟨b1, n1, n2, n3⟩ := ent_A 4 0 (x_up b 108 0 (b 108 0 + 1)) (by omega)
  have hb1 : ∀ r, r ≠ 108 ∧ r ≠ 283 → b1 r = b r := fun r hr => by rw [n1 r hr.2, upR hr.1]
  have b1T : b1 108 0 = b 108 0 + 1 := by rw [n1 108 (by omega), up_eq]
  have G1 : rG M n b1 (x_up g 71 3770 (g 71 3770 + 1) 71) := rG_T h (fun r hr => hb1 r (by omega)) (by omega) (fun i hi => by simp (disch := omega) only [up_eq, up_r, up_i, fil_in, fil_i, fil_r])
  -- playbacks
  obtain ⟨b2, g2, y1, y2, y3, y4, y5, y6, y7⟩ := plays_A 4 0 M b1 (x_up g 71 3770 (g 71 3770 + 1)) (by omega) G1 hM0 (by omega) (fun q _ hq => by
    have := (h.2.2.2.2.2.2.1 q hq).2.2.2.2.2.2.2.2.2.2.2.2.1
    rw [hb1 287 (by omega), b1T]
    omega) (by omega)
  -- levels
  obtain ⟨b3, g3, l1, l2, l3, l4, l5, l6, l7⟩ := levels_A y1
  -- lines
  obtain ⟨b4, g4, c1, c2, c3, c4, c5, c6, c7⟩ := lines_A hn 4 0 b3 g3 (by omega) l1 l2
  -- written
  obtain ⟨b5, g5, w1, w2, w3, w4, w5⟩ := writes_A hn c1 c2
  -- the digest
  have d109 : b5 109 0 = g5 71 3771 := by
    rw [w2 109 (by omega), c3 109 (by omega) (by omega) (by omega), l3 109 (by omega) (by omega) (by omega) (by omega) (by omega), y2 109 (by omega), hb1 109 (by omega), w3.2 3771 (by omega), c5 3771 (by omega), l5 3771 (by omega), y4 3771 (by omega)]
    simp (disch := omega) only [up_eq, up_r, up_i, fil_in, fil_i, fil_r]
    exact t4
  obtain ⟨a', g6, d1, d2, d3, d4⟩ := dg_all 4 0 (b5 109 0) g5 (by omega) w1.2.1 d109.symm
  -- leavings
  obtain ⟨b7, v1, v2, v3⟩ := lea_A 4 (x_up b5 109 0 a') (by omega)
  have all : ∀ r, (r = 172 ∨ r = 24 ∨ r = 108 ∨ r = 283 ∨ r = 284) → b5 r = b1 r := by
    intro r hr
    rw [w2 r (by omega), c3 r (by omega) (by omega) (by omega), l3 r (by omega) (by omega) (by omega) (by omega) (by omega), y2 r (by omega)]
  have gal : ∀ i, (1742 ≤ i ∧ i < 1750) ∨ i = 3770 → g6 71 i = g2 71 i := by
    intro i hi
    rw [d2.2 i (by omega), w3.2 i (by omega), c5 i (by omega), l5 i (by omega)]
  refine ⟨b7, g6, ?_, ?_, ?_, ?_, ?_, ?_, ?_, ?_, ?_⟩
  · exact rG_T (rG_le w1 (by omega)) (fun r hr => by rw [v1 r (by omega), upR (by omega)]) (by rw [v1 108 (by omega), upR (by omega)]; exact Int.le_refl _) (fun i hi => d2.2 i (by omega))
  · intro q hq
    obtain ⟨e1, e2⟩ := hE q hq
    obtain ⟨u1, u2⟩ := (y5 q hq).2 (by omega)
    constructor
    · rw [v1 283 (by omega), upR (by omega), all 283 (by omega), (n2 q hq).2 (by omega), gal _ (by omega), u1]
      simp (disch := omega) only [up_eq, up_r, up_i, fil_in, fil_i, fil_r]
      rw [e1]
    · rw [(v2 q hq).2 (by omega), upR (by omega), all 284 (by omega), hb1 284 (by omega), gal _ (by omega), u2]
      simp (disch := omega) only [up_eq, up_r, up_i, fil_in, fil_i, fil_r]
      rw [e2]
  · have : b7 108 0 = b 108 0 + 1 := by rw [v1 108 (by omega), upR (by omega), all 108 (by omega), b1T]
    refine ⟨?_, by omega, by omega, ?_⟩
    · rw [this, gal 3770 (by omega), y4 3770 (by omega), up_eq, t1]
    · rw [v1 109 (by omega), up_eq, d1]
  · rw [v1 108 (by omega), upR (by omega), all 108 (by omega), b1T]
  · intro r a1 a2 a3 a4 a5 a6 a7
    rw [d2.1 r a1, w3.1 r a1, c4 r a1 a5, l4 r a1 a5, y3 r a1 a2 a3 a4 a5 a6 a7, upR a1]
  · rw [v1 172 (by omega), upR (by omega), all 172 (by omega), hb1 172 (by omega)]
  · rw [v1 24 (by omega), upR (by omega), all 24 (by omega), hb1 24 (by omega)]
  · intro Q K m x1 x2 h0 h1 h2 hK
    rw [w_B_runTicks_h30_s, e_t h1, e108]
    refine ⟨4 + 1, n3 Q _ x1 x2 ⟨4 + 1, y6 Q _ x1 x2 (l6 _ ⟨4 + 1, c6 _ _ (w4 _ ?_)⟩)⟩⟩
    refine d3 _ _ ⟨4 + 1, v3 Q _ x1 x2 ?_⟩
    rw [xw_id (by omega) (by omega)]
    exact hK
  · intro Q hQ
    unfold w_m_tickOnce
    rw [e3770]
    refine ⟨4 + 1, y7 Q _ (l7 Q _ ⟨4 + 1, c7 Q _ (w5 _ (d4 _ _ hQ))⟩)⟩
