/-! ===== a TICK: LINES are cooled, one after the other ===== -/
theorem oOK_c {s s' : Nat → Int} {o : Nat → Nat} {C N : Nat} (h : oOK s o C N) (hs : ∀ i, (276 ≤ i ∧ i < 422) → s' i = s i) : oOK s' o C N := by
  obtain ⟨h1, h2, h3, h4, h5⟩ := h
  refine ⟨h1, by rw [hs 276 (by omega)]; exact h2, fun i hi => ?_, fun i j hi hj => ?_, fun f hf hp => ?_⟩
  · have := h3 i hi
    rw [hs _ (by omega)]
    exact this
  · have a := (h3 i (by omega)).1
    have c := (h3 j hj).1
    rw [hs _ (by omega), hs _ (by omega)]
    exact h4 i j hi hj
  · rw [hs _ (by omega)] at hp
    exact h5 f hf hp
/-- what the cuts keep -/
def cuR (b g : xB) (l C N : Nat) (lim : Int) : Prop := htR b g ∧ b 14 l = lim ∧ g 71 (264 + l) = lim ∧ C ≤ 24 ∧ b 186 0 = (C : Int) ∧ (∀ i, i < C → 0 ≤ b 28 i ∧ b 28 i < 24 ∧ b 25 (b 28 i).toNat ≠ -1) ∧ oOK (g 71) (fun i => (b 28 i).toNat) C N ∧ (∀ f, f < 24 → b 27 f = g 71 (398 + f))
theorem cut_all {l C N : Nat} {lim : Int} (hl : l < 4) (hlim : 0 ≤ lim) : ∀ (k : Nat) (a : Int) (b g : xB), k ≤ C → cuR b g l C N lim → -200 ≤ a → a ≤ 20000 → ∃ (b' g' : xB) (a' : Int), cuR b' g' l C N lim ∧ (∀ r, r ≠ 45 → b' r = b r) ∧ (∀ r, r ≠ 78 → g' r = g r) ∧ -200 ≤ a' ∧ a' ≤ a ∧ (a ≤ lim → b' = b ∧ g' = g ∧ a' = a) ∧ (∀ (Q : Int → xB → Prop) (K : xB → Int → Prop), K b' a' → w_X_cut_h13 Q K (k + 1) b l a ((k : Int) - 1)) ∧ (∀ (Q : xB → Prop) (K : xB → Int → Int → Prop), K g' l a' → w_m_warm_h91 Q K (k + 1) g l a (oAt (fun i => (b 28 i).toNat) k))
  | 0, a, b, g, hk, h, a0, a1 => by
    refine ⟨b, g, a, h, fun _ _ => rfl, fun _ _ => rfl, a0, Int.le_refl _, fun _ => ⟨rfl, rfl, rfl⟩, fun Q K hK => ?_, fun Q K hK => ?_⟩
    · rw [w_X_cut_h13_s, e_t (by omega)]
      exact hK
    · rw [w_m_warm_h91_s, e_t (by unfold oAt; rw [if_pos rfl])]
      exact hK
  | k + 1, a, b, g, hk, h, a0, a1 => by
    obtain ⟨hR, h14, h264, hC24, hC, ho, hoo, h27⟩ := h
    obtain ⟨o1, o2, o3⟩ := ho k (by omega)
    obtain ⟨F, hF⟩ := nat_of o1
    have hF24 : F < 24 := by omega
    rw [hF, Int.toNat_natCast] at o3
    have hoF : (b 28 k).toNat = F := by rw [hF, Int.toNat_natCast]
    have oA : oAt (fun i => (b 28 i).toNat) (k + 1) = (F : Int) := by
      unfold oAt
      rw [if_neg (by omega)]
      show ((b 28 (k + 1 - 1)).toNat : Int) = _
      rw [show k + 1 - 1 = k by omega, hoF]
    have h27F := h27 F hF24
    have ec : ((k + 1 : Nat) : Int) - 1 = (k : Int) := by omega
    -- the next one on the model's side
    have nxt : ∀ (g1 : xB), (∀ r, r ≠ 78 → g1 r = g r) → ∀ (Q : xB → Prop) (K : xB → Int → Int → Prop) (x : Int), w_m_warm_h91 Q K (k + 1) g1 l x (oAt (fun i => (b 28 i).toNat) k) → w_m_warm_j117 Q (w_m_warm_h91 Q K (k + 1)) g1 l x F = True := by
      intro g1 hg1 Q K x hK
      refine eq_true ?_
      have e71 : g1 71 = g 71 := hg1 71 (by omega)
      unfold w_m_warm_j117
      rw [show xw (374 + (F : Int)) = ((374 + F : Nat) : Int) from (xw_id (by omega) (by omega)).trans (by omega), Int.toNat_natCast, e_gd (by omega) (by omega), e71]
      refine pB_A (C := C) (N := N) (k := k) (o := fun i => (b 28 i).toNat) (by rw [e71]; exact hoo) (by omega) (fun i hi => ?_) hK
      rw [e71]
      show g 71 (374 + (b 28 i).toNat) < g 71 (374 + F) ↔ i < k
      constructor
      · intro z
        rcases Nat.lt_trichotomy i k with y | y | y
        · exact y
        · subst y
          rw [hoF] at z
          omega
        · have := hoo.2.2.2.1 k i y hi
          have this : g 71 (374 + (b 28 k).toNat) < g 71 (374 + (b 28 i).toNat) := this
          rw [hoF] at this
          omega
      · intro z
        have := hoo.2.2.2.1 i k z (by omega)
        have this : g 71 (374 + (b 28 i).toNat) < g 71 (374 + (b 28 k).toNat) := this
        rw [hoF] at this
        exact this
    have hk3 := kChan_le (b 17 F)
    by_cases hfirm : b 27 F = 0
    · by_cases hln : b 25 F = (l : Int)
      · have hkc : 1 ≤ kChan (b 17 F) := by
          obtain ⟨k0, k3, -⟩ := hR.1 F hF24 o3
          unfold kChan
          repeat' split
          all_goals omega
        obtain ⟨b1, g1, x, z1, z2, z3, z4, z5, z6, z7, z8⟩ := cut_in hF24 hl hlim (kChan (b 17 F)) a b g (Nat.le_refl _) hR hln h14 h264 a0 a1
        have e71 : g1 71 = g 71 := z3 71 (by omega)
        have e28 : b1 28 = b 28 := z2 28 (by omega)
        have e25 : b1 25 = b 25 := z2 25 (by omega)
        obtain ⟨b', g', a', y1, y2, y3, y4, y5, y6, y7, y8⟩ := cut_all (C := C) (N := N) hl hlim k x b1 g1 (by omega) ⟨z1, by rw [z2 14 (by omega)]; exact h14, by rw [e71]; exact h264, hC24, by rw [z2 186 (by omega)]; exact hC, by rw [e28, e25]; exact ho, by rw [e71, e28]; exact hoo, by rw [e71, z2 27 (by omega)]; exact h27⟩ z4 (by omega)
        refine ⟨b', g', a', y1, fun r hr => (y2 r hr).trans (z2 r hr), fun r hr => (y3 r hr).trans (z3 r hr), y4, by omega, fun z => ?_, fun Q K hK => ?_, fun Q K hK => ?_⟩
        · obtain ⟨w1, w2, w3⟩ := z6 z
          obtain ⟨w4, w5, w6⟩ := y6 (by omega)
          exact ⟨w4.trans w1, w5.trans w2, w6.trans w3⟩
        · have y7 := y7 Q K hK
          rw [w_X_cut_h13_s, ec, e_f (by omega), e_gd (by omega) (by omega), Int.toNat_natCast, hF, e_gd (by omega) (by omega), Int.toNat_natCast, e_t hln, e_gd (by omega) (by omega), e_t hfirm, R_chan_e hF24]
          refine ⟨kChan (b 17 F) + 1, ?_⟩
          rw [xw_id (by omega) (by omega)]
          refine z7 Q _ k ?_
          unfold w_X_cut_j145
          rw [xw_id (by omega) (by omega), show (k : Int) + -1 = (k : Int) - 1 by omega]
          exact y7
        · have y8 := y8 Q K hK
          rw [e28] at y8
          have nx := nxt g1 z3 Q K x y8
          have z8 := z8 (fun r16 g17 => w_m_warm_j117 Q (w_m_warm_h91 Q K (k + 1)) g17 l r16 F) (fun g17 r16 => w_m_warm_j117 Q (w_m_warm_h91 Q K (k + 1)) g17 l r16 F) (by simp only [nx])
          have hlo : a ≤ lim → w_m_warm_j117 Q (w_m_warm_h91 Q K (k + 1)) g l a F = True := fun z => by
            have w2 := (z6 z).2.1
            have w3 := (z6 z).2.2
            rw [w2, w3] at nx
            exact nx
          have sk := m_cut_skip (b := b) (g := g) (f := F) (l := l) (kc := kChan (b 17 F)) (a := a) (lim := lim) hR hF24 hl h264 (fun c hc hc3 => (wmV_01 b F c l).resolve_right (fun w => by have := (wmV_1.mp w).2.1; omega)) (Q := fun r16 g17 => w_m_warm_j117 Q (w_m_warm_h91 Q K (k + 1)) g17 l r16 F) (K := fun g17 r16 => w_m_warm_j117 Q (w_m_warm_h91 Q K (k + 1)) g17 l r16 F) (fun z => by simp only [hlo z]) ⟨_, z8⟩ (3 - kChan (b 17 F)) (by omega)
          rw [show kChan (b 17 F) + (3 - kChan (b 17 F)) = 3 by omega] at sk
          rw [w_m_warm_h91_s, oA, e_f (by omega), show xw (398 + (F : Int)) = ((398 + F : Nat) : Int) from (xw_id (by omega) (by omega)).trans (by omega), Int.toNat_natCast, e_gd (by omega) (by omega), ← h27F, e_t hfirm]
          exact sk
      · obtain ⟨b', g', a', y1, y2, y3, y4, y5, y6, y7, y8⟩ := cut_all (C := C) (N := N) hl hlim k a b g (by omega) ⟨hR, h14, h264, hC24, hC, ho, hoo, h27⟩ a0 a1
        refine ⟨b', g', a', y1, y2, y3, y4, y5, y6, fun Q K hK => ?_, fun Q K hK => ?_⟩
        · have y7 := y7 Q K hK
          rw [w_X_cut_h13_s, ec, e_f (by omega), e_gd (by omega) (by omega), Int.toNat_natCast, hF, e_gd (by omega) (by omega), Int.toNat_natCast, e_f hln]
          unfold w_X_cut_j145
          rw [xw_id (by omega) (by omega), show (k : Int) + -1 = (k : Int) - 1 by omega]
          exact y7
        · have y8 := y8 Q K hK
          have nx := nxt g (fun _ _ => rfl) Q K a y8
          have sk := m_cut_skip (b := b) (g := g) (f := F) (l := l) (kc := 0) (a := a) (lim := lim) hR hF24 hl h264 (fun c hc hc3 => (wmV_01 b F c l).resolve_right (fun w => hln (wmV_1.mp w).1)) (Q := fun r16 g17 => w_m_warm_j117 Q (w_m_warm_h91 Q K (k + 1)) g17 l r16 F) (K := fun g17 r16 => w_m_warm_j117 Q (w_m_warm_h91 Q K (k + 1)) g17 l r16 F) (fun z => by simp only [nx]) ⟨0 + 1, by
            rw [w_m_cut_h6_s, e_t (by omega)]
            simp only [nx]⟩ 3 (by omega)
          rw [w_m_warm_h91_s, oA, e_f (by omega), show xw (398 + (F : Int)) = ((398 + F : Nat) : Int) from (xw_id (by omega) (by omega)).trans (by omega), Int.toNat_natCast, e_gd (by omega) (by omega), ← h27F, e_t hfirm]
          exact sk
    · obtain ⟨b', g', a', y1, y2, y3, y4, y5, y6, y7, y8⟩ := cut_all (C := C) (N := N) hl hlim k a b g (by omega) ⟨hR, h14, h264, hC24, hC, ho, hoo, h27⟩ a0 a1
      refine ⟨b', g', a', y1, y2, y3, y4, y5, y6, fun Q K hK => ?_, fun Q K hK => ?_⟩
      · have y7 := y7 Q K hK
        rw [w_X_cut_h13_s, ec, e_f (by omega), e_gd (by omega) (by omega), Int.toNat_natCast, hF, e_gd (by omega) (by omega), Int.toNat_natCast, e_f hfirm]
        unfold w_X_cut_j145
        rw [xw_id (by omega) (by omega), show (k : Int) + -1 = (k : Int) - 1 by omega]
        by_cases hln : b 25 F = (l : Int)
        · rw [e_t hln, e_gd (by omega) (by omega)]
          exact y7
        · rw [e_f hln]
          exact y7
      · have y8 := y8 Q K hK
        have nx := nxt g (fun _ _ => rfl) Q K a y8
        rw [w_m_warm_h91_s, oA, e_f (by omega), show xw (398 + (F : Int)) = ((398 + F : Nat) : Int) from (xw_id (by omega) (by omega)).trans (by omega), Int.toNat_natCast, e_gd (by omega) (by omega), ← h27F, e_f hfirm]
        simp only [nx]
/-- one LINE -/
theorem line_A {M : Int} {n : Int} {b g : xB} {l : Nat} (hl : l < 4) (hn : n ≤ 200000) (h : rG M n b (g 71)) (hlev : levR b g) : ∃ b' g', rG M n b' (g' 71) ∧ levR b' g' ∧ (∀ r, r ≠ 45 → r ≠ 15 → r ≠ 16 → b' r = b r) ∧ (∀ r, r ≠ 71 → r ≠ 78 → g' r = g r) ∧ (∀ i, i < 268 ∨ 276 ≤ i → g' 71 i = g 71 i) ∧ (∀ (Q : xB → Prop) (K : xB → Prop) (m : Nat), w_X_coolLines_h2 Q K m b' ((l + 1 : Nat) : Int) → w_X_coolLines_h2 Q K (m + 1) b l) ∧ (∀ Q : xB → Prop, Q g' → w_m_warm g l Q) := by
  have hR := htR_of h hlev
  have hLl := h.2.1 l hl
  obtain ⟨C, hC⟩ := nat_of h.2.2.2.1.2.2.1
  obtain ⟨N, hN⟩ := nat_of h.2.2.1.2.1
  obtain ⟨p1, p2, p3, p4, p5, p6, p7, p8⟩ := h.2.2.2.1
  have sN : g 71 276 = (N : Int) := by rw [← h.2.2.1.1]; exact hN
  have hN24 : N ≤ 24 := by have := h.2.2.1.2.2.1; omega
  have ho : ∀ i, i < C → 0 ≤ b 28 i ∧ b 28 i < 24 ∧ b 25 (b 28 i).toNat ≠ -1 := fun i hi => by
    obtain ⟨q1, q2, q3, -⟩ := p6 i (by omega)
    exact ⟨q1, q2, q3⟩
  have hoo : oOK (g 71) (fun i => (b 28 i).toNat) C N := by
    refine ⟨hN24, sN, fun i hi => ?_, fun i j hi hj => p7 i j hi (by omega), fun f hf hp => ?_⟩
    · obtain ⟨q1, q2, q3, -⟩ := p6 i (by omega)
      have hpp := (p2 (b 28 i).toNat (by omega)).resolve_left (fun z => q3 z.1)
      show (b 28 i).toNat < N ∧ g 71 (326 + (b 28 i).toNat) ≠ -1
      rw [← (p1 (b 28 i).toNat (by omega)).1]
      exact ⟨by omega, q3⟩
    · rw [← (p1 f (by omega)).1] at hp
      obtain ⟨i, w1, w2⟩ := p8 f (by omega) hp
      exact ⟨i, by omega, by show (b 28 i).toNat = f; omega⟩
  have hsum : sumN (htO b l) C = sumN (htN b l) N := by
    refine sum_perm (φ := htN b l) (o := fun i => (b 28 i).toNat) (N := N) C (htN b l) (fun i hi => (hoo.2.2.1 i hi).1) (fun i j hi hj z => ?_) (fun _ _ => rfl) (fun f hf hnf => ?_)
    · have := p7 i j hi (by omega)
      have z : (b 28 i).toNat = (b 28 j).toNat := z
      rw [z] at this
      exact Int.lt_irrefl _ this
    · unfold htN
      refine if_neg (fun e => ?_)
      obtain ⟨i, w1, w2⟩ := p8 f (by omega) (by omega)
      exact hnf i (by omega) (by show (b 28 i).toNat = f; omega)
  have sb := sumN_bd (φ := htN b l) (B := 600) N (fun f hf => htN_bd hR (by omega))
  have h14 : b 14 l = g 71 (264 + l) := hLl.1
  obtain ⟨b1, g1, a', z1, z2, z3, z4, z5, z6, z7, z8⟩ := cut_all (l := l) (C := C) (N := N) (lim := b 14 l) hl hLl.2.2.2.1 C (sumN (htN b l) N) b g (Nat.le_refl C) ⟨hR, rfl, h14.symm, by omega, hC, ho, hoo, fun f hf => (p1 f hf).2.2.1⟩ (by omega) (by omega)
  have e71 : g1 71 = g 71 := z3 71 (by omega)
  have B1 : ∀ r, r ≠ 45 → b1 r = b r := z2
  have ov : ∃ v : Int, (v = 0 ∨ v = 1) ∧ v = (if b 14 l < a' then 1 else 0) := ⟨if b 14 l < a' then 1 else 0, by split <;> omega, rfl⟩
  obtain ⟨v, v01, hv⟩ := ov
  have hlev1 : levR b1 g1 := z1.1.2.1
  refine ⟨x_up (x_up b1 15 l a') 16 l v, x_up (x_up g1 71 (268 + l) a') 71 (272 + l) v, ?_, ?_, fun r a1 a2 a3 => by rw [upR a3, upR a2]; exact B1 r a1, fun r a1 a2 => by rw [upR a1, upR a1]; exact z3 r a2, fun i hi => by simp (disch := omega) only [up_eq, up_r, up_i, fil_in, fil_i, fil_r]; rw [e71], fun Q K m hK => ?_, fun Q hQ => ?_⟩
  · have E : ∀ r, r ≠ 45 ∧ r ≠ 15 ∧ r ≠ 16 → x_up (x_up b1 15 l a') 16 l v r = b r := fun r hr => by rw [upR hr.2.2, upR hr.2.1]; exact B1 r hr.1
    have S : ∀ i, i < 268 ∨ 276 ≤ i → x_up (x_up g1 71 (268 + l) a') 71 (272 + l) v 71 i = g 71 i := fun i hi => by simp (disch := omega) only [up_eq, up_r, up_i, fil_in, fil_i, fil_r]; rw [e71]
    obtain ⟨hF, hL, hR', hP, hV, hQ, hY, hX, u1, u2, u3, u4⟩ := h
    refine ⟨rF_c hF (E _ (by omega)) (fun i _ _ => S i (by omega)), ?_, rR_c hR' (E _ (by omega)) (E _ (by omega)) (E _ (by omega)) (E _ (by omega)) (E _ (by omega)) (E _ (by omega)) (E _ (by omega)) (E _ (by omega)) (E _ (by omega)) (fun i hi => S i (by omega)), rP_c hP (E _ (by omega)) (E _ (by omega)) (E _ (by omega)) (E _ (by omega)) (E _ (by omega)) (E _ (by omega)) (E _ (by omega)) (fun i hi => S i (by omega)), rV_c hV (E _ (by omega)) (E _ (by omega)) (E _ (by omega)) (E _ (by omega)) (E _ (by omega)) (fun i _ hi => S i (by omega)), rQ_c hQ (E _ (by omega)) (E _ (by omega)) (E _ (by omega)) (E _ (by omega)) (E _ (by omega)) (E _ (by omega)) (E _ (by omega)) (E _ (by omega)) (by rw [E 161 (by omega)]; exact Int.le_refl _) (fun i _ hi => S i (by omega)), rY_c hY (E _ (by omega)) (E _ (by omega)) (E _ (by omega)) (E _ (by omega)) (E _ (by omega)) (E _ (by omega)) (E _ (by omega)) (E _ (by omega)) (E _ (by omega)) (E _ (by omega)) (E _ (by omega)) (E _ (by omega)) (E _ (by omega)) (fun i _ => by rw [E 39 (by omega)]; exact Int.le_refl _) (by rw [E 108 (by omega)]; exact Int.le_refl _) (by rw [E 161 (by omega)]; exact Int.le_refl _) (fun _ _ => by rw [E 17 (by omega)]) (by rw [E 110 (by omega)]; exact Int.le_refl _) (fun i _ _ hi => S i (by omega)), rX_c hX (E _ (by omega)) (E _ (by omega)) (E _ (by omega)) (E _ (by omega)) (E _ (by omega)) (by rw [E 161 (by omega)]; exact Int.le_refl _) (fun _ _ => by rw [E 17 (by omega)]) (fun i hi => S i (by omega)), by rw [E 110 (by omega), S 3766 (by omega)]; exact u1, by rw [E 110 (by omega)]; exact u2, by rw [E 110 (by omega)]; exact u3, by rw [S 3767 (by omega)]; exact u4⟩
    intro k hk
    obtain ⟨q1, q2, q3, q4, q5, q6, q7⟩ := hL k hk
    unfold rL1
    rw [E 14 (by omega), E 11 (by omega), E 12 (by omega), E 13 (by omega), S (264 + k) (by omega), S k (by omega), S (4 + k) (by omega)]
    have q7' : (b 13 k = 1 ∧ g 71 k = 1 ∧ b 12 k = g 71 (4 + k) ∧ 0 ≤ b 12 k ∧ b 12 k ≤ 64 ∧ ∀ p : Nat, (p : Int) < b 12 k → b 11 (k * 64 + p) = x_up (x_up g1 71 (268 + l) a') 71 (272 + l) v 71 (8 + (k * 64 + p)) ∧ 0 ≤ b 11 (k * 64 + p) ∧ b 11 (k * 64 + p) ≤ 255) ∨ (b 13 k = 0 ∧ g 71 k = 2 ∧ b 12 k = g 71 (4 + k) ∧ 0 ≤ b 12 k ∧ b 12 k ≤ 64) ∨ (b 13 k = 0 ∧ g 71 k = 0 ∧ b 12 k = -1 ∧ g 71 (4 + k) = 0) := by
      rcases q7 with ⟨c1, c2, c3, c4, c5, c6⟩ | c | c
      · exact Or.inl ⟨c1, c2, c3, c4, c5, fun p hp => by rw [S (8 + (k * 64 + p)) (by omega)]; exact c6 p hp⟩
      · exact Or.inr (Or.inl c)
      · exact Or.inr (Or.inr c)
    by_cases e : k = l
    · subst e
      refine ⟨q1, by simp (disch := omega) only [up_eq, up_r, up_i, fil_in, fil_i, fil_r], by simp (disch := omega) only [up_eq, up_r, up_i, fil_in, fil_i, fil_r], q4, q5, by simp (disch := omega) only [up_eq, up_r, up_i, fil_in, fil_i, fil_r]; exact v01, q7'⟩
    · refine ⟨q1, ?_, ?_, q4, q5, ?_, q7'⟩
      · simp (disch := omega) only [up_eq, up_r, up_i, fil_in, fil_i, fil_r]
        rw [B1 15 (by omega), e71]
        exact q2
      · simp (disch := omega) only [up_eq, up_r, up_i, fil_in, fil_i, fil_r]
        rw [B1 16 (by omega), e71]
        exact q3
      · simp (disch := omega) only [up_eq, up_r, up_i, fil_in, fil_i, fil_r]
        rw [B1 16 (by omega)]
        exact q6
  · intro f c hf hp hc
    have := hlev1 f c hf hp hc
    exact this
  · have tail : w_X_coolLines_j33 Q (w_X_coolLines_h2 Q K m) b1 l a' := by
      unfold w_X_coolLines_j33 w_X_coolLines_j69
      rw [Int.toNat_natCast, e_gd (by omega) (by omega), e_gd (by omega) (by omega), e_gd (by omega) (by omega), e_gd (by omega) (by omega), e_bg1, e_bg0, up_r (by omega), B1 14 (by omega), xw_id (by omega) (by omega), show (l : Int) + 1 = ((l + 1 : Nat) : Int) by omega]
      by_cases e : b 14 l < a'
      · rw [if_pos e] at hv
        rw [e_t e, ← hv]
        exact hK
      · rw [if_neg e] at hv
        rw [e_f e, ← hv]
        exact hK
    rw [w_X_coolLines_h2_s, e_t (by omega)]
    refine ⟨C + 1, ?_⟩
    refine X_heat_A (b := b) (g := g) hR hl hC (by omega) ho (Q := fun r1 b2 => x_gd l 4 (x_br ((b2 14 l) < r1) (w_X_cut b2 l r1 (fun r3 b4 => w_X_coolLines_j33 Q (w_X_coolLines_h2 Q K m) b4 l r3)) (w_X_coolLines_j33 Q (w_X_coolLines_h2 Q K m) b2 l r1))) ?_ C 0 (by omega)
    show x_gd l 4 (x_br (b 14 l < _) _ _)
    rw [e_gd (by omega) (by omega), hsum]
    by_cases e : b 14 l < sumN (htN b l) N
    · rw [e_t e]
      unfold w_X_cut
      rw [hC, xw_id (by omega) (by omega)]
      exact ⟨C + 1, z7 _ _ tail⟩
    · obtain ⟨w1, w2, w3⟩ := z6 (by omega)
      rw [w1, w3] at tail
      rw [e_f e]
      exact tail
  · have n3767 := h.2.2.2.2.2.2.2.2.2.2.2
    by_cases e : b 14 l < a'
    · rw [if_pos e] at hv
      subst hv
      have e2 : g1 71 (264 + l) < a' := by rw [e71, ← h14]; exact e
      refine ⟨N + 1, m_sum_A (b := b) hR hl sN hN24 ?_ N 0 (by omega)⟩
      rw [xw_id (by omega) (by omega)]
      refine pB_A hoo (Nat.le_refl C) (fun i hi => ?_) ?_
      · have := (p6 i (by omega)).2.2.2.2
        show g 71 (374 + (b 28 i).toNat) < g 71 3767 + 1 ↔ i < C
        exact ⟨fun _ => hi, fun _ => by omega⟩
      · refine ⟨C + 1, z8 Q _ ?_⟩
        simp (disch := omega) only [e_T, e_F, e_t, e_f, e_gd, e_bg0, e_bg1, e_nz, Int.toNat_natCast, Int.toNat_add, Int.toNat_mul, xw_al, xw_ar, xw_ml, xw_mr, xw_sl, xw_sr, xw_id, x_sl_c, mc3, mc6, mc8, mc12, mc64, mc72, Nat.add_assoc, Int.reduceToNat, L_isLine_t, L_isLine_f, R_has_t, R_has_f, R_isCh_t, R_isCh_f, V_isCurve_t, V_isCurve_f, Q_isCue_t, Q_isCue_f, Q_isList_t, Q_isList_f, B_isPb_t, B_isPb_f, m_in_t, m_in_f, m_isLine_t, m_isLine_f, m_isPb_t, m_isPb_f, m_isFx_t, m_isFx_f, F_note_e, m_finds_e, Int.reduceToNat, noted_neg, up_eq, up_r, up_i, fil_in, fil_i, fil_r]
        exact hQ
    · rw [if_neg e] at hv
      subst hv
      have e2 : ¬ g1 71 (264 + l) < a' := by rw [e71, ← h14]; exact e
      refine ⟨N + 1, m_sum_A (b := b) hR hl sN hN24 ?_ N 0 (by omega)⟩
      rw [xw_id (by omega) (by omega)]
      refine pB_A hoo (Nat.le_refl C) (fun i hi => ?_) ?_
      · have := (p6 i (by omega)).2.2.2.2
        show g 71 (374 + (b 28 i).toNat) < g 71 3767 + 1 ↔ i < C
        exact ⟨fun _ => hi, fun _ => by omega⟩
      · refine ⟨C + 1, z8 Q _ ?_⟩
        simp (disch := omega) only [e_T, e_F, e_t, e_f, e_gd, e_bg0, e_bg1, e_nz, Int.toNat_natCast, Int.toNat_add, Int.toNat_mul, xw_al, xw_ar, xw_ml, xw_mr, xw_sl, xw_sr, xw_id, x_sl_c, mc3, mc6, mc8, mc12, mc64, mc72, Nat.add_assoc, Int.reduceToNat, L_isLine_t, L_isLine_f, R_has_t, R_has_f, R_isCh_t, R_isCh_f, V_isCurve_t, V_isCurve_f, Q_isCue_t, Q_isCue_f, Q_isList_t, Q_isList_f, B_isPb_t, B_isPb_f, m_in_t, m_in_f, m_isLine_t, m_isLine_f, m_isPb_t, m_isPb_f, m_isFx_t, m_isFx_f, F_note_e, m_finds_e, Int.reduceToNat, noted_neg, up_eq, up_r, up_i, fil_in, fil_i, fil_r]
        exact hQ
theorem lines_A {M : Int} {n : Int} (hn : n ≤ 200000) : ∀ (k l : Nat) (b g : xB), l + k = 4 → rG M n b (g 71) → levR b g → ∃ b' g', rG M n b' (g' 71) ∧ levR b' g' ∧ (∀ r, r ≠ 45 → r ≠ 15 → r ≠ 16 → b' r = b r) ∧ (∀ r, r ≠ 71 → r ≠ 78 → g' r = g r) ∧ (∀ i, i < 268 ∨ 276 ≤ i → g' 71 i = g 71 i) ∧ (∀ (Q : xB → Prop) (K : xB → Prop), K b' → w_X_coolLines_h2 Q K (k + 1) b l) ∧ (∀ (Q : xB → Prop) (K : xB → Prop), K g' → w_m_tickOnce_h94 Q K (k + 1) g l)
  | 0, l, b, g, hl, h, hlev => by
    refine ⟨b, g, h, hlev, fun _ _ _ _ => rfl, fun _ _ _ => rfl, fun _ _ => rfl, fun Q K hK => ?_, fun Q K hK => ?_⟩
    · rw [w_X_coolLines_h2_s, e_f (by omega)]
      exact hK
    · rw [w_m_tickOnce_h94_s, e_f (by omega)]
      exact hK
  | k + 1, l, b, g, hl, h, hlev => by
    obtain ⟨b1, g1, z1, z2, z3, z4, z5, z6, z7⟩ := line_A (l := l) (by omega) hn h hlev
    obtain ⟨b', g', y1, y2, y3, y4, y5, y6, y7⟩ := lines_A hn k (l + 1) b1 g1 (by omega) z1 z2
    refine ⟨b', g', y1, y2, fun r a1 a2 a3 => (y3 r a1 a2 a3).trans (z3 r a1 a2 a3), fun r a1 a2 => (y4 r a1 a2).trans (z4 r a1 a2), fun i hi => (y5 i hi).trans (z5 i hi), fun Q K hK => z6 Q K (k + 1) (y6 Q K hK), fun Q K hK => ?_⟩
    have y7 := y7 Q K hK
    rw [w_m_tickOnce_h94_s, e_t (by omega)]
    refine z7 _ ?_
    rw [xw_id (by omega) (by omega), show (l : Int) + 1 = ((l + 1 : Nat) : Int) by omega]
    exact y7
