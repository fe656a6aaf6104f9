/-! ===== a TICK: LINES are cooled, one after the other ===== -/
theorem oOK_c {s s' : Nat → Int} {o : Nat → Nat} {C N : Nat} (h : oOK s o C N) (hs : ∀ i, (276 ≤ i ∧ i < 422) → s' i = s i) : oOK s' o C N := by
  obtain ⟨h1, h2, h3, h4, h5⟩ := h
  refine ⟨h1, by rw [hs 276 (by omega)]; exact h2, fun i hi => ?_, fun i j hi hj => ?_, fun f hf hp => ?_⟩
  · have := h3 i hi
    rw [hs _ (by omega)]
    exact this
  · have a := (h3 i (by omega)).1
    have c := (h3 j hj).1
    rw [hs _ (by omega), hs _ (by omega)]
    exact h4 i j hi hj
  · rw [hs _ (by omega)] at hp
    exact h5 f hf hp
/-- what the cuts keep -/
def cuR (b g : xB) (l C N : Nat) (lim : Int) : Prop := htR b g ∧ b 14 l = lim ∧ g 71 (264 + l) = lim ∧ C ≤ 24 ∧ b 186 0 = (C : Int) ∧ (∀ i, i < C → 0 ≤ b 28 i ∧ b 28 i < 24 ∧ b 25 (b 28 i).toNat ≠ -1) ∧ oOK (g 71) (fun i => (b 28 i).toNat) C N ∧ (∀ f, f < 24 → b 27 f = g 71 (398 + f))
theorem cut_all {l C N : Nat} {lim : Int} (hl : l < 4) (hlim : 0 ≤ lim) : ∀ (k : Nat) (a : Int) (b g : xB), k ≤ C → cuR b g l C N lim → -200 ≤ a → a ≤ 20000 → ∃ (b' g' : xB) (a' : Int), cuR b' g' l C N lim ∧ (∀ r, r ≠ 45 → b' r = b r) ∧ (∀ r, r ≠ 78 → g' r = g r) ∧ -200 ≤ a' ∧ a' ≤ a ∧ (a ≤ lim → b' = b ∧ g' = g ∧ a' = a) ∧ (∀ (Q : Int → xB → Prop) (K : xB → Int → Prop), K b' a' → w_X_cut_h13 Q K (k + 1) b l a ((k : Int) - 1)) ∧ (∀ (Q : xB → Prop) (K : xB → Int → Int → Prop), K g' l a' → w_m_warm_h91 Q K (k + 1) g l a (oAt (fun i => (b 28 i).toNat) k))
  | 0, a, b, g, hk, h, a0, a1 => by
    refine ⟨b, g, a, h, fun _ _ => rfl, fun _ _ => rfl, a0, Int.le_refl _, fun _ => ⟨rfl, rfl, rfl⟩, fun Q K hK => ?_, fun Q K hK => ?_⟩
    · rw [w_X_cut_h13_s, e_t (by omega)]
      exact hK
    · rw [w_m_warm_h91_s, e_t (by unfold oAt; rw [if_pos rfl])]
      exact hK
  | k + 1, a, b, g, hk, h, a0, a1 => by
    obtain ⟨hR, h14, h264, hC24, hC, ho, hoo, h27⟩ := h
    obtain ⟨o1, o2, o3⟩ := ho k (by omega)
    obtain ⟨F, hF⟩ := nat_of o1
    have hF24 : F < 24 := by omega
    rw [hF, Int.toNat_natCast] at o3
    have hoF : (b 28 k).toNat = F := by rw [hF, Int.toNat_natCast]
    have oA : oAt (fun i => (b 28 i).toNat) (k + 1) = (F : Int) := by
      unfold oAt
      rw [if_neg (by omega)]
      show ((b 28 (k + 1 - 1)).toNat : Int) = _
      rw [show k + 1 - 1 = k by omega, hoF]
    have h27F := h27 F hF24
    have ec : ((k + 1 : Nat) : Int) - 1 = (k : Int) := by omega
    -- the next one on the model's side
    have nxt : ∀ (g1 : xB), (∀ r, r ≠ 78 → g1 r = g r) → ∀ (Q : xB → Prop) (K : xB → Int → Int → Prop) (x : Int), w_m_warm_h91 Q K (k + 1) g1 l x (oAt (fun i => (b 28 i).toNat) k) → w_m_warm_j117 Q (w_m_warm_h91 Q K (k + 1)) g1 l x F = True := by
      intro g1 hg1 Q K x hK
      refine eq_true ?_
      have e71 : g1 71 = g 71 := hg1 71 (by omega)
      unfold w_m_warm_j117
      rw [show xw (374 + (F : Int)) = ((374 + F : Nat) : Int) from (xw_id (by omega) (by omega)).trans (by omega), Int.toNat_natCast, e_gd (by omega) (by omega), e71]
      refine pB_A (C := C) (N := N) (k := k) (o := fun i => (b 28 i).toNat) (by rw [e71]; exact hoo) (by omega) (fun i hi => ?_) hK
      rw [e71]
      show g 71 (374 + (b 28 i).toNat) < g 71 (374 + F) ↔ i < k
      constructor
      · intro z
        rcases Nat.lt_trichotomy i k with y | y | y
        · exact y
        · subst y
          rw [hoF] at z
          omega
        · have := hoo.2.2.2.1 k i y hi
          have this : g 71 (374 + (b 28 k).toNat) < g 71 (374 + (b 28 i).toNat) := this
          rw [hoF] at this
          omega
      · intro z
        have := hoo.2.2.2.1 i k z (by omega)
        have this : g 71 (374 + (b 28 i).toNat) < g 71 (374 + (b 28 k).toNat) := this
        rw [hoF] at this
        exact this
    have e398 : xw (398 + (F : Int)) = ((398 + F : Nat) : Int) := (xw_id (by omega) (by omega)).trans (by omega)
    by_cases hfirm : b 27 F = 0
    · by_cases hln : b 25 F = (l : Int)
      · have hkc : 1 ≤ kChan (b 17 F) := by
          obtain ⟨k0, k3, -⟩ := hR.1 F hF24 o3
          unfold kChan
          repeat' split
          all_goals omega
        obtain ⟨b1, g1, x, z1, z2, z3, z4, z5, z6, z7, z8⟩ := cut_in hF24 hl hlim (kChan (b 17 F)) a b g (Nat.le_refl _) hR hln h14 h264 a0 a1
        have e71 : g1 71 = g 71 := z3 71 (by omega)
        have e28 : b1 28 = b 28 := z2 28 (by omega)
        have e25 : b1 25 = b 25 := z2 25 (by omega)
        obtain ⟨b', g', a', y1, y2, y3, y4, y5, y6, y7, y8⟩ := cut_all (C := C) (N := N) hl hlim k x b1 g1 (by omega) ⟨z1, by rw [z2 14 (by omega)]; exact h14, by rw [e71]; exact h264, hC24, by rw [z2 186 (by omega)]; exact hC, by rw [e28, e25]; exact ho, by rw [e71, e28]; exact hoo, by rw [e71, z2 27 (by omega)]; exact h27⟩ z4 (by omega)
        refine ⟨b', g', a', y1, fun r hr => (y2 r hr).trans (z2 r hr), fun r hr => (y3 r hr).trans (z3 r hr), y4, by omega, fun z => ?_, fun Q K hK => ?_, fun Q K hK => ?_⟩
        · obtain ⟨w1, w2, w3⟩ := z6 z
          obtain ⟨w4, w5, w6⟩ := y6 (by omega)
          exact ⟨w4.trans w1, w5.trans w2, w6.trans w3⟩
        · have y7 := y7 Q K hK
          rw [w_X_cut_h13_s, ec, e_f (by omega), e_gd (by omega) (by omega), Int.toNat_natCast, hF, e_gd (by omega) (by omega), Int.toNat_natCast, e_t hln, e_gd (by omega) (by omega), e_t hfirm, R_chan_e hF24]
          refine ⟨kChan (b 17 F) + 1, ?_⟩
          rw [xw_id (by omega) (by omega)]
          refine z7 Q _ k ?_
          unfold w_X_cut_j145
          rw [xw_id (by omega) (by omega), show (k : Int) + -1 = (k : Int) - 1 by omega]
          exact y7
        · have y8 := y8 Q K hK
          rw [e28] at y8
          have nx := nxt g1 z3 Q K x y8
          have z8 := z8 (fun _ _ => True) (fun g17 r16 => w_m_warm_j117 Q (w_m_warm_h91 Q K (k + 1)) g17 l r16 F) (by rw [nx]; trivial)
          rw [w_m_warm_h91_s, oA, e_f (by omega), e398, Int.toNat_natCast, e_gd (by omega) (by omega), ← h27F, e_t hfirm]
          have hk3 := kChan_le (b 17 F)
          have z9 := fun (Q' : Int → xB → Prop) => z8
          have sk := m_cut_skip (b := b) (g := g) (f := F) (l := l) (kc := kChan (b 17 F)) (a := a) (lim := lim) hR hF24 hl h264 (fun c hc hc3 => (wmV_01 b F c l).resolve_right (fun w => by have := (wmV_1.mp w).2.1; omega)) (Q := fun r16 g17 => w_m_warm_j117 Q (w_m_warm_h91 Q K (k + 1)) g17 l r16 F) (K := fun g17 r16 => w_m_warm_j117 Q (w_m_warm_h91 Q K (k + 1)) g17 l r16 F) (fun z => by
            obtain ⟨w1, w2, w3⟩ := z6 z
            rw [w2, w3] at nx
            rw [nx]
            trivial) ⟨kChan (b 17 F) + 1, by
            have := (cut_in_m z8)
            exact this⟩ (3 - kChan (b 17 F)) (by omega)
          rw [show kChan (b 17 F) + (3 - kChan (b 17 F)) = 3 by omega] at sk
          exact sk
      · sorry
    · sorry
