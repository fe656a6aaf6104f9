/-! ===== the beginning ===== -/
def mI (i : Nat) : Int := if 264 ≤ i ∧ i < 268 then 1000000 else if (326 ≤ i ∧ i < 374) ∨ (446 ≤ i ∧ i < 662) ∨ (1726 ≤ i ∧ i < 1734) ∨ (1738 ≤ i ∧ i < 1742) then -1 else if (1734 ≤ i ∧ i < 1738) ∨ i = 3768 then 100 else 0
theorem beg2 : ∀ (k v : Nat) (g : xB), v + k = 3779 → ∀ Q K : xB → Prop, K (x_fil g 71 v k 0) → w_m_begin_h2 Q K (k + 1) g v
  | 0, v, g, hv, Q, K, hK => by
    rw [fil0] at hK
    rw [w_m_begin_h2_s, e_f (by omega)]
    exact hK
  | k + 1, v, g, hv, Q, K, hK => by
    rw [w_m_begin_h2_s, e_t (by omega), e_gd (by omega) (by omega), Int.toNat_natCast, xw_id (by omega) (by omega), show (v : Int) + 1 = ((v + 1 : Nat) : Int) by omega]
    exact beg2 k (v + 1) _ (by omega) Q K (by rw [fil_s]; exact hK)
theorem beg130 : ∀ (k v : Nat) (g : xB), v + k = 144 → ∀ Q K : xB → Prop, K (x_fil g 71 (446 + v) k (-1)) → ∃ n, w_m_begin_h130 Q K n g v
  | 0, v, g, hv, Q, K, hK => by
    rw [fil0] at hK
    refine ⟨1, ?_⟩
    rw [w_m_begin_h130_s, e_f (by omega)]
    exact hK
  | k + 1, v, g, hv, Q, K, hK => by
    obtain ⟨n, ih⟩ := beg130 k (v + 1) (x_up g 71 (446 + v) (-1)) (by omega) Q K (by rw [show 446 + (v + 1) = 446 + v + 1 by omega, fil_s]; exact hK)
    refine ⟨n + 1, ?_⟩
    rw [w_m_begin_h130_s, e_t (by omega), show xw (446 + (v : Int)) = ((446 + v : Nat) : Int) from (xw_id (by omega) (by omega)).trans (by omega), e_gd (by omega) (by omega), Int.toNat_natCast, xw_id (by omega) (by omega), show (v : Int) + 1 = ((v + 1 : Nat) : Int) by omega]
    exact ih
theorem beg156 : ∀ (k v : Nat) (g : xB), v + k = 72 → ∀ Q K : xB → Prop, K (x_fil g 71 (590 + v) k (-1)) → ∃ n, w_m_begin_h156 Q K n g v
  | 0, v, g, hv, Q, K, hK => by
    rw [fil0] at hK
    refine ⟨1, ?_⟩
    rw [w_m_begin_h156_s, e_f (by omega)]
    exact hK
  | k + 1, v, g, hv, Q, K, hK => by
    obtain ⟨n, ih⟩ := beg156 k (v + 1) (x_up g 71 (590 + v) (-1)) (by omega) Q K (by rw [show 590 + (v + 1) = 590 + v + 1 by omega, fil_s]; exact hK)
    refine ⟨n + 1, ?_⟩
    rw [w_m_begin_h156_s, e_t (by omega), show xw (590 + (v : Int)) = ((590 + v : Nat) : Int) from (xw_id (by omega) (by omega)).trans (by omega), e_gd (by omega) (by omega), Int.toNat_natCast, xw_id (by omega) (by omega), show (v : Int) + 1 = ((v + 1 : Nat) : Int) by omega]
    exact ih
theorem beg94 : ∀ (k v : Nat) (g : xB), v + k = 24 → ∃ g', (∀ r, r ≠ 71 → g' r = g r) ∧ (∀ i, g' 71 i = if (326 + v ≤ i ∧ i < 350) ∨ (350 + v ≤ i ∧ i < 374) then -1 else g 71 i) ∧ ∀ Q K : xB → Prop, K g' → ∃ n, w_m_begin_h94 Q K n g v
  | 0, v, g, hv => by
    refine ⟨g, fun _ _ => rfl, fun i => by rw [if_neg (by omega)], fun Q K hK => ⟨1, ?_⟩⟩
    rw [w_m_begin_h94_s, e_f (by omega)]
    exact hK
  | k + 1, v, g, hv => by
    obtain ⟨g', z1, z2, z3⟩ := beg94 k (v + 1) (x_up (x_up g 71 (326 + v) (-1)) 71 (350 + v) (-1)) (by omega)
    refine ⟨g', fun r hr => by rw [z1 r hr, upR hr, upR hr], fun i => ?_, fun Q K hK => ?_⟩
    · rw [z2]
      by_cases e1 : i = 350 + v
      · subst e1
        rw [up_eq, if_pos (c := (326 + v ≤ 350 + v ∧ 350 + v < 350) ∨ (350 + v ≤ 350 + v ∧ 350 + v < 374)) (by omega)]
        split <;> rfl
      · rw [up_i e1]
        by_cases e2 : i = 326 + v
        · subst e2
          rw [up_eq, if_pos (c := (326 + v ≤ 326 + v ∧ 326 + v < 350) ∨ (350 + v ≤ 326 + v ∧ 326 + v < 374)) (by omega)]
          split <;> rfl
        · rw [up_i e2]
          by_cases e3 : (326 + v ≤ i ∧ i < 350) ∨ (350 + v ≤ i ∧ i < 374)
          · rw [if_pos (by omega), if_pos e3]
          · rw [if_neg (by omega), if_neg e3]
    · obtain ⟨n, ih⟩ := z3 Q K hK
      refine ⟨n + 1, ?_⟩
      rw [w_m_begin_h94_s, e_t (by omega), show xw (326 + (v : Int)) = ((326 + v : Nat) : Int) from (xw_id (by omega) (by omega)).trans (by omega), show xw (350 + (v : Int)) = ((350 + v : Nat) : Int) from (xw_id (by omega) (by omega)).trans (by omega), e_gd (by omega) (by omega), e_gd (by omega) (by omega), Int.toNat_natCast, Int.toNat_natCast, xw_id (by omega) (by omega), show (v : Int) + 1 = ((v + 1 : Nat) : Int) by omega]
      exact ih
theorem beg24 : ∀ (k v : Nat) (g : xB), v + k = 4 → ∃ g', (∀ r, r ≠ 71 → g' r = g r) ∧ (∀ i, g' 71 i = if 264 + v ≤ i ∧ i < 268 then 1000000 else if (1726 + v ≤ i ∧ i < 1730) ∨ (1730 + v ≤ i ∧ i < 1734) ∨ (1738 + v ≤ i ∧ i < 1742) then -1 else if 1734 + v ≤ i ∧ i < 1738 then 100 else g 71 i) ∧ ∀ Q K : xB → Prop, K g' → ∃ n, w_m_begin_h24 Q K n g v
  | 0, v, g, hv => by
    refine ⟨g, fun _ _ => rfl, fun i => by rw [if_neg (by omega), if_neg (by omega), if_neg (by omega)], fun Q K hK => ⟨1, ?_⟩⟩
    rw [w_m_begin_h24_s, e_f (by omega)]
    exact hK
  | k + 1, v, g, hv => by
    obtain ⟨g', z1, z2, z3⟩ := beg24 k (v + 1) (x_up (x_up (x_up (x_up (x_up g 71 (264 + v) 1000000) 71 (1726 + v) (-1)) 71 (1730 + v) (-1)) 71 (1734 + v) 100) 71 (1738 + v) (-1)) (by omega)
    refine ⟨g', fun r hr => by rw [z1 r hr, upR hr, upR hr, upR hr, upR hr, upR hr], fun i => ?_, fun Q K hK => ?_⟩
    · rw [z2]
      unfold x_up
      repeat' split
      all_goals omega
    · obtain ⟨n, ih⟩ := z3 Q K hK
      refine ⟨n + 1, ?_⟩
      rw [w_m_begin_h24_s, e_t (by omega), show xw (264 + (v : Int)) = ((264 + v : Nat) : Int) from (xw_id (by omega) (by omega)).trans (by omega), show xw (1726 + (v : Int)) = ((1726 + v : Nat) : Int) from (xw_id (by omega) (by omega)).trans (by omega), show xw (1730 + (v : Int)) = ((1730 + v : Nat) : Int) from (xw_id (by omega) (by omega)).trans (by omega), show xw (1734 + (v : Int)) = ((1734 + v : Nat) : Int) from (xw_id (by omega) (by omega)).trans (by omega), show xw (1738 + (v : Int)) = ((1738 + v : Nat) : Int) from (xw_id (by omega) (by omega)).trans (by omega), e_gd (by omega) (by omega), e_gd (by omega) (by omega), e_gd (by omega) (by omega), e_gd (by omega) (by omega), e_gd (by omega) (by omega), Int.toNat_natCast, Int.toNat_natCast, Int.toNat_natCast, Int.toNat_natCast, Int.toNat_natCast, xw_id (by omega) (by omega), show (v : Int) + 1 = ((v + 1 : Nat) : Int) by omega]
      exact ih
theorem begin_A (g : xB) : ∃ g', (∀ r, r ≠ 71 → g' r = g r) ∧ (∀ i, i < 3779 → g' 71 i = mI i) ∧ ∀ Q : xB → Prop, Q g' → w_m_begin g Q := by
  obtain ⟨g2, p1, p2, p3⟩ := beg24 4 0 (x_fil g 71 0 3779 0) (by omega)
  obtain ⟨g3, q1, q2, q3⟩ := beg94 24 0 g2 (by omega)
  refine ⟨x_up (x_fil (x_fil g3 71 (446 + 0) 144 (-1)) 71 (590 + 0) 72 (-1)) 71 3768 100, fun r hr => by rw [upR hr, filR hr, filR hr, q1 r hr, p1 r hr, filR hr], fun i hi => ?_, fun Q hQ => ?_⟩
  · unfold mI
    unfold x_up x_fil
    rw [q2, p2]
    unfold x_fil
    repeat' split
    all_goals omega
  · exact ⟨3779 + 1, beg2 3779 0 g (by omega) Q _ (p3 Q _ (q3 Q _ (beg130 144 0 _ (by omega) Q _ (beg156 72 0 _ (by omega) Q _ hQ))))⟩
