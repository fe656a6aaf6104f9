/-! ===== the law's loop (by program) ===== -/
def zX (t : xB) (N : Nat) : Prop := t 65 0 = (N : Int) ∧ N ≤ 3072 ∧ ∀ i : Nat, i < N → x_in (t 64 i)
theorem xs1 {p : Nat} (h : p ≤ 10000) : xw ((p : Int) + 1) = ((p + 1 : Nat) : Int) := (xw_id (by omega) (by omega)).trans (by omega)
theorem xs2 {p : Nat} (h : p ≤ 10000) : xw ((p : Int) + 2) = ((p + 2 : Nat) : Int) := (xw_id (by omega) (by omega)).trans (by omega)
theorem xs3 {p : Nat} (h : p ≤ 10000) : xw ((p : Int) + 3) = ((p + 3 : Nat) : Int) := (xw_id (by omega) (by omega)).trans (by omega)
theorem xs4 {p : Nat} (h : p ≤ 10000) : xw ((p : Int) + 4) = ((p + 4 : Nat) : Int) := (xw_id (by omega) (by omega)).trans (by omega)
theorem xs5 {p : Nat} (h : p ≤ 10000) : xw ((p : Int) + 5) = ((p + 5 : Nat) : Int) := (xw_id (by omega) (by omega)).trans (by omega)
theorem xs6 {p : Nat} (h : p ≤ 10000) : xw ((p : Int) + 6) = ((p + 6 : Nat) : Int) := (xw_id (by omega) (by omega)).trans (by omega)
theorem law_k {N : Nat} {Q : Int → xB → xB → xB → xB → Prop} (hQ : ∀ t x y g, Q 1 t x y g) : ∀ (k p n : Nat) (t x y g : xB), N < p + 6 * k + 6 → p ≤ 10000 → n + 130 * k ≤ 100000 → zX t N → rS n t x g → w_Z_law_h18 Q (fun t x y g => Q 1 t x y g) (k + 1) t x y g p
  | 0, p, n, t, x, y, g, hk, hp, hn, hX, hS => by
    obtain ⟨X1, X2, X3⟩ := hX
    rw [w_Z_law_h18_s, e_t (by rw [X1, xw_id (by omega) (by omega)]; omega)]
    exact hQ _ _ _ _
  | k + 1, p, n, t, x, y, g, hk, hp, hn, hX, hS => by
    obtain ⟨X1, X2, X3⟩ := hX
    by_cases hend : (N : Int) - 6 < p
    · rw [w_Z_law_h18_s, e_t (by rw [X1, xw_id (by omega) (by omega)]; omega)]
      exact hQ _ _ _ _
    have ih : ∀ (t' x' y' g' : xB), t' 64 = t 64 → t' 65 = t 65 → rS (n + 130) t' x' g' → w_Z_law_h18 Q (fun t x y g => Q 1 t x y g) (k + 1) t' x' y' g' ((p + 6 : Nat) : Int) := by
      intro t' x' y' g' f64 f65 hS'
      exact law_k hQ k (p + 6) (n + 130) t' x' y' g' (by omega) (by omega) (by omega) ⟨by rw [f65]; exact X1, X2, fun i hi => by rw [f64]; exact X3 i hi⟩ hS'
    have hn1 : n ≤ 100000 := by omega
    obtain ⟨a0, ha0⟩ : ∃ a, x_and (t 64 p) 63 = a := ⟨_, rfl⟩
    have g1 : ∀ (j : Nat) (P : Prop), p + j < N → x_gd ((p + j : Nat) : Int) N P = P := fun j P hj => e_gd (by omega) (by omega)
    have g0 : ∀ P : Prop, x_gd (p : Int) N P = P := fun P => e_gd (by omega) (by omega)
    have v1 : x_in (t 64 (p + 1)) := X3 _ (by omega)
    have v2 : x_in (t 64 (p + 2)) := X3 _ (by omega)
    have v3 : x_in (t 64 (p + 3)) := X3 _ (by omega)
    have hN5 : p + 5 < N := by omega
    have hN4 : p + 4 < N := by omega
    have hN3 : p + 3 < N := by omega
    have hN2 : p + 2 < N := by omega
    have hN1 : p + 1 < N := by omega
    rw [w_Z_law_h18_s, e_f (by rw [X1, xw_id (by omega) (by omega)]; omega), X1, xs1 hp, xs2 hp, xs3 hp, xs4 hp, xs5 hp, xs6 hp]
    simp only [Int.toNat_natCast]
    rw [g0, ha0]
    clear hend
    by_cases c0 : a0 = 0
    · rw [e_t c0, g1 1 _ hN1, g1 2 _ hN2]
      obtain ⟨r, t', x', y', g', z1, f64, f65, hw, hm⟩ := s_line (y := y) (a1 := t 64 (p + 1)) (a2 := t 64 (p + 2)) hn1 hS
      refine hw _ ?_
      try dsimp only
      rw [f64, f65, X1]
      simp only [Int.toNat_natCast]
      rw [g1 1 _ hN1, g1 2 _ hN2]
      refine hm _ ?_
      try dsimp only
      rw [e_t rfl]
      exact ih _ _ _ _ f64 f65 z1
    rw [e_f c0]
    by_cases c1 : a0 = 1
    · rw [e_t c1, g1 1 _ hN1]
      obtain ⟨r, t', x', y', g', z1, f64, f65, hw, hm⟩ := s_pull (y := y) (a1 := t 64 (p + 1)) hn1 hS
      refine hw _ ?_
      try dsimp only
      rw [f64, f65, X1]
      simp only [Int.toNat_natCast]
      rw [g1 1 _ hN1]
      refine hm _ ?_
      try dsimp only
      rw [e_t rfl]
      exact ih _ _ _ _ f64 f65 z1
    rw [e_f c1]
    by_cases c2 : a0 = 2
    · rw [e_t c2, g1 1 _ hN1]
      obtain ⟨r, t', x', y', g', z1, f64, f65, hw, hm⟩ := s_plug (y := y) (a1 := t 64 (p + 1)) hn1 hS
      refine hw _ ?_
      try dsimp only
      rw [f64, f65, X1]
      simp only [Int.toNat_natCast]
      rw [g1 1 _ hN1]
      refine hm _ ?_
      try dsimp only
      rw [e_t rfl]
      exact ih _ _ _ _ f64 f65 z1
    rw [e_f c2]
    by_cases c3 : a0 = 3
    · rw [e_t c3, g1 1 _ hN1, g1 2 _ hN2]
      obtain ⟨r, t', x', y', g', z1, f64, f65, hw, hm⟩ := s_at (y := y) (a1 := t 64 (p + 1)) (a2 := t 64 (p + 2)) hn1 hS
      refine hw _ ?_
      try dsimp only
      rw [f64, f65, X1]
      simp only [Int.toNat_natCast]
      rw [g1 1 _ hN1, g1 2 _ hN2]
      refine hm _ ?_
      try dsimp only
      rw [e_t rfl]
      exact ih _ _ _ _ f64 f65 z1
    rw [e_f c3]
    by_cases c4 : a0 = 4
    · rw [e_t c4, g1 1 _ hN1, g1 2 _ hN2]
      obtain ⟨r, t', x', y', g', z1, f64, f65, hw, hm⟩ := s_wide (y := y) (a1 := t 64 (p + 1)) (a2 := t 64 (p + 2)) v2 hn1 hS
      refine hw _ ?_
      try dsimp only
      rw [f64, f65, X1]
      simp only [Int.toNat_natCast]
      rw [g1 1 _ hN1, g1 2 _ hN2]
      refine hm _ ?_
      try dsimp only
      rw [e_t rfl]
      exact ih _ _ _ _ f64 f65 z1
    rw [e_f c4]
    by_cases c5 : a0 = 5
    · rw [e_t c5, g1 1 _ hN1, g1 2 _ hN2]
      obtain ⟨r, t', x', y', g', z1, f64, f65, hw, hm⟩ := s_fixture (y := y) (a1 := t 64 (p + 1)) (a2 := t 64 (p + 2)) hn1 hS
      refine hw _ ?_
      try dsimp only
      rw [f64, f65, X1]
      simp only [Int.toNat_natCast]
      rw [g1 1 _ hN1, g1 2 _ hN2]
      refine hm _ ?_
      try dsimp only
      rw [e_t rfl]
      exact ih _ _ _ _ f64 f65 z1
    rw [e_f c5]
    by_cases c6 : a0 = 6
    · rw [e_t c6, g1 1 _ hN1, g1 2 _ hN2]
      obtain ⟨r, t', x', y', g', z1, f64, f65, hw, hm⟩ := s_group (y := y) (a1 := t 64 (p + 1)) (a2 := t 64 (p + 2)) hn1 hS
      refine hw _ ?_
      try dsimp only
      rw [f64, f65, X1]
      simp only [Int.toNat_natCast]
      rw [g1 1 _ hN1, g1 2 _ hN2]
      refine hm _ ?_
      try dsimp only
      rw [e_t rfl]
      exact ih _ _ _ _ f64 f65 z1
    rw [e_f c6]
    by_cases c7 : a0 = 7
    · rw [e_t c7, g1 1 _ hN1, g1 2 _ hN2, g1 3 _ hN3]
      obtain ⟨r, t', x', y', g', z1, f64, f65, hw, hm⟩ := s_member (y := y) (a1 := t 64 (p + 1)) (a2 := t 64 (p + 2)) (a3 := t 64 (p + 3)) hn1 hS
      refine hw _ ?_
      try dsimp only
      rw [f64, f65, X1]
      simp only [Int.toNat_natCast]
      rw [g1 1 _ hN1, g1 2 _ hN2, g1 3 _ hN3]
      refine hm _ ?_
      try dsimp only
      rw [e_t rfl]
      exact ih _ _ _ _ f64 f65 z1
    rw [e_f c7]
    by_cases c8 : a0 = 8
    · rw [e_t c8, g1 1 _ hN1, g1 2 _ hN2]
      obtain ⟨r, t', x', y', g', z1, f64, f65, hw, hm⟩ := s_memberAt (y := y) (a1 := t 64 (p + 1)) (a2 := t 64 (p + 2)) hn1 hS
      refine hw _ ?_
      try dsimp only
      rw [f64, f65, X1]
      simp only [Int.toNat_natCast]
      rw [g1 1 _ hN1, g1 2 _ hN2]
      refine hm _ ?_
      try dsimp only
      rw [e_t rfl]
      exact ih _ _ _ _ f64 f65 z1
    rw [e_f c8]
    by_cases c9 : a0 = 9
    · rw [e_t c9, g1 1 _ hN1, g1 2 _ hN2]
      obtain ⟨r, t', x', y', g', z1, f64, f65, hw, hm⟩ := s_asks (y := y) (a1 := t 64 (p + 1)) (a2 := t 64 (p + 2)) hn1 hS
      refine hw _ ?_
      try dsimp only
      rw [f64, f65, X1]
      simp only [Int.toNat_natCast]
      rw [g1 1 _ hN1, g1 2 _ hN2]
      refine hm _ ?_
      try dsimp only
      rw [e_t rfl]
      exact ih _ _ _ _ f64 f65 z1
    rw [e_f c9]
    by_cases c10 : a0 = 10
    · rw [e_t c10, g1 1 _ hN1]
      obtain ⟨r, t', x', y', g', z1, f64, f65, hw, hm⟩ := s_trace (y := y) (a1 := t 64 (p + 1)) hn1 hS
      refine hw _ ?_
      try dsimp only
      rw [f64, f65, X1]
      simp only [Int.toNat_natCast]
      rw [g1 1 _ hN1]
      refine hm _ ?_
      try dsimp only
      rw [e_t rfl]
      exact ih _ _ _ _ f64 f65 z1
    rw [e_f c10]
    by_cases c11 : a0 = 11
    · rw [e_t c11, g1 1 _ hN1, g1 2 _ hN2]
      obtain ⟨r, t', x', y', g', z1, f64, f65, hw, hm⟩ := s_about (y := y) (a1 := t 64 (p + 1)) (a2 := t 64 (p + 2)) hn1 hS
      refine hw _ ?_
      try dsimp only
      rw [f64, f65, X1]
      simp only [Int.toNat_natCast]
      rw [g1 1 _ hN1, g1 2 _ hN2]
      refine hm _ ?_
      try dsimp only
      rw [e_t rfl]
      exact ih _ _ _ _ f64 f65 z1
    rw [e_f c11]
    by_cases c12 : a0 = 12
    · rw [e_t c12, g1 1 _ hN1, g1 2 _ hN2, g1 3 _ hN3]
      obtain ⟨r, t', x', y', g', z1, f64, f65, hw, hm⟩ := s_patch (y := y) (a1 := t 64 (p + 1)) (a2 := t 64 (p + 2)) (a3 := t 64 (p + 3)) hn1 hS
      refine hw _ ?_
      try dsimp only
      rw [f64, f65, X1]
      simp only [Int.toNat_natCast]
      rw [g1 1 _ hN1, g1 2 _ hN2, g1 3 _ hN3]
      refine hm _ ?_
      try dsimp only
      rw [e_t rfl]
      exact ih _ _ _ _ f64 f65 z1
    rw [e_f c12]
    by_cases c13 : a0 = 13
    · rw [e_t c13, g1 1 _ hN1]
      obtain ⟨r, t', x', y', g', z1, f64, f65, hw, hm⟩ := s_unpatch (y := y) (a1 := t 64 (p + 1)) hn1 hS
      refine hw _ ?_
      try dsimp only
      rw [f64, f65, X1]
      simp only [Int.toNat_natCast]
      rw [g1 1 _ hN1]
      refine hm _ ?_
      try dsimp only
      rw [e_t rfl]
      exact ih _ _ _ _ f64 f65 z1
    rw [e_f c13]
    by_cases c14 : a0 = 14
    · rw [e_t c14, g1 1 _ hN1, g1 2 _ hN2]
      by_cases zz : t 64 (p + 2) = 0
      · rw [e_t zz]
        obtain ⟨r, t', x', y', g', z1, f64, f65, hw, hm⟩ := s_firm (y := y) (a1 := t 64 (p + 1)) (a2 := 0) (Or.inl rfl) hn1 hS
        unfold w_Z_law_j661
        refine hw _ ?_
        try dsimp only
        rw [f64, f65, X1, xs1 hp, xs2 hp]
        simp only [Int.toNat_natCast]
        rw [g1 1 _ hN1, g1 2 _ hN2, e_t zz]
        unfold w_Z_law_j683
        refine hm _ ?_
        try dsimp only
        rw [e_t rfl, xs6 hp]
        exact ih _ _ _ _ f64 f65 z1
      · rw [e_f zz]
        obtain ⟨r, t', x', y', g', z1, f64, f65, hw, hm⟩ := s_firm (y := y) (a1 := t 64 (p + 1)) (a2 := 1) (Or.inr rfl) hn1 hS
        unfold w_Z_law_j661
        refine hw _ ?_
        try dsimp only
        rw [f64, f65, X1, xs1 hp, xs2 hp]
        simp only [Int.toNat_natCast]
        rw [g1 1 _ hN1, g1 2 _ hN2, e_f zz]
        unfold w_Z_law_j683
        refine hm _ ?_
        try dsimp only
        rw [e_t rfl, xs6 hp]
        exact ih _ _ _ _ f64 f65 z1
    rw [e_f c14]
    by_cases c15 : a0 = 15
    · rw [e_t c15, g1 1 _ hN1, g1 2 _ hN2, g1 3 _ hN3]
      obtain ⟨r, t', x', y', g', z1, f64, f65, hw, hm⟩ := s_point (y := y) (a1 := t 64 (p + 1)) (a2 := t 64 (p + 2)) (a3 := t 64 (p + 3)) v3 hn1 hS
      refine hw _ ?_
      try dsimp only
      rw [f64, f65, X1]
      simp only [Int.toNat_natCast]
      rw [g1 1 _ hN1, g1 2 _ hN2, g1 3 _ hN3]
      refine hm _ ?_
      try dsimp only
      rw [e_t rfl]
      exact ih _ _ _ _ f64 f65 z1
    rw [e_f c15]
    by_cases c16 : a0 = 16
    · rw [e_t c16, g1 1 _ hN1, g1 2 _ hN2]
      obtain ⟨r, t', x', y', g', z1, f64, f65, hw, hm⟩ := s_curve (y := y) (a1 := t 64 (p + 1)) (a2 := t 64 (p + 2)) hn1 hS
      refine hw _ ?_
      try dsimp only
      rw [f64, f65, X1]
      simp only [Int.toNat_natCast]
      rw [g1 1 _ hN1, g1 2 _ hN2]
      refine hm _ ?_
      try dsimp only
      rw [e_t rfl]
      exact ih _ _ _ _ f64 f65 z1
    rw [e_f c16]
    by_cases c17 : a0 = 17
    · rw [e_t c17, g1 1 _ hN1, g1 2 _ hN2, g1 3 _ hN3]
      obtain ⟨r, t', x', y', g', z1, f64, f65, hw, hm⟩ := s_bend (y := y) (a1 := t 64 (p + 1)) (a2 := t 64 (p + 2)) (a3 := t 64 (p + 3)) hn1 hS
      refine hw _ ?_
      try dsimp only
      rw [f64, f65, X1]
      simp only [Int.toNat_natCast]
      rw [g1 1 _ hN1, g1 2 _ hN2, g1 3 _ hN3]
      refine hm _ ?_
      try dsimp only
      rw [e_t rfl]
      exact ih _ _ _ _ f64 f65 z1
    rw [e_f c17]
    by_cases c18 : a0 = 18
    · rw [e_t c18, g1 1 _ hN1, g1 2 _ hN2, g1 3 _ hN3, g1 4 _ hN4, g1 5 _ hN5]
      obtain ⟨r, t', x', y', g', z1, f64, f65, hw, hm⟩ := s_entry (y := y) (a1 := t 64 (p + 1)) (a2 := t 64 (p + 2)) (a3 := t 64 (p + 3)) (a4 := t 64 (p + 4)) (a5 := t 64 (p + 5)) hn1 hS
      refine hw _ ?_
      try dsimp only
      rw [f64, f65, X1]
      simp only [Int.toNat_natCast]
      rw [g1 1 _ hN1, g1 2 _ hN2, g1 3 _ hN3, g1 4 _ hN4, g1 5 _ hN5]
      refine hm _ ?_
      try dsimp only
      rw [e_t rfl]
      exact ih _ _ _ _ f64 f65 z1
    rw [e_f c18]
    by_cases c19 : a0 = 19
    · rw [e_t c19, g1 1 _ hN1, g1 2 _ hN2, g1 3 _ hN3]
      obtain ⟨r, t', x', y', g', z1, f64, f65, hw, hm⟩ := s_list (y := y) (a1 := t 64 (p + 1)) (a2 := t 64 (p + 2)) (a3 := t 64 (p + 3)) hn1 hS
      refine hw _ ?_
      try dsimp only
      rw [f64, f65, X1]
      simp only [Int.toNat_natCast]
      rw [g1 1 _ hN1, g1 2 _ hN2, g1 3 _ hN3]
      refine hm _ ?_
      try dsimp only
      rw [e_t rfl]
      exact ih _ _ _ _ f64 f65 z1
    rw [e_f c19]
    by_cases c20 : a0 = 20
    · rw [e_t c20, g1 1 _ hN1, g1 2 _ hN2]
      obtain ⟨r, t', x', y', g', z1, f64, f65, hw, hm⟩ := s_load (y := y) (a1 := t 64 (p + 1)) (a2 := t 64 (p + 2)) hn1 hS
      refine hw _ ?_
      try dsimp only
      rw [f64, f65, X1]
      simp only [Int.toNat_natCast]
      rw [g1 1 _ hN1, g1 2 _ hN2]
      refine hm _ ?_
      try dsimp only
      rw [e_t rfl]
      exact ih _ _ _ _ f64 f65 z1
    rw [e_f c20]
    by_cases c21 : a0 = 21
    · rw [e_t c21, g1 1 _ hN1]
      obtain ⟨r, t', x', y', g', z1, f64, f65, hw, hm⟩ := s_go (y := y) (a1 := t 64 (p + 1)) hn1 hS
      refine hw _ ?_
      try dsimp only
      rw [f64, f65, X1]
      simp only [Int.toNat_natCast]
      rw [g1 1 _ hN1]
      refine hm _ ?_
      try dsimp only
      rw [e_t rfl]
      exact ih _ _ _ _ f64 f65 z1
    rw [e_f c21]
    by_cases c22 : a0 = 22
    · rw [e_t c22, g1 1 _ hN1]
      obtain ⟨r, t', x', y', g', z1, f64, f65, hw, hm⟩ := s_stop (y := y) (a1 := t 64 (p + 1)) hn1 hS
      refine hw _ ?_
      try dsimp only
      rw [f64, f65, X1]
      simp only [Int.toNat_natCast]
      rw [g1 1 _ hN1]
      refine hm _ ?_
      try dsimp only
      rw [e_t rfl]
      exact ih _ _ _ _ f64 f65 z1
    rw [e_f c22]
    by_cases c23 : a0 = 23
    · rw [e_t c23, g1 1 _ hN1]
      obtain ⟨r, t', x', y', g', z1, f64, f65, hw, hm⟩ := s_release (y := y) (a1 := t 64 (p + 1)) hn1 hS
      refine hw _ ?_
      try dsimp only
      rw [f64, f65, X1]
      simp only [Int.toNat_natCast]
      rw [g1 1 _ hN1]
      refine hm _ ?_
      try dsimp only
      rw [e_t rfl]
      exact ih _ _ _ _ f64 f65 z1
    rw [e_f c23]
    by_cases c24 : a0 = 24
    · rw [e_t c24, g1 1 _ hN1, g1 2 _ hN2]
      obtain ⟨r, t', x', y', g', z1, f64, f65, hw, hm⟩ := s_master (y := y) (a1 := t 64 (p + 1)) (a2 := t 64 (p + 2)) hn1 hS
      refine hw _ ?_
      try dsimp only
      rw [f64, f65, X1]
      simp only [Int.toNat_natCast]
      rw [g1 1 _ hN1, g1 2 _ hN2]
      refine hm _ ?_
      try dsimp only
      rw [e_t rfl]
      exact ih _ _ _ _ f64 f65 z1
    rw [e_f c24]
    by_cases c25 : a0 = 25
    · rw [e_t c25, g1 1 _ hN1, g1 2 _ hN2, g1 3 _ hN3]
      by_cases zz : t 64 (p + 3) = 0
      · rw [e_t zz]
        obtain ⟨r, t', x', y', g', z1, f64, f65, hw, hm⟩ := s_merge (y := y) (a1 := t 64 (p + 1)) (a2 := t 64 (p + 2)) (a3 := 0) (Or.inl rfl) hn1 hS
        unfold w_Z_law_j1075
        refine hw _ ?_
        try dsimp only
        rw [f64, f65, X1, xs1 hp, xs2 hp, xs3 hp]
        simp only [Int.toNat_natCast]
        rw [g1 1 _ hN1, g1 2 _ hN2, g1 3 _ hN3, e_t zz]
        unfold w_Z_law_j1102
        refine hm _ ?_
        try dsimp only
        rw [e_t rfl, xs6 hp]
        exact ih _ _ _ _ f64 f65 z1
      · rw [e_f zz]
        obtain ⟨r, t', x', y', g', z1, f64, f65, hw, hm⟩ := s_merge (y := y) (a1 := t 64 (p + 1)) (a2 := t 64 (p + 2)) (a3 := 1) (Or.inr rfl) hn1 hS
        unfold w_Z_law_j1075
        refine hw _ ?_
        try dsimp only
        rw [f64, f65, X1, xs1 hp, xs2 hp, xs3 hp]
        simp only [Int.toNat_natCast]
        rw [g1 1 _ hN1, g1 2 _ hN2, g1 3 _ hN3, e_f zz]
        unfold w_Z_law_j1102
        refine hm _ ?_
        try dsimp only
        rw [e_t rfl, xs6 hp]
        exact ih _ _ _ _ f64 f65 z1
    rw [e_f c25]
    by_cases c26 : a0 = 26
    · rw [e_t c26, g1 1 _ hN1, g1 2 _ hN2, g1 3 _ hN3]
      obtain ⟨r, t', x', y', g', z1, f64, f65, hw, hm⟩ := s_value (y := y) (a1 := t 64 (p + 1)) (a2 := t 64 (p + 2)) (a3 := t 64 (p + 3)) hn1 hS
      refine hw _ ?_
      try dsimp only
      rw [f64, f65, X1]
      simp only [Int.toNat_natCast]
      rw [g1 1 _ hN1, g1 2 _ hN2, g1 3 _ hN3]
      refine hm _ ?_
      try dsimp only
      rw [e_t rfl]
      exact ih _ _ _ _ f64 f65 z1
    rw [e_f c26]
    by_cases c27 : a0 = 27
    · rw [e_t c27, g1 1 _ hN1, g1 2 _ hN2]
      obtain ⟨r, t', x', y', g', z1, f64, f65, hw, hm⟩ := s_playback (y := y) (a1 := t 64 (p + 1)) (a2 := t 64 (p + 2)) hn1 hS
      refine hw _ ?_
      try dsimp only
      rw [f64, f65, X1]
      simp only [Int.toNat_natCast]
      rw [g1 1 _ hN1, g1 2 _ hN2]
      refine hm _ ?_
      try dsimp only
      rw [e_t rfl]
      exact ih _ _ _ _ f64 f65 z1
    rw [e_f c27]
    by_cases c28 : a0 = 28
    · rw [e_t c28, g1 1 _ hN1, g1 2 _ hN2]
      obtain ⟨r, t', x', y', g', z1, f64, f65, hw, hm⟩ := s_limit (y := y) (a1 := t 64 (p + 1)) (a2 := t 64 (p + 2)) hn1 hS
      refine hw _ ?_
      try dsimp only
      rw [f64, f65, X1]
      simp only [Int.toNat_natCast]
      rw [g1 1 _ hN1, g1 2 _ hN2]
      refine hm _ ?_
      try dsimp only
      rw [e_t rfl]
      exact ih _ _ _ _ f64 f65 z1
    rw [e_f c28]
    by_cases c29 : a0 = 29
    · rw [e_t c29, g1 1 _ hN1]
      obtain ⟨r, t', x', y', g', z1, f64, f65, hw, hm⟩ := s_heat (y := y) (a1 := t 64 (p + 1)) hn1 hS
      refine hw _ ?_
      try dsimp only
      rw [f64, f65, X1]
      simp only [Int.toNat_natCast]
      rw [g1 1 _ hN1]
      refine hm _ ?_
      try dsimp only
      rw [e_t rfl]
      exact ih _ _ _ _ f64 f65 z1
    rw [e_f c29]
    by_cases c30 : a0 = 30
    · rw [e_t c30, g1 1 _ hN1]
      obtain ⟨r, t', x', y', g', z1, f64, f65, hw, hm⟩ := s_over (y := y) (a1 := t 64 (p + 1)) hn1 hS
      refine hw _ ?_
      try dsimp only
      rw [f64, f65, X1]
      simp only [Int.toNat_natCast]
      rw [g1 1 _ hN1]
      refine hm _ ?_
      try dsimp only
      rw [e_t rfl]
      exact ih _ _ _ _ f64 f65 z1
    rw [e_f c30]
    by_cases c31 : a0 = 31
    · rw [e_t c31, g1 1 _ hN1]
      by_cases zz : t 64 (p + 1) = 0
      · rw [e_t zz]
        obtain ⟨r, t', x', y', g', z1, f64, f65, hw, hm⟩ := s_blackout (y := y) (a1 := 0) (Or.inl rfl) hn1 hS
        unfold w_Z_law_j1279
        refine hw _ ?_
        try dsimp only
        rw [f64, f65, X1, xs1 hp]
        simp only [Int.toNat_natCast]
        rw [g1 1 _ hN1, e_t zz]
        unfold w_Z_law_j1296
        refine hm _ ?_
        try dsimp only
        rw [e_t rfl, xs6 hp]
        exact ih _ _ _ _ f64 f65 z1
      · rw [e_f zz]
        obtain ⟨r, t', x', y', g', z1, f64, f65, hw, hm⟩ := s_blackout (y := y) (a1 := 1) (Or.inr rfl) hn1 hS
        unfold w_Z_law_j1279
        refine hw _ ?_
        try dsimp only
        rw [f64, f65, X1, xs1 hp]
        simp only [Int.toNat_natCast]
        rw [g1 1 _ hN1, e_f zz]
        unfold w_Z_law_j1296
        refine hm _ ?_
        try dsimp only
        rw [e_t rfl, xs6 hp]
        exact ih _ _ _ _ f64 f65 z1
    rw [e_f c31]
    by_cases c32 : a0 = 32
    · rw [e_t c32, g1 1 _ hN1]
      obtain ⟨r, t', x', y', g', z1, f64, f65, hw, hm⟩ := s_tick (y := y) (a1 := t 64 (p + 1)) hn1 hS
      refine hw _ ?_
      try dsimp only
      rw [f64, f65, X1]
      simp only [Int.toNat_natCast]
      rw [g1 1 _ hN1]
      refine hm _ ?_
      try dsimp only
      rw [e_t rfl]
      exact ih _ _ _ _ f64 f65 z1
    rw [e_f c32]
    by_cases c33 : a0 = 33
    · rw [e_t c33, g1 1 _ hN1]
      obtain ⟨r, t', x', y', g', z1, f64, f65, hw, hm⟩ := s_found (y := y) (a1 := t 64 (p + 1)) hn1 hS
      refine hw _ ?_
      try dsimp only
      rw [f64, f65, X1]
      simp only [Int.toNat_natCast]
      rw [g1 1 _ hN1]
      refine hm _ ?_
      try dsimp only
      rw [e_t rfl]
      exact ih _ _ _ _ f64 f65 z1
    rw [e_f c33]
    by_cases c34 : a0 = 34
    · rw [e_t c34]
      obtain ⟨r, t', x', y', g', z1, f64, f65, hw, hm⟩ := s_digest (y := y) hn1 hS
      refine hw _ ?_
      refine hm _ ?_
      try dsimp only
      rw [e_t rfl]
      exact ih _ _ _ _ f64 f65 z1
    rw [e_f c34]
    by_cases c35 : a0 = 35
    · rw [e_t c35]
      obtain ⟨r, t', x', y', g', z1, f64, f65, hw, hm⟩ := s_replay (y := y) hn1 hS
      refine hw _ ?_
      refine hm _ ?_
      try dsimp only
      rw [e_t rfl]
      exact ih _ _ _ _ f64 f65 z1
    rw [e_f c35]
    by_cases c36 : a0 = 36
    · rw [e_t c36, g1 1 _ hN1]
      obtain ⟨r, t', x', y', g', z1, f64, f65, hw, hm⟩ := s_back (y := y) (a1 := t 64 (p + 1)) hn1 hS
      refine hw _ ?_
      try dsimp only
      rw [f64, f65, X1]
      simp only [Int.toNat_natCast]
      rw [g1 1 _ hN1]
      refine hm _ ?_
      try dsimp only
      rw [e_t rfl]
      exact ih _ _ _ _ f64 f65 z1
    rw [e_f c36]
    by_cases c37 : a0 = 37
    · rw [e_t c37, g1 1 _ hN1]
      obtain ⟨r, t', x', y', g', z1, f64, f65, hw, hm⟩ := s_told (y := y) (a1 := t 64 (p + 1)) hn1 hS
      refine hw _ ?_
      try dsimp only
      rw [f64, f65, X1]
      simp only [Int.toNat_natCast]
      rw [g1 1 _ hN1]
      refine hm _ ?_
      try dsimp only
      rw [e_t rfl]
      exact ih _ _ _ _ f64 f65 z1
    rw [e_f c37]
    exact ih _ _ _ _ rfl rfl (rS_le (by omega) hS)
theorem law_A {N : Nat} {Q : Int → xB → xB → xB → xB → Prop} {t x y g : xB} (hQ : ∀ t x y g, Q 1 t x y g) (hX : zX t N) (hS : rS 0 t x g) : w_Z_law t x y g Q := by
  have h2 := hX.2.1
  exact ⟨512 + 1, law_k hQ 512 0 0 t x y g (by omega) (by omega) (by omega) hX hS⟩
