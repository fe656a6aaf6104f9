/-! ===== a TICK: all CHANNELS are written, THE DIGEST taken ===== -/
theorem wrM_skip {g : xB} {f : Nat} {t : Int} (hf : f < 24) (k0 : 0 ≤ g 71 (278 + f)) (k4 : g 71 (278 + f) ≤ 4) {Q : xB → Prop} {K : xB → Int → Int → Prop} (hK : K g t f) : ∀ (k c : Nat), c + k = 3 → kChan (g 71 (278 + f)) ≤ c → w_m_writeAll_h95 Q K (k + 1) g t f 1 c
  | 0, c, h, hc => by
    have : c = 3 := by omega
    subst this
    rw [w_m_writeAll_h95_s, e_f (by omega)]
    exact hK
  | k + 1, c, h, hc => by
    have ih := wrM_skip hf k0 k4 (Q := Q) hK k (c + 1) (by omega) (by omega)
    rw [w_m_writeAll_h95_s, e_t (by omega), e_f (by omega), m_chan_f hf k0 k4 (by omega) (by omega), e_t rfl, xw_id (by omega) (by omega), show (c : Int) + 1 = ((c + 1 : Nat) : Int) by omega]
    exact ih
/-- the CHANNELS of one FIXTURE -/
theorem wr_in {M n : Int} {f : Nat} (hf : f < 24) : ∀ (k c : Nat) (b g : xB), c + k = kChan (b 17 f) → rG M n b (g 71) → levR b g → b 25 f ≠ -1 → ∃ b' g', rG M n b' (g' 71) ∧ fWb b b' ∧ fWm g g' ∧ (∀ (Q : xB → Prop) (K : xB → Int → Prop) (v1 : Int), K b' v1 → w_X_write_h32 Q K (k + 1) b v1 f c) ∧ (∀ (Q : xB → Prop) (K : xB → Int → Int → Prop) (t : Int), K g' t f → ∃ n, w_m_writeAll_h95 Q K n g t f 1 c)
  | 0, c, b, g, hc, h, hl, hp => by
    have hR := htR_of h hl
    obtain ⟨k0, k3, hk, -⟩ := hR.1 f hf hp
    have hk3 := kChan_le (b 17 f)
    refine ⟨b, g, h, fWb_rf, fWm_rf, fun Q K v1 hK => ?_, fun Q K t hK => ⟨3 - c + 1, wrM_skip hf (by omega) (by omega) hK (3 - c) c (by omega) (by rw [← hk]; omega)⟩⟩
    rw [w_X_write_h32_s, R_chan_e hf, e_f (by omega)]
    exact hK
  | k + 1, c, b, g, hc, h, hl, hp => by
    have hR := htR_of h hl
    obtain ⟨k0, k3, hk, -⟩ := hR.1 f hf hp
    have hk3 := kChan_le (b 17 f)
    have ec : (c : Int) + 1 = ((c + 1 : Nat) : Int) := by omega
    obtain ⟨b1, g1, h1, f1, m1, x1, x2⟩ := write_A h hl hf hp (show c < kChan (b 17 f) by omega)
    obtain ⟨b', g', h2, f2, m2, y1, y2⟩ := wr_in hf k (c + 1) b1 g1 (by rw [f1 17 (by omega)]; omega) h1 (levR_W hl f1 m1) (by rw [f1 25 (by omega)]; exact hp)
    refine ⟨b', g', h2, fWb_tr f1 f2, fWm_tr m1 m2, fun Q K v1 hK => ?_, fun Q K t hK => ?_⟩
    · have y1 := y1 Q K v1 hK
      rw [w_X_write_h32_s, R_chan_e hf, e_t (by omega), xw_id (by omega) (by omega), ec]
      exact x1 _ y1
    · obtain ⟨m, y2⟩ := y2 Q K t hK
      have x2 := x2 (fun g5 => w_m_writeAll_h95 Q K m g5 t f 1 ((c + 1 : Nat) : Int)) y2
      refine ⟨m + 1, ?_⟩
      rw [w_m_writeAll_h95_s, e_t (by omega), e_f (by omega), m_chan_t hf (by omega) (by omega) (by rw [← hk]; omega), e_f (by decide), xw_id (by omega) (by omega), ec]
      simp only [x2]
theorem wr_skip {g : xB} {t : Int} {N e : Nat} {Q : xB → Prop} {K : xB → Int → Prop} (hN : g 71 276 = (N : Int)) (hN24 : N ≤ 24) (he : e ≤ N) : ∀ (k f : Nat), f + k = e → (∀ x, f ≤ x → x < e → g 71 (326 + x) = -1 ∨ g 71 (374 + x) ≠ t) → (∃ n, w_m_writeAll_h46 Q K n g t e) → ∃ n, w_m_writeAll_h46 Q K n g t f
  | 0, f, hf, _, h => by
    have : f = e := by omega
    subst this
    exact h
  | k + 1, f, hf, hs, h => by
    obtain ⟨n, ih⟩ := wr_skip hN hN24 he k (f + 1) (by omega) (fun x a b => hs x (by omega) b) h
    refine ⟨n + 1, ?_⟩
    have j90 : w_m_writeAll_j90 Q (w_m_writeAll_h46 Q K n) g t f = True := by
      refine eq_true ?_
      unfold w_m_writeAll_j90 w_m_writeAll_j91
      refine ⟨1, ?_⟩
      rw [w_m_writeAll_h95_s, e_t (by omega), e_t rfl, xw_id (by omega) (by omega), show (f : Int) + 1 = ((f + 1 : Nat) : Int) by omega]
      exact ih
    by_cases e1 : g 71 (326 + f) = -1
    · rw [w_m_writeAll_h46_s, e_t (by omega), show xw (326 + (f : Int)) = ((326 + f : Nat) : Int) from (xw_id (by omega) (by omega)).trans (by omega), e_gd (by omega) (by omega), Int.toNat_natCast, e_t e1, j90]
      trivial
    · rw [w_m_writeAll_h46_s, e_t (by omega), show xw (326 + (f : Int)) = ((326 + f : Nat) : Int) from (xw_id (by omega) (by omega)).trans (by omega), e_gd (by omega) (by omega), Int.toNat_natCast, e_f e1, show xw (374 + (f : Int)) = ((374 + f : Nat) : Int) from (xw_id (by omega) (by omega)).trans (by omega), e_gd (by omega) (by omega), Int.toNat_natCast, e_f ((hs f (by omega) (by omega)).resolve_left e1), j90]
      trivial
/-- one number of PATCHING -/
theorem wr_t {M n : Int} {b g : xB} {t i C N : Nat} (h : rG M n b (g 71)) (hlev : levR b g) (hC : b 186 0 = (C : Int)) (hN : g 71 276 = (N : Int)) (hi : i ≤ C) (hst : ∀ j, j < C → (g 71 (374 + (b 28 j).toNat) < (t : Int) ↔ j < i)) : ∃ b' g' i', rG M n b' (g' 71) ∧ levR b' g' ∧ fWb b b' ∧ fWm g g' ∧ i' ≤ C ∧ (∀ j, j < C → (g' 71 (374 + (b' 28 j).toNat) < (t : Int) + 1 ↔ j < i')) ∧ (∀ (Q K : xB → Prop), (∃ n, w_X_write_h9 Q K n b' (i' : Nat)) → ∃ n, w_X_write_h9 Q K n b i) ∧ (∀ (Q : xB → Prop) (K : xB → Int → Prop), K g' t → ∃ n, w_m_writeAll_h46 Q K n g t 0) := by
  obtain ⟨p1, p2, p3, p4, p5, p6, p7, p8⟩ := h.2.2.2.1
  have hN24 : N ≤ 24 := by have := h.2.2.1.1; have := h.2.2.1.2.2.1; omega
  have h161 : b 161 0 = (N : Int) := h.2.2.1.1.trans hN
  have fin : ∀ (g' : xB), g' 71 276 = (N : Int) → ∀ (Q : xB → Prop) (K : xB → Int → Prop), K g' t → ∃ n, w_m_writeAll_h46 Q K n g' t N := by
    intro g' hN' Q K hK
    refine ⟨1, ?_⟩
    rw [w_m_writeAll_h46_s, e_f (by omega)]
    exact hK
  by_cases hA : i < C ∧ g 71 (374 + (b 28 i).toNat) = (t : Int)
  · obtain ⟨hiC, hA⟩ := hA
    obtain ⟨o1, o2, o3, o4, o5⟩ := p6 i (by omega)
    obtain ⟨F, hF⟩ := nat_of o1
    have hF24 : F < 24 := by omega
    rw [hF, Int.toNat_natCast] at o3 hA
    have hFN : F < N := by
      have := ((p2 F hF24).resolve_left (fun z => o3 z.1)).2.2.2.2.1
      omega
    have h326 := (p1 F hF24).1
    obtain ⟨b1, g1, h1, f1, m1, x1, x2⟩ := wr_in hF24 (kChan (b 17 F)) 0 b g (by omega) h hlev o3
    have other : ∀ x, x < N → x ≠ F → g 71 (326 + x) = -1 ∨ g 71 (374 + x) ≠ (t : Int) := by
      intro x hx hxF
      by_cases e : b 25 x = -1
      · left
        rw [← (p1 x (by omega)).1]
        exact e
      · right
        obtain ⟨j, hj, hjx⟩ := p8 x (by omega) e
        intro w
        rcases Nat.lt_trichotomy i j with q | q | q
        · have := p7 i j q hj
          rw [hF, hjx, Int.toNat_natCast, Int.toNat_natCast] at this
          omega
        · subst q
          omega
        · have := p7 j i q (by omega)
          rw [hF, hjx, Int.toNat_natCast, Int.toNat_natCast] at this
          omega
    refine ⟨b1, g1, i + 1, h1, levR_W hlev f1 m1, f1, m1, hiC, fun j hj => ?_, fun Q K hK => ?_, fun Q K hK => ?_⟩
    · have o := p6 j (by omega)
      rw [f1 28 (by omega), m1.2 (374 + (b 28 j).toNat) (by omega)]
      rcases Nat.lt_trichotomy i j with q | q | q
      · have := p7 i j q (by omega)
        rw [hF, Int.toNat_natCast] at this
        constructor <;> intro _ <;> omega
      · subst q
        rw [hF, Int.toNat_natCast]
        constructor <;> intro _ <;> omega
      · have := (hst j hj).mpr q
        constructor <;> intro _ <;> omega
    · obtain ⟨m, hK⟩ := hK
      refine ⟨m + 1, ?_⟩
      rw [w_X_write_h9_s, e_t (by omega), e_gd (by omega) (by omega), Int.toNat_natCast, hF]
      refine ⟨kChan (b 17 F) + 1, x1 Q _ i ?_⟩
      rw [xw_id (by omega) (by omega), show (i : Int) + 1 = ((i + 1 : Nat) : Int) by omega]
      exact hK
    · have hN1 : g1 71 276 = (N : Int) := by rw [m1.2 276 (by omega)]; exact hN
      obtain ⟨m, r1⟩ := wr_skip (Q := Q) (K := K) (t := (t : Int)) hN1 hN24 (Nat.le_refl N) (N - (F + 1)) (F + 1) (by omega) (fun x a c => by
        rw [m1.2 (326 + x) (by omega), m1.2 (374 + x) (by omega)]
        exact other x c (by omega)) (fin g1 hN1 Q K hK)
      obtain ⟨m2, r2⟩ := x2 Q (fun g8 v1 v2 => w_m_writeAll_h46 Q K m g8 v1 (xw (v2 + 1))) t (by
        rw [xw_id (by omega) (by omega), show (F : Int) + 1 = ((F + 1 : Nat) : Int) by omega]
        exact r1)
      refine wr_skip (Q := Q) (K := K) (t := (t : Int)) hN hN24 (show F ≤ N by omega) F 0 (by omega) (fun x a c => other x (by omega) (by omega)) ⟨m + 1, ?_⟩
      rw [w_m_writeAll_h46_s, e_t (by omega), show xw (326 + (F : Int)) = ((326 + F : Nat) : Int) from (xw_id (by omega) (by omega)).trans (by omega), e_gd (by omega) (by omega), Int.toNat_natCast, e_f (by omega), show xw (374 + (F : Int)) = ((374 + F : Nat) : Int) from (xw_id (by omega) (by omega)).trans (by omega), e_gd (by omega) (by omega), Int.toNat_natCast, e_t hA]
      unfold w_m_writeAll_j91
      exact ⟨m2, r2⟩
  · have none : ∀ j, j < C → g 71 (374 + (b 28 j).toNat) ≠ (t : Int) := by
      intro j hj w
      have hji : ¬ j < i := fun z => by have := (hst j hj).mpr z; omega
      by_cases e : j = i
      · subst e
        exact hA ⟨hj, w⟩
      · have := p7 i j (by omega) (by omega)
        have := (hst i (by omega)).mp (by omega)
        omega
    refine ⟨b, g, i, h, hlev, fWb_rf, fWm_rf, hi, fun j hj => ?_, fun Q K hK => hK, fun Q K hK => ?_⟩
    · have := none j hj
      have := hst j hj
      omega
    · refine wr_skip (Q := Q) (K := K) (t := (t : Int)) hN hN24 (Nat.le_refl N) N 0 (by omega) (fun x a c => ?_) (fin g hN Q K hK)
      by_cases e : b 25 x = -1
      · left
        rw [← (p1 x (by omega)).1]
        exact e
      · right
        obtain ⟨j, hj, hjx⟩ := p8 x (by omega) e
        have := none j (by omega)
        rw [hjx, Int.toNat_natCast] at this
        exact this
theorem wr_all {M n : Int} {C N P : Nat} (hn : n ≤ 200000) : ∀ (k t i : Nat) (b g : xB), t + k = P + 1 → rG M n b (g 71) → levR b g → b 186 0 = (C : Int) → g 71 276 = (N : Int) → g 71 3767 = (P : Int) → i ≤ C → (∀ j, j < C → (g 71 (374 + (b 28 j).toNat) < (t : Int) ↔ j < i)) → ∃ b' g', rG M n b' (g' 71) ∧ levR b' g' ∧ fWb b b' ∧ fWm g g' ∧ (∀ (Q K : xB → Prop), K b' → ∃ n, w_X_write_h9 Q K n b i) ∧ (∀ (Q K : xB → Prop), K g' → w_m_writeAll_h32 Q K (k + 1) g t)
  | 0, t, i, b, g, ht, h, hl, hC, hN, hP, hi, hst => by
    have : i = C := by
      by_cases e : i < C
      · have := (h.2.2.2.1.2.2.2.2.2.1 i (by omega)).2.2.2.2
        have := (hst i e).mp (by omega)
        omega
      · omega
    refine ⟨b, g, h, hl, fWb_rf, fWm_rf, fun Q K hK => ⟨1, ?_⟩, fun Q K hK => ?_⟩
    · rw [w_X_write_h9_s, e_f (by omega)]
      exact hK
    · rw [w_m_writeAll_h32_s, e_t (by omega)]
      exact hK
  | k + 1, t, i, b, g, ht, h, hl, hC, hN, hP, hi, hst => by
    have u4 := h.2.2.2.2.2.2.2.2.2.2.2
    obtain ⟨b1, g1, i1, h1, l1, f1, m1, c1, s1, x1, x2⟩ := wr_t h hl hC hN hi hst
    obtain ⟨b', g', h2, l2, f2, m2, y1, y2⟩ := wr_all (C := C) (N := N) (P := P) hn k (t + 1) i1 b1 g1 (by omega) h1 l1 (by rw [f1 186 (by omega)]; exact hC) (by rw [m1.2 276 (by omega)]; exact hN) (by rw [m1.2 3767 (by omega)]; exact hP) c1 (fun j hj => by
      have := s1 j hj
      omega)
    refine ⟨b', g', h2, l2, fWb_tr f1 f2, fWm_tr m1 m2, fun Q K hK => x1 Q K (y1 Q K hK), fun Q K hK => ?_⟩
    have y2 := y2 Q K hK
    rw [w_m_writeAll_h32_s, e_f (by omega)]
    refine x2 Q _ ?_
    rw [xw_id (by omega) (by omega), show (t : Int) + 1 = ((t + 1 : Nat) : Int) by omega]
    exact y2
/-- all is written -/
theorem writes_A {M n : Int} {b g : xB} (hn : n ≤ 200000) (h : rG M n b (g 71)) (hl : levR b g) : ∃ b' g', rG M n b' (g' 71) ∧ fWb b b' ∧ fWm g g' ∧ (∀ Q : xB → Prop, Q b' → w_X_write b Q) ∧ (∀ Q : xB → Prop, (∃ n, w_m_writeAll_h142 Q (fun g14 => Q g14) n g' 0) → w_m_writeAll g Q) := by
  obtain ⟨b1, g1, h1, f1, m1, x1, x2⟩ := blank_A 4 0 b g (by omega) h
  obtain ⟨C, hC⟩ := nat_of h1.2.2.2.1.2.2.1
  obtain ⟨N, hN⟩ := nat_of h1.2.2.1.2.1
  obtain ⟨P, hP⟩ := nat_of h1.2.2.2.1.2.2.2.2.1
  have hN' : g1 71 276 = (N : Int) := h1.2.2.1.1.symm.trans hN
  obtain ⟨b', g', h2, l2, f2, m2, y1, y2⟩ := wr_all (C := C) (N := N) (P := P) hn P 1 0 b1 g1 (by omega) h1 (levR_W hl f1 m1) hC hN' hP (by omega) (fun j hj => by
    have := (h1.2.2.2.1.2.2.2.2.2.1 j (by omega)).2.2.2.1
    omega)
  refine ⟨b', g', h2, fWb_tr f1 f2, fWm_tr m1 m2, fun Q hQ => ?_, fun Q hQ => ?_⟩
  · exact ⟨4 + 1, x1 _ _ (y1 Q _ hQ)⟩
  · exact ⟨4 + 1, x2 Q _ ⟨P + 1, y2 Q _ hQ⟩⟩
