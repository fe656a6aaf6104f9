/-! ===== cleared board against the beginning ===== -/
theorem mI_0 {i : Nat} (h : ¬ (264 ≤ i ∧ i < 268) ∧ ¬ ((326 ≤ i ∧ i < 374) ∨ (446 ≤ i ∧ i < 662) ∨ (1726 ≤ i ∧ i < 1734) ∨ (1738 ≤ i ∧ i < 1742)) ∧ ¬ ((1734 ≤ i ∧ i < 1738) ∨ i = 3768)) : mI i = 0 := by
  unfold mI
  rw [if_neg h.1, if_neg h.2.1, if_neg h.2.2]
theorem mI_M {i : Nat} (h : 264 ≤ i ∧ i < 268) : mI i = 1000000 := if_pos h
theorem mI_n {i : Nat} (h : (326 ≤ i ∧ i < 374) ∨ (446 ≤ i ∧ i < 662) ∨ (1726 ≤ i ∧ i < 1734) ∨ (1738 ≤ i ∧ i < 1742)) : mI i = -1 := by
  unfold mI
  rw [if_neg (by omega), if_pos h]
theorem mI_h {i : Nat} (h : (1734 ≤ i ∧ i < 1738) ∨ i = 3768) : mI i = 100 := by
  unfold mI
  rw [if_neg (by omega), if_neg (by omega), if_pos h]
theorem cHas_none {b : xB} {p : Nat} : ∀ k, k ≤ 72 → (∀ i, i < 72 → b 48 (p * 72 + i) = 0) → cHas b p k = 0
  | 0, _, _ => rfl
  | k + 1, hk, h => by
    unfold cHas
    rw [cHas_none k (by omega) h, if_pos (h k (by omega))]
theorem cFad_none {b : xB} {p : Nat} : ∀ k, k ≤ 72 → (∀ i, i < 72 → b 51 (p * 72 + i) = 0) → cFad b p k = 0
  | 0, _, _ => rfl
  | k + 1, hk, h => by
    unfold cFad
    rw [cFad_none k (by omega) h, if_neg (by rw [h k (by omega)]; omega)]
def cB (b : xB) : Prop := (∀ i, i < 7 → b 10 i = 0) ∧ (∀ l, l < 4 → b 12 l = -1 ∧ b 13 l = 0 ∧ b 14 l = 1000000 ∧ b 15 l = 0 ∧ b 16 l = 0) ∧ (b 161 0 = 0 ∧ b 162 0 = 0 ∧ b 172 0 = 0 ∧ b 173 0 = 0) ∧ (∀ f, f < 24 → b 25 f = -1 ∧ b 26 f = -1 ∧ b 27 f = 0) ∧ b 186 0 = 0 ∧ (∀ c, c < 4 → b 29 c = 0) ∧ (∀ q, q < 16 → b 34 q = 0) ∧ (∀ l, l < 4 → b 39 l = 0) ∧ (∀ i, i < 72 → b 42 i = -1 ∧ b 43 i = 0 ∧ b 44 i = 0) ∧ b 271 0 = 100 ∧ b 272 0 = 0 ∧ (∀ p, p < 4 → cY b p) ∧ b 108 0 = 0 ∧ b 109 0 = 0 ∧ b 110 0 = 0
theorem rB_0 {b : xB} {s : Nat → Int} (h : cB b) (hs : ∀ i, i < 3779 → s i = mI i) : rB 0 b s := by
  obtain ⟨c1, c2, ⟨c3, c4, c5, c6⟩, c7, c8, c9, c10, c11, c12, c13, c14, c15, c16, c17, c18⟩ := h
  refine ⟨fun f h1 h2 => ?_, fun l hl => ?_, ?_, ?_, fun c hc => ?_, ?_, fun p hp => ?_, fun p hp => ?_, ?_, ?_, ?_⟩
  · rw [c1 f (by omega), hs _ (by omega), mI_0 (by omega)]
  · obtain ⟨d1, d2, d3, d4, d5⟩ := c2 l hl
    unfold rL1
    rw [d1, d2, d3, d4, d5, hs (264 + l) (by omega), hs (268 + l) (by omega), hs (272 + l) (by omega), hs l (by omega), hs (4 + l) (by omega), mI_M (i := 264 + l) (by omega), mI_0 (i := 268 + l) (by omega), mI_0 (i := 272 + l) (by omega), mI_0 (i := l) (by omega), mI_0 (i := 4 + l) (by omega)]
    exact ⟨rfl, rfl, rfl, by omega, by omega, Or.inl rfl, Or.inr (Or.inr ⟨rfl, rfl, rfl, rfl⟩)⟩
  · unfold rR
    rw [c3, c4, c6, hs 276 (by omega), hs 277 (by omega), mI_0 (i := 276) (by omega), mI_0 (i := 277) (by omega)]
    exact ⟨rfl, by omega, by omega, rfl, by omega, rfl, rfl, fun f hf => by omega, fun f _ hf i hi => by rw [hs _ (by omega), mI_n (by omega)]⟩
  · unfold rP
    rw [c3, c8, hs 3767 (by omega), mI_0 (i := 3767) (by omega)]
    refine ⟨fun f hf => ?_, fun f hf => Or.inl ⟨(c7 f hf).1, (c7 f hf).2.1⟩, by omega, by omega, by omega, fun i hi => by omega, fun i j _ hj => by omega, fun f hf hne => absurd (c7 f hf).1 hne⟩
    obtain ⟨d1, d2, d3⟩ := c7 f hf
    rw [d1, d2, d3, hs _ (by omega), hs _ (by omega), hs _ (by omega), mI_n (i := 326 + f) (by omega), mI_n (i := 350 + f) (by omega), mI_0 (i := 398 + f) (by omega)]
    exact ⟨rfl, rfl, rfl, Or.inl rfl⟩
  · unfold rV1
    rw [c9 c hc, hs _ (by omega), mI_0 (i := 806 + c) (by omega)]
    exact ⟨rfl, by omega, by omega, fun k hk => by omega, fun k j _ hj => by omega⟩
  · refine ⟨fun q hq => ?_, fun l hl => ?_⟩
    · rw [c10 q hq, hs (874 + q) (by omega), mI_0 (i := 874 + q) (by omega)]
      exact ⟨rfl, by omega, by omega, fun k hk => by omega⟩
    · rw [c11 l hl, hs (1658 + l) (by omega), mI_0 (i := 1658 + l) (by omega)]
      exact ⟨rfl, by omega, by omega, fun k hk => by omega⟩
  · obtain ⟨y1, y2, y3, y4, y5, y6, y7, y8, y9, y10⟩ := c15 p hp
    unfold rY1
    rw [y1, y2, y3, y6, y7, y8, y9, c16, cHas_none 72 (by omega) (fun i hi => (y10 i hi).2.1), cFad_none 72 (by omega) (fun i hi => (y10 i hi).2.2), hs (1726 + p) (by omega), hs (1730 + p) (by omega), hs (1734 + p) (by omega), hs (1738 + p) (by omega), mI_n (i := 1726 + p) (by omega), mI_n (i := 1730 + p) (by omega), mI_h (i := 1734 + p) (by omega), mI_n (i := 1738 + p) (by omega)]
    refine ⟨rfl, by omega, by omega, rfl, by omega, by omega, rfl, by omega, by omega, rfl, rfl, by omega, by omega, Or.inr ⟨rfl, rfl⟩, fun f hf c hc => Or.inr ?_⟩
    obtain ⟨w1, w2, w3⟩ := y10 (f * 3 + c) (by omega)
    rw [w1, w2, w3, hs _ (by omega), hs _ (by omega), mI_0 (i := 1750 + (p * 72 + (f * 3 + c))) (by omega), mI_0 (i := 2902 + (p * 72 + (f * 3 + c))) (by omega)]
    exact ⟨rfl, rfl, rfl, rfl, rfl⟩
  · obtain ⟨y1, y2, y3, y4, y5, y6, y7, y8, y9, y10⟩ := c15 p hp
    rw [y4, y5, hs _ (by omega), hs _ (by omega), mI_0 (i := 1742 + p) (by omega), mI_0 (i := 1746 + p) (by omega)]
    exact ⟨rfl, rfl⟩
  · unfold rX
    rw [c13, c14, hs 3768 (by omega), hs 3769 (by omega), mI_h (i := 3768) (by omega), mI_0 (i := 3769) (by omega)]
    refine ⟨fun f hf c hc => ?_, rfl, by omega, by omega, rfl, Or.inl rfl⟩
    obtain ⟨w1, w2, w3⟩ := c12 (f * 3 + c) (by omega)
    rw [w1, w2, w3, hs _ (by omega), hs _ (by omega), hs _ (by omega), mI_n (i := 590 + (f * 3 + c)) (by omega), mI_0 (i := 662 + (f * 3 + c)) (by omega), mI_0 (i := 734 + (f * 3 + c)) (by omega)]
    exact ⟨rfl, Or.inl rfl, rfl, by omega, by omega, rfl, Or.inl rfl⟩
  · unfold rT
    rw [c16, c17, hs 3770 (by omega), hs 3771 (by omega), mI_0 (i := 3770) (by omega), mI_0 (i := 3771) (by omega)]
    exact ⟨rfl, by omega, by omega, rfl⟩
  · unfold rW
    rw [c16, c18, hs 3766 (by omega), hs 3767 (by omega), mI_0 (i := 3766) (by omega), mI_0 (i := 3767) (by omega)]
    exact ⟨rfl, by omega, by omega, by omega⟩
theorem clear_A (b : xB) : ∃ b', cB b' ∧ ∀ Q : xB → Prop, Q b' → w_B_clear b Q := by
  obtain ⟨b2, l1, l2, l3⟩ := clL 4 0 (x_fil (x_fil (x_fil (x_fil (x_fil b 10 0 7 0) 11 0 256 0) 12 0 4 (-1)) 14 0 4 1000000) 15 0 4 0) (by omega)
  obtain ⟨b6, hb6⟩ : ∃ b6, b6 = x_fil (x_fil (x_fil (x_up (x_fil (x_fil (x_fil (x_up (x_up (x_up (x_up (x_up b2 161 0 0) 162 0 0) 170 0 0) 172 0 0) 173 0 0) 25 0 24 (-1)) 26 0 24 (-1)) 27 0 24 0) 186 0 0) 29 0 4 0) 34 0 16 0) 39 0 4 0 := ⟨_, rfl⟩
  obtain ⟨b7, x1, x2, x3⟩ := clX 72 0 (x_fil (x_fil (x_fil b6 42 0 72 (-1)) 43 0 72 0) 45 0 72 0) (by omega)
  obtain ⟨b9, y1, y2, y3⟩ := clY 4 0 (x_up (x_up b7 271 0 100) 272 0 0) (by omega) (fun p hp => by omega)
  have e : ∀ r, r < 47 ∧ r ≠ 42 ∧ r ≠ 43 ∧ r ≠ 44 ∧ r ≠ 45 ∧ r ≠ 46 ∨ (52 < r ∧ r < 108) ∨ (110 < r ∧ r < 271) → x_up (x_up (x_up b9 108 0 0) 109 0 0) 110 0 0 r = b6 r := by
    intro r hr
    rw [upR (by omega), upR (by omega), upR (by omega), y1 r (by omega), upR (by omega), upR (by omega), x1 r (by omega) (by omega), filR (by omega), filR (by omega), filR (by omega)]
  refine ⟨x_up (x_up (x_up b9 108 0 0) 109 0 0) 110 0 0, ⟨fun i hi => ?_, fun l hl => ?_, ?_, fun f hf => ?_, ?_, fun c hc => ?_, fun q hq => ?_, fun l hl => ?_, fun i hi => ?_, ?_, ?_, fun p hp => ?_, ?_, ?_, ?_⟩, fun Q hQ => ?_⟩
  · rw [e 10 (by omega), hb6]
    simp (disch := omega) only [up_eq, up_r, up_i, fil_in, fil_i, fil_r]
    rw [l1 10 (by omega) (by omega)]
    simp (disch := omega) only [up_eq, up_r, up_i, fil_in, fil_i, fil_r]
  · rw [e 12 (by omega), e 13 (by omega), e 14 (by omega), e 15 (by omega), e 16 (by omega), hb6]
    simp (disch := omega) only [up_eq, up_r, up_i, fil_in, fil_i, fil_r]
    obtain ⟨w1, w2⟩ := (l2 l hl).1 (by omega)
    rw [l1 12 (by omega) (by omega), l1 14 (by omega) (by omega), l1 15 (by omega) (by omega), w1, w2]
    simp (disch := omega) only [up_eq, up_r, up_i, fil_in, fil_i, fil_r]
    exact ⟨trivial, trivial, trivial, trivial, trivial⟩
  · rw [e 161 (by omega), e 162 (by omega), e 172 (by omega), e 173 (by omega), hb6]
    exact ⟨by simp (disch := omega) only [up_eq, up_r, up_i, fil_in, fil_i, fil_r], by simp (disch := omega) only [up_eq, up_r, up_i, fil_in, fil_i, fil_r], by simp (disch := omega) only [up_eq, up_r, up_i, fil_in, fil_i, fil_r], by simp (disch := omega) only [up_eq, up_r, up_i, fil_in, fil_i, fil_r]⟩
  · rw [e 25 (by omega), e 26 (by omega), e 27 (by omega), hb6]
    exact ⟨by simp (disch := omega) only [up_eq, up_r, up_i, fil_in, fil_i, fil_r], by simp (disch := omega) only [up_eq, up_r, up_i, fil_in, fil_i, fil_r], by simp (disch := omega) only [up_eq, up_r, up_i, fil_in, fil_i, fil_r]⟩
  · rw [e 186 (by omega), hb6]
    simp (disch := omega) only [up_eq, up_r, up_i, fil_in, fil_i, fil_r]
  · rw [e 29 (by omega), hb6]
    simp (disch := omega) only [up_eq, up_r, up_i, fil_in, fil_i, fil_r]
  · rw [e 34 (by omega), hb6]
    simp (disch := omega) only [up_eq, up_r, up_i, fil_in, fil_i, fil_r]
  · rw [e 39 (by omega), hb6]
    simp (disch := omega) only [up_eq, up_r, up_i, fil_in, fil_i, fil_r]
  · simp (disch := omega) only [up_eq, up_r, up_i, fil_in, fil_i, fil_r]
    rw [y1 42 (by omega), y1 43 (by omega), y1 44 (by omega)]
    simp (disch := omega) only [up_eq, up_r, up_i, fil_in, fil_i, fil_r]
    rw [x1 42 (by omega) (by omega), x1 43 (by omega) (by omega), (x2 i hi).1 (by omega)]
    exact ⟨by simp (disch := omega) only [up_eq, up_r, up_i, fil_in, fil_i, fil_r], by simp (disch := omega) only [up_eq, up_r, up_i, fil_in, fil_i, fil_r], rfl⟩
  · simp (disch := omega) only [up_eq, up_r, up_i, fil_in, fil_i, fil_r]
    rw [y1 271 (by omega)]
    simp (disch := omega) only [up_eq, up_r, up_i, fil_in, fil_i, fil_r]
  · simp (disch := omega) only [up_eq, up_r, up_i, fil_in, fil_i, fil_r]
    rw [y1 272 (by omega)]
    simp (disch := omega) only [up_eq, up_r, up_i, fil_in, fil_i, fil_r]
  · obtain ⟨w1, w2, w3, w4, w5, w6, w7, w8, w9, w10⟩ := y2 p hp
    refine ⟨by simp (disch := omega) only [up_eq, up_r, up_i, fil_in, fil_i, fil_r]; exact w1, by simp (disch := omega) only [up_eq, up_r, up_i, fil_in, fil_i, fil_r]; exact w2, by simp (disch := omega) only [up_eq, up_r, up_i, fil_in, fil_i, fil_r]; exact w3, by simp (disch := omega) only [up_eq, up_r, up_i, fil_in, fil_i, fil_r]; exact w4, by simp (disch := omega) only [up_eq, up_r, up_i, fil_in, fil_i, fil_r]; exact w5, by simp (disch := omega) only [up_eq, up_r, up_i, fil_in, fil_i, fil_r]; exact w6, by simp (disch := omega) only [up_eq, up_r, up_i, fil_in, fil_i, fil_r]; exact w7, by simp (disch := omega) only [up_eq, up_r, up_i, fil_in, fil_i, fil_r]; exact w8, by simp (disch := omega) only [up_eq, up_r, up_i, fil_in, fil_i, fil_r]; exact w9, fun i hi => ?_⟩
    obtain ⟨v1, v2, v3⟩ := w10 i hi
    exact ⟨by simp (disch := omega) only [up_eq, up_r, up_i, fil_in, fil_i, fil_r]; exact v1, by simp (disch := omega) only [up_eq, up_r, up_i, fil_in, fil_i, fil_r]; exact v2, by simp (disch := omega) only [up_eq, up_r, up_i, fil_in, fil_i, fil_r]; exact v3⟩
  · simp (disch := omega) only [up_eq, up_r, up_i, fil_in, fil_i, fil_r]
  · simp (disch := omega) only [up_eq, up_r, up_i, fil_in, fil_i, fil_r]
  · simp (disch := omega) only [up_eq, up_r, up_i, fil_in, fil_i, fil_r]
  · refine ⟨4 + 1, l3 _ _ ⟨24 + 1, clP 24 0 _ (by omega) _ _ ⟨72 + 1, ?_⟩⟩⟩
    rw [hb6] at x3
    exact x3 _ _ ⟨4 + 1, y3 Q _ hQ⟩
