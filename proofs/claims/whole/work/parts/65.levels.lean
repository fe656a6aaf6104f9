/-! ===== a TICK: what goes to all CHANNELS ===== -/
theorem chR_of {M n : Int} {b g : xB} {f c : Nat} (h : rG M n b (g 71)) (hf : f < 24) (hp : b 25 f ≠ -1) (hc : c < kChan (b 17 f)) : chR b g f c := by
  obtain ⟨hF, hL, hR, hP, hV, hQ, hY, hX, u1, u2, u3, u4⟩ := h
  have hc3 : c < 3 := by have := kChan_le (b 17 f); omega
  obtain ⟨p1, p2, p3, p4, p5, p6⟩ := (hP.2.1 f hf).resolve_left (fun z => hp z.1)
  obtain ⟨q1, q2, q3⟩ := hR.2.2.2.2.2.2.2.1 f p5
  obtain ⟨k1, k2, k3, k4, k5, k6⟩ := q3.resolve_right (fun z => p6 z.1)
  obtain ⟨x1, x2, x3, x4, x5, x6, x7⟩ := hX.1 f hf c hc3
  refine ⟨hf, hc3, hc, k1, k2, q1, fun p hp => (hY p hp).2.2.2.2.2.2.2.2.2.2.2.2.2.2, fun p hp => ⟨(hY p hp).2.2.2.2.2.2.1, (hY p hp).2.2.2.2.2.2.2.1, (hY p hp).2.2.2.2.2.2.2.2.1⟩, hV, x6, x7, x1, ?_, x3, x4, x5, hX.2.1, hX.2.2.1, hX.2.2.2.1, q2, k3, k4, k6, p1, p2, p3, p4⟩
  rcases x2 with e | ⟨e1, e2, e3, e4, e5⟩
  · exact Or.inl e
  · exact Or.inr ⟨e1, e2, e5⟩
theorem chR_c {b b' g g' : xB} {f c : Nat} (h : chR b g f c) (hb : ∀ r, r ≠ 43 → r ≠ 45 → r ≠ 46 → r ≠ 205 → r ≠ 206 → b' r = b r) (h43 : b' 43 (f * 3 + c) = b 43 (f * 3 + c)) (hg : ∀ i, i < 662 ∨ 734 ≤ i → g' 71 i = g 71 i) (h662 : g' 71 (662 + (f * 3 + c)) = g 71 (662 + (f * 3 + c))) : chR b' g' f c := by
  have e : ∀ r, r ≠ 43 ∧ r ≠ 45 ∧ r ≠ 46 ∧ r ≠ 205 ∧ r ≠ 206 → b' r = b r := fun r h => hb r h.1 h.2.1 h.2.2.1 h.2.2.2.1 h.2.2.2.2
  obtain ⟨hf, hc, hch, k0, k3, hk, hC, hS, hV, h44, h44', h42, h42', h43', h430, h431, h271, g0, g1, h18, n0, n1, h22, l0, l1, p0, p1⟩ := h
  unfold chR
  rw [e 17 (by omega), e 282 (by omega), e 44 (by omega), e 42 (by omega), h43, e 271 (by omega), e 18 (by omega), e 22 (by omega), e 25 (by omega), e 26 (by omega), hg (278 + f) (by omega), hg (734 + (f * 3 + c)) (by omega), hg (590 + (f * 3 + c)) (by omega), h662, hg 3768 (by omega), hg (302 + f) (by omega)]
  refine ⟨hf, hc, hch, k0, k3, hk, fun p hp => rC_c hp (hC p hp) (fun _ _ => by rw [e 47 (by omega)]) (fun _ _ => by rw [e 48 (by omega)]) (fun _ _ => by rw [e 49 (by omega)]) (fun _ _ => by rw [e 50 (by omega)]) (fun _ _ => by rw [e 51 (by omega)]) (fun _ _ => by rw [e 52 (by omega)]) (by rw [e 161 (by omega)]; exact Int.le_refl _) (fun _ _ => by rw [e 17 (by omega)]) (by rw [e 110 (by omega)]; exact Int.le_refl _) (fun i hi => ⟨hg _ (by omega), hg _ (by omega), hg _ (by omega), hg _ (by omega), hg _ (by omega), hg _ (by omega), hg _ (by omega)⟩), fun p hp => by rw [hg _ (by omega)]; exact hS p hp, rV_c hV (e 29 (by omega)) (e 30 (by omega)) (e 31 (by omega)) (e 32 (by omega)) (e 33 (by omega)) (fun i _ hi => hg i (by omega)), h44, h44', h42, h42', h43', h430, h431, h271, g0, g1, h18, n0, n1, h22, l0, l1, p0, p1⟩
/-- what stands at a CHANNEL that is done -/
def lvD (b0 : xB) (f c : Nat) (L B W : Int) : Prop := lvP b0 f c L B ∧ 0 ≤ L ∧ L ≤ kTop (b0 17 f) c ∧ (dimV (b0 17 f) c = 1 → L ≤ 255) ∧ 0 ≤ B ∧ B ≤ 255 ∧ W = whV b0 f c
def iC (b0 : xB) (D : Nat → Nat → Prop) (b : xB) : Prop :=
  (∀ r, r ≠ 43 → r ≠ 45 → r ≠ 46 → r ≠ 205 → r ≠ 206 → b r = b0 r) ∧ ∀ f c, f < 24 → c < 3 → (D f c → lvD b0 f c (b 45 (f * 3 + c)) (b 43 (f * 3 + c)) (b 46 (f * 3 + c))) ∧ (¬ D f c → b 43 (f * 3 + c) = b0 43 (f * 3 + c))
theorem whV_c {b b' : xB} {f c : Nat} (e12 : b' 12 = b 12) (e17 : b' 17 = b 17) (e25 : b' 25 = b 25) (e26 : b' 26 = b 26) : whV b' f c = whV b f c := by
  unfold whV
  rw [e12, e17, e25, e26]
theorem iC_step {b0 b g0 : xB} {D D' : Nat → Nat → Prop} {f c : Nat} (h : iC b0 D b) (hr : chR b0 g0 f c) (hn : ¬ D f c) (hD : ∀ f' c', D' f' c' ↔ D f' c' ∨ (f' = f ∧ c' = c)) : ∃ b', iC b0 D' b' ∧ ∀ (Q : xB → Prop) (K : xB → Int → Prop) (n : Nat) (v1 : Int), w_X_reckonLevels_h25 Q K n b' v1 f ((c + 1 : Nat) : Int) → w_X_reckonLevels_h25 Q K (n + 1) b v1 f c := by
  obtain ⟨h1, h2⟩ := h
  have hf := hr.1
  have hc := hr.2.1
  have h43 : b 43 (f * 3 + c) = b0 43 (f * 3 + c) := (h2 f c hf hc).2 hn
  have hr' := chR_c (b' := b) (g' := g0) hr h1 h43 (fun _ _ => rfl) rfl
  obtain ⟨L, B, b', z1, z2, z3, z4, z5, z6, ⟨y1, y2, y3, y4, y5⟩, z8, -⟩ := lev_A hr'
  have e17 : b 17 = b0 17 := h1 17 (by omega) (by omega) (by omega) (by omega) (by omega)
  refine ⟨b', ⟨fun r a1 a2 a3 a4 a5 => (y1 r a1 a2 a3 a4 a5).trans (h1 r a1 a2 a3 a4 a5), fun f' c' hf' hc' => ?_⟩, z8⟩
  by_cases e : f' = f ∧ c' = c
  · obtain ⟨rfl, rfl⟩ := e
    refine ⟨fun _ => ?_, fun hnd => absurd ((hD f' c').mpr (Or.inr ⟨rfl, rfl⟩)) hnd⟩
    rw [y3, y4, y5]
    rw [e17] at z3 z4
    exact ⟨lvP_c z1 (fun r a1 a2 a3 a4 a5 => (h1 r a1 a2 a3 a4 a5).symm) h43.symm, z2, z3, z4, z5, z6, whV_c (h1 12 (by omega) (by omega) (by omega) (by omega) (by omega)) e17 (h1 25 (by omega) (by omega) (by omega) (by omega) (by omega)) (h1 26 (by omega) (by omega) (by omega) (by omega) (by omega))⟩
  · obtain ⟨w1, w2, w3⟩ := y2 (f' * 3 + c') (by omega)
    rw [w1, w2, w3]
    refine ⟨fun hd => (h2 f' c' hf' hc').1 (((hD f' c').mp hd).resolve_right e), fun hnd => (h2 f' c' hf' hc').2 (fun z => hnd ((hD f' c').mpr (Or.inl z)))⟩
/-- the class's channels of one FIXTURE -/
theorem lev_in {b0 g0 : xB} {f : Nat} {D : Nat → Nat → Prop} (hR : ∀ c, c < kChan (b0 17 f) → chR b0 g0 f c) (hf : f < 24) (hn : ∀ c, ¬ D f c) : ∀ (k c : Nat) (b : xB), c + k = kChan (b0 17 f) → iC b0 (fun f' c' => D f' c' ∨ (f' = f ∧ c' < c)) b → ∃ b', iC b0 (fun f' c' => D f' c' ∨ (f' = f ∧ c' < kChan (b0 17 f))) b' ∧ ∀ (Q : xB → Prop) (K : xB → Int → Prop) (v1 : Int), K b' v1 → w_X_reckonLevels_h25 Q K (k + 1) b v1 f c
  | 0, c, b, hc, hI => by
    have : c = kChan (b0 17 f) := by omega
    subst this
    refine ⟨b, hI, fun Q K v1 hK => ?_⟩
    have e17 : b 17 = b0 17 := hI.1 17 (by omega) (by omega) (by omega) (by omega) (by omega)
    rw [w_X_reckonLevels_h25_s, R_chan_e hf, e17, e_f (by omega)]
    exact hK
  | k + 1, c, b, hc, hI => by
    obtain ⟨b1, h1, h2⟩ := iC_step (D' := fun f' c' => D f' c' ∨ (f' = f ∧ c' < c + 1)) hI (hR c (by omega)) (fun z => by
      rcases z with z | z
      · exact hn c z
      · omega) (fun f' c' => by
      constructor
      · rintro (z | ⟨z1, z2⟩)
        · exact Or.inl (Or.inl z)
        · by_cases e : c' = c
          · exact Or.inr ⟨z1, e⟩
          · exact Or.inl (Or.inr ⟨z1, by omega⟩)
      · rintro ((z | ⟨z1, z2⟩) | ⟨z1, z2⟩)
        · exact Or.inl z
        · exact Or.inr ⟨z1, by omega⟩
        · exact Or.inr ⟨z1, by omega⟩)
    obtain ⟨b', h3, h4⟩ := lev_in hR hf hn k (c + 1) b1 (by omega) h1
    exact ⟨b', h3, fun Q K v1 hK => h2 Q K (k + 1) v1 (h4 Q K v1 hK)⟩
def dnO (b0 : xB) (i f c : Nat) : Prop := c < kChan (b0 17 f) ∧ ∃ i', i' < i ∧ b0 28 i' = (f : Int)
theorem iC_cg {b0 b : xB} {D D' : Nat → Nat → Prop} (h : iC b0 D b) (e : ∀ f c, D' f c ↔ D f c) : iC b0 D' b := ⟨h.1, fun f c hf hc => ⟨fun z => (h.2 f c hf hc).1 ((e f c).mp z), fun z => (h.2 f c hf hc).2 (fun w => z ((e f c).mpr w))⟩⟩
theorem lev_out {M n : Int} {b0 g0 : xB} {C : Nat} (h : rG M n b0 (g0 71)) (hC : b0 186 0 = (C : Int)) : ∀ (k i : Nat) (b : xB), i + k = C → iC b0 (dnO b0 i) b → ∃ b', iC b0 (dnO b0 C) b' ∧ ∀ (Q : xB → Prop) (K : xB → Prop), K b' → w_X_reckonLevels_h2 Q K (k + 1) b i
  | 0, i, b, hi, hI => by
    have : i = C := by omega
    subst this
    refine ⟨b, hI, fun Q K hK => ?_⟩
    have e : b 186 0 = (i : Int) := by rw [hI.1 186 (by omega) (by omega) (by omega) (by omega) (by omega)]; exact hC
    rw [w_X_reckonLevels_h2_s, e_f (by omega)]
    exact hK
  | k + 1, i, b, hi, hI => by
    obtain ⟨p1, p2, p3, p4, p5, p6, p7, p8⟩ := h.2.2.2.1
    obtain ⟨o1, o2, o3, o4, o5⟩ := p6 i (by omega)
    obtain ⟨F, hF⟩ := nat_of o1
    rw [hF, Int.toNat_natCast] at o3
    have hF24 : F < 24 := by omega
    have nd : ∀ c, ¬ dnO b0 i F c := by
      rintro c ⟨-, i', hi', e⟩
      have := p7 i' i hi' (by omega)
      rw [e, hF] at this
      omega
    obtain ⟨b1, h1, h2⟩ := lev_in (D := dnO b0 i) (fun c hc => chR_of h hF24 o3 hc) hF24 nd (kChan (b0 17 F)) 0 b (by omega) (iC_cg hI (fun f c => ⟨fun z => z.resolve_right (fun w => by omega), Or.inl⟩))
    obtain ⟨b', h3, h4⟩ := lev_out h hC k (i + 1) b1 (by omega) (iC_cg h1 (fun f c => by
      constructor
      · rintro ⟨z1, i', z2, z3⟩
        by_cases e : i' = i
        · subst e
          rw [hF] at z3
          have : f = F := by omega
          subst this
          exact Or.inr ⟨rfl, z1⟩
        · exact Or.inl ⟨z1, i', by omega, z3⟩
      · rintro (⟨z1, i', z2, z3⟩ | ⟨rfl, z2⟩)
        · exact ⟨z1, i', by omega, z3⟩
        · exact ⟨z2, i, by omega, hF⟩))
    refine ⟨b', h3, fun Q K hK => ?_⟩
    have h4 := h4 Q K hK
    have e : b 186 0 = (C : Int) := by rw [hI.1 186 (by omega) (by omega) (by omega) (by omega) (by omega)]; exact hC
    have e28 : b 28 i = (F : Int) := by rw [hI.1 28 (by omega) (by omega) (by omega) (by omega) (by omega)]; exact hF
    rw [w_X_reckonLevels_h2_s, e_t (by omega), e_gd (by omega) (by omega), Int.toNat_natCast, e28]
    refine ⟨kChan (b0 17 F) + 1, h2 Q _ i ?_⟩
    rw [xw_id (by omega) (by omega), show (i : Int) + 1 = ((i + 1 : Nat) : Int) by omega]
    exact h4
/-- the model's -/
def iM (b0 g0 : xB) (D : Nat → Nat → Prop) (g : xB) : Prop :=
  (∀ r, r ≠ 71 → r ≠ 78 → g r = g0 r) ∧ (∀ i, i < 662 ∨ 734 ≤ i → g 71 i = g0 71 i) ∧ ∀ f c, f < 24 → c < 3 → (D f c → lvP b0 f c (g 78 (f * 3 + c)) (g 71 (662 + (f * 3 + c)))) ∧ (¬ D f c → g 71 (662 + (f * 3 + c)) = g0 71 (662 + (f * 3 + c)))
theorem iM_step {b0 g g0 : xB} {D D' : Nat → Nat → Prop} {f c : Nat} (h : iM b0 g0 D g) (hr : chR b0 g0 f c) (hn : ¬ D f c) (hD : ∀ f' c', D' f' c' ↔ D f' c' ∨ (f' = f ∧ c' = c)) : ∃ g', iM b0 g0 D' g' ∧ ∀ Q : xB → Prop, Q g' → w_m_work g f c Q = True := by
  obtain ⟨h1, h2, h3⟩ := h
  have hf := hr.1
  have hc := hr.2.1
  have h662 := (h3 f c hf hc).2 hn
  have hr' := chR_c (b' := b0) (g' := g) hr (fun _ _ _ _ _ _ => rfl) rfl h2 h662
  obtain ⟨L, B, b', z1, -, -, -, -, -, -, -, z9⟩ := lev_A hr'
  refine ⟨_, ⟨fun r a1 a2 => by rw [upR a2, upR a1]; exact h1 r a1 a2, fun i hi => by simp (disch := omega) only [up_eq, up_r, up_i, fil_in, fil_i, fil_r]; exact h2 i hi, fun f' c' hf' hc' => ?_⟩, z9⟩
  by_cases e : f' = f ∧ c' = c
  · obtain ⟨rfl, rfl⟩ := e
    refine ⟨fun _ => ?_, fun hnd => absurd ((hD f' c').mpr (Or.inr ⟨rfl, rfl⟩)) hnd⟩
    simp (disch := omega) only [up_eq, up_r, up_i, fil_in, fil_i, fil_r]
    exact z1
  · simp (disch := omega) only [up_eq, up_r, up_i, fil_in, fil_i, fil_r]
    exact ⟨fun hd => (h3 f' c' hf' hc').1 (((hD f' c').mp hd).resolve_right e), fun hnd => (h3 f' c' hf' hc').2 (fun z => hnd ((hD f' c').mpr (Or.inl z)))⟩
theorem iM_cg {b0 g0 g : xB} {D D' : Nat → Nat → Prop} (h : iM b0 g0 D g) (e : ∀ f c, D' f c ↔ D f c) : iM b0 g0 D' g := ⟨h.1, h.2.1, fun f c hf hc => ⟨fun z => (h.2.2 f c hf hc).1 ((e f c).mp z), fun z => (h.2.2 f c hf hc).2 (fun w => z ((e f c).mpr w))⟩⟩
def dnM (b0 : xB) (i f c : Nat) : Prop := b0 25 f ≠ -1 ∧ c < kChan (b0 17 f) ∧ f < i
theorem levM_in {M n : Int} {b0 g0 : xB} {f : Nat} (h : rG M n b0 (g0 71)) (hf : (f : Int) < b0 161 0) : ∀ (k c : Nat) (g : xB), c + k = 3 → iM b0 g0 (fun f' c' => dnM b0 f f' c' ∨ (f' = f ∧ b0 25 f ≠ -1 ∧ c' < kChan (b0 17 f) ∧ c' < c)) g → ∃ g', iM b0 g0 (dnM b0 (f + 1)) g' ∧ ∀ (Q : xB → Prop) (K : xB → Int → Prop), K g' f → w_m_tickOnce_h46 Q K (k + 1) g f c
  | 0, c, g, hc, hI => by
    have : c = 3 := by omega
    subst this
    refine ⟨g, iM_cg hI (fun f' c' => ?_), fun Q K hK => ?_⟩
    · have := kChan_le (b0 17 f')
      constructor
      · rintro ⟨z1, z2, z3⟩
        by_cases e : f' = f
        · subst e
          exact Or.inr ⟨rfl, z1, z2, by omega⟩
        · exact Or.inl ⟨z1, z2, by omega⟩
      · rintro (⟨z1, z2, z3⟩ | ⟨rfl, z2, z3, z4⟩)
        · exact ⟨z1, z2, by omega⟩
        · exact ⟨z2, z3, by omega⟩
    · rw [w_m_tickOnce_h46_s]
      simp (disch := omega) only [e_T, e_F, e_t, e_f, e_gd, e_bg0, e_bg1, e_nz, Int.toNat_natCast, Int.toNat_add, Int.toNat_mul, xw_al, xw_ar, xw_ml, xw_mr, xw_sl, xw_sr, xw_id, x_sl_c, mc3, mc6, mc8, mc12, mc64, mc72, Nat.add_assoc, Int.reduceToNat, L_isLine_t, L_isLine_f, R_has_t, R_has_f, R_isCh_t, R_isCh_f, V_isCurve_t, V_isCurve_f, Q_isCue_t, Q_isCue_f, Q_isList_t, Q_isList_f, B_isPb_t, B_isPb_f, m_in_t, m_in_f, m_isLine_t, m_isLine_f, m_isPb_t, m_isPb_f, m_isFx_t, m_isFx_f, F_note_e, m_finds_e, Int.reduceToNat, noted_neg, up_eq, up_r, up_i, fil_in, fil_i, fil_r]
      exact hK
  | k + 1, c, g, hc, hI => by
    have h24 := h.2.2.1.2.2.1
    have hf24 : f < 24 := by omega
    have ec : (c : Int) + 1 = ((c + 1 : Nat) : Int) := by omega
    have hrel := (h.2.2.2.1.1 f hf24).1
    have e326 : g 71 (326 + f) = b0 25 f := by rw [hI.2.1 (326 + f) (by omega), ← hrel]
    have hkind := (h.2.2.1.2.2.2.2.2.2.2.1 f hf).1
    have hk04 : 0 ≤ b0 17 f ∧ b0 17 f ≤ 4 := by
      rcases (h.2.2.1.2.2.2.2.2.2.2.1 f hf).2.2 with ⟨k1, k2, -⟩ | ⟨k1, -⟩ <;> omega
    have e278 : g 71 (278 + f) = b0 17 f := by rw [hI.2.1 (278 + f) (by omega), ← hkind]
    have skip : (b0 25 f = -1 ∨ ¬ c < kChan (b0 17 f)) → iM b0 g0 (fun f' c' => dnM b0 f f' c' ∨ (f' = f ∧ b0 25 f ≠ -1 ∧ c' < kChan (b0 17 f) ∧ c' < c + 1)) g := by
      intro hs
      refine iM_cg hI (fun f' c' => ?_)
      constructor
      · rintro (z | ⟨rfl, z2, z3, z4⟩)
        · exact Or.inl z
        · refine Or.inr ⟨rfl, z2, z3, ?_⟩
          rcases hs with e | e
          · exact absurd e z2
          · by_cases e2 : c' = c
            · subst e2
              exact absurd z3 e
            · omega
      · rintro (z | ⟨rfl, z2, z3, z4⟩)
        · exact Or.inl z
        · exact Or.inr ⟨rfl, z2, z3, by omega⟩
    by_cases hp : b0 25 f = -1
    · obtain ⟨g', h1, h2⟩ := levM_in h hf k (c + 1) g (by omega) (skip (Or.inl hp))
      refine ⟨g', h1, fun Q K hK => ?_⟩
      have h2 := h2 Q K hK
      rw [w_m_tickOnce_h46_s]
      simp (disch := omega) only [e_T, e_F, e_t, e_f, e_gd, e_bg0, e_bg1, e_nz, Int.toNat_natCast, Int.toNat_add, Int.toNat_mul, xw_al, xw_ar, xw_ml, xw_mr, xw_sl, xw_sr, xw_id, x_sl_c, mc3, mc6, mc8, mc12, mc64, mc72, Nat.add_assoc, Int.reduceToNat, L_isLine_t, L_isLine_f, R_has_t, R_has_f, R_isCh_t, R_isCh_f, V_isCurve_t, V_isCurve_f, Q_isCue_t, Q_isCue_f, Q_isList_t, Q_isList_f, B_isPb_t, B_isPb_f, m_in_t, m_in_f, m_isLine_t, m_isLine_f, m_isPb_t, m_isPb_f, m_isFx_t, m_isFx_f, F_note_e, m_finds_e, Int.reduceToNat, noted_neg, up_eq, up_r, up_i, fil_in, fil_i, fil_r]
      rw [ec]
      exact h2
    · by_cases hch : c < kChan (b0 17 f)
      · obtain ⟨g1, w1, w2⟩ := iM_step (D' := fun f' c' => dnM b0 f f' c' ∨ (f' = f ∧ b0 25 f ≠ -1 ∧ c' < kChan (b0 17 f) ∧ c' < c + 1)) hI (chR_of h hf24 hp hch) (fun z => by
          rcases z with ⟨z1, z2, z3⟩ | ⟨z1, z2, z3, z4⟩ <;> omega) (fun f' c' => by
          constructor
          · rintro (z | ⟨z1, z2, z3, z4⟩)
            · exact Or.inl (Or.inl z)
            · by_cases e : c' = c
              · exact Or.inr ⟨z1, e⟩
              · exact Or.inl (Or.inr ⟨z1, z2, z3, by omega⟩)
          · rintro ((z | ⟨z1, z2, z3, z4⟩) | ⟨z1, z2⟩)
            · exact Or.inl z
            · exact Or.inr ⟨z1, z2, z3, by omega⟩
            · exact Or.inr ⟨z1, hp, by omega, by omega⟩)
        obtain ⟨g', h1, h2⟩ := levM_in h hf k (c + 1) g1 (by omega) w1
        refine ⟨g', h1, fun Q K hK => ?_⟩
        have h2 := h2 Q K hK
        have w2 := w2 (fun g5 => w_m_tickOnce_h46 Q K (k + 1) g5 f ((c + 1 : Nat) : Int)) h2
        rw [w_m_tickOnce_h46_s]
        simp (disch := omega) only [e_T, e_F, e_t, e_f, e_gd, e_bg0, e_bg1, e_nz, Int.toNat_natCast, Int.toNat_add, Int.toNat_mul, xw_al, xw_ar, xw_ml, xw_mr, xw_sl, xw_sr, xw_id, x_sl_c, mc3, mc6, mc8, mc12, mc64, mc72, Nat.add_assoc, Int.reduceToNat, L_isLine_t, L_isLine_f, R_has_t, R_has_f, R_isCh_t, R_isCh_f, V_isCurve_t, V_isCurve_f, Q_isCue_t, Q_isCue_f, Q_isList_t, Q_isList_f, B_isPb_t, B_isPb_f, m_in_t, m_in_f, m_isLine_t, m_isLine_f, m_isPb_t, m_isPb_f, m_isFx_t, m_isFx_f, F_note_e, m_finds_e, Int.reduceToNat, noted_neg, up_eq, up_r, up_i, fil_in, fil_i, fil_r]
        rw [m_chan_t hf24 (by omega) (by omega) (by rw [e278]; exact hch), e_f (by decide), ec]
        simp only [w2]
      · obtain ⟨g', h1, h2⟩ := levM_in h hf k (c + 1) g (by omega) (skip (Or.inr hch))
        refine ⟨g', h1, fun Q K hK => ?_⟩
        have h2 := h2 Q K hK
        rw [w_m_tickOnce_h46_s]
        simp (disch := omega) only [e_T, e_F, e_t, e_f, e_gd, e_bg0, e_bg1, e_nz, Int.toNat_natCast, Int.toNat_add, Int.toNat_mul, xw_al, xw_ar, xw_ml, xw_mr, xw_sl, xw_sr, xw_id, x_sl_c, mc3, mc6, mc8, mc12, mc64, mc72, Nat.add_assoc, Int.reduceToNat, L_isLine_t, L_isLine_f, R_has_t, R_has_f, R_isCh_t, R_isCh_f, V_isCurve_t, V_isCurve_f, Q_isCue_t, Q_isCue_f, Q_isList_t, Q_isList_f, B_isPb_t, B_isPb_f, m_in_t, m_in_f, m_isLine_t, m_isLine_f, m_isPb_t, m_isPb_f, m_isFx_t, m_isFx_f, F_note_e, m_finds_e, Int.reduceToNat, noted_neg, up_eq, up_r, up_i, fil_in, fil_i, fil_r]
        rw [m_chan_f hf24 (by omega) (by omega) (by omega) (by rw [e278]; exact hch), e_t rfl, ec]
        exact h2
theorem levM_out {M n : Int} {b0 g0 : xB} {N : Nat} (h : rG M n b0 (g0 71)) (hN : b0 161 0 = (N : Int)) : ∀ (k i : Nat) (g : xB), i + k = N → iM b0 g0 (dnM b0 i) g → ∃ g', iM b0 g0 (dnM b0 N) g' ∧ ∀ (Q : xB → Prop) (K : xB → Prop), K g' → w_m_tickOnce_h32 Q K (k + 1) g i
  | 0, i, g, hi, hI => by
    have : i = N := by omega
    subst this
    refine ⟨g, hI, fun Q K hK => ?_⟩
    have e : g 71 276 = (i : Int) := by rw [hI.2.1 276 (by omega), ← h.2.2.1.1]; exact hN
    rw [w_m_tickOnce_h32_s, e_f (by omega)]
    exact hK
  | k + 1, i, g, hi, hI => by
    have h24 := h.2.2.1.2.2.1
    obtain ⟨g1, h1, h2⟩ := levM_in h (f := i) (by omega) 3 0 g (by omega) (iM_cg hI (fun f c => ⟨fun z => z.resolve_right (fun w => by omega), Or.inl⟩))
    obtain ⟨g', h3, h4⟩ := levM_out h hN k (i + 1) g1 (by omega) h1
    refine ⟨g', h3, fun Q K hK => ?_⟩
    have h4 := h4 Q K hK
    have e : g 71 276 = (N : Int) := by rw [hI.2.1 276 (by omega), ← h.2.2.1.1]; exact hN
    rw [w_m_tickOnce_h32_s, e_t (by omega)]
    refine ⟨3 + 1, h2 Q _ ?_⟩
    rw [xw_id (by omega) (by omega), show (i : Int) + 1 = ((i + 1 : Nat) : Int) by omega]
    exact h4
/-- what goes to the CHANNELS, on both sides alike -/
def levR (b g : xB) : Prop := ∀ f c, f < 24 → b 25 f ≠ -1 → c < kChan (b 17 f) → b 45 (f * 3 + c) = g 78 (f * 3 + c) ∧ 0 ≤ b 45 (f * 3 + c) ∧ b 45 (f * 3 + c) ≤ kTop (b 17 f) c ∧ (dimV (b 17 f) c = 1 → b 45 (f * 3 + c) ≤ 255) ∧ b 46 (f * 3 + c) = whV b f c
theorem levels_A {M n : Int} {b g : xB} (h : rG M n b (g 71)) : ∃ b' g', rG M n b' (g' 71) ∧ levR b' g' ∧ (∀ r, r ≠ 43 → r ≠ 45 → r ≠ 46 → r ≠ 205 → r ≠ 206 → b' r = b r) ∧ (∀ r, r ≠ 71 → r ≠ 78 → g' r = g r) ∧ (∀ i, i < 662 ∨ 734 ≤ i → g' 71 i = g 71 i) ∧ (∀ Q : xB → Prop, Q b' → w_X_reckonLevels b Q) ∧ (∀ (Q K : xB → Prop), K g' → ∃ n, w_m_tickOnce_h32 Q K n g 0) := by
  obtain ⟨C, hC⟩ := nat_of h.2.2.2.1.2.2.1
  obtain ⟨N, hN⟩ := nat_of h.2.2.1.2.1
  obtain ⟨b', i1, c1⟩ := lev_out h hC C 0 b (by omega) ⟨fun _ _ _ _ _ _ => rfl, fun f c _ _ => ⟨fun ⟨_, i', hi', _⟩ => absurd hi' (Nat.not_lt_zero i'), fun _ => rfl⟩⟩
  obtain ⟨g', i2, c2⟩ := levM_out h hN N 0 g (by omega) ⟨fun _ _ _ => rfl, fun _ _ => rfl, fun f c _ _ => ⟨fun ⟨_, _, z⟩ => absurd z (Nat.not_lt_zero f), fun _ => rfl⟩⟩
  have e : ∀ r, r ≠ 43 ∧ r ≠ 45 ∧ r ≠ 46 ∧ r ≠ 205 ∧ r ≠ 206 → b' r = b r := fun r h => i1.1 r h.1 h.2.1 h.2.2.1 h.2.2.2.1 h.2.2.2.2
  have cnv : ∀ f c, f < 24 → (dnO b C f c ↔ dnM b N f c) := by
    intro f c hf
    obtain ⟨p1, p2, p3, p4, p5, p6, p7, p8⟩ := h.2.2.2.1
    constructor
    · rintro ⟨z1, i', z2, z3⟩
      obtain ⟨o1, o2, o3, -⟩ := p6 i' (by omega)
      rw [z3, Int.toNat_natCast] at o3
      have := (p2 f hf).resolve_left (fun z => o3 z.1)
      exact ⟨o3, z1, by omega⟩
    · rintro ⟨z1, z2, z3⟩
      obtain ⟨i', w1, w2⟩ := p8 f hf z1
      exact ⟨z2, i', by omega, w2⟩
  refine ⟨b', g', ?_, ?_, i1.1, i2.1, i2.2.1, fun Q hQ => ⟨C + 1, c1 Q Q hQ⟩, fun Q K hK => ⟨N + 1, c2 Q K hK⟩⟩
  · obtain ⟨hF, hL, hR, hP, hV, hQ, hY, hX, u1, u2, u3, u4⟩ := h
    refine ⟨rF_c hF (e _ (by omega)) (fun i _ _ => i2.2.1 i (by omega)), rL_c hL (e _ (by omega)) (e _ (by omega)) (e _ (by omega)) (e _ (by omega)) (e _ (by omega)) (e _ (by omega)) (fun i hi => i2.2.1 i (by omega)), rR_c hR (e _ (by omega)) (e _ (by omega)) (e _ (by omega)) (e _ (by omega)) (e _ (by omega)) (e _ (by omega)) (e _ (by omega)) (e _ (by omega)) (e _ (by omega)) (fun i hi => i2.2.1 i (by omega)), rP_c hP (e _ (by omega)) (e _ (by omega)) (e _ (by omega)) (e _ (by omega)) (e _ (by omega)) (e _ (by omega)) (e _ (by omega)) (fun i hi => i2.2.1 i (by omega)), rV_c hV (e _ (by omega)) (e _ (by omega)) (e _ (by omega)) (e _ (by omega)) (e _ (by omega)) (fun i _ hi => i2.2.1 i (by omega)), rQ_c hQ (e _ (by omega)) (e _ (by omega)) (e _ (by omega)) (e _ (by omega)) (e _ (by omega)) (e _ (by omega)) (e _ (by omega)) (e _ (by omega)) (by rw [e 161 (by omega)]; exact Int.le_refl _) (fun i _ hi => i2.2.1 i (by omega)), rY_c hY (e _ (by omega)) (e _ (by omega)) (e _ (by omega)) (e _ (by omega)) (e _ (by omega)) (e _ (by omega)) (e _ (by omega)) (e _ (by omega)) (e _ (by omega)) (e _ (by omega)) (e _ (by omega)) (e _ (by omega)) (e _ (by omega)) (fun i _ => by rw [e 39 (by omega)]; exact Int.le_refl _) (by rw [e 108 (by omega)]; exact Int.le_refl _) (by rw [e 161 (by omega)]; exact Int.le_refl _) (fun _ _ => by rw [e 17 (by omega)]) (by rw [e 110 (by omega)]; exact Int.le_refl _) (fun i _ _ hi => i2.2.1 i (by omega)), ?_, by rw [e 110 (by omega), i2.2.1 3766 (by omega)]; exact u1, by rw [e 110 (by omega)]; exact u2, by rw [e 110 (by omega)]; exact u3, by rw [i2.2.1 3767 (by omega)]; exact u4⟩
    obtain ⟨x1, x2⟩ := hX
    unfold rX
    rw [e 42 (by omega), e 44 (by omega), e 271 (by omega), e 272 (by omega), e 161 (by omega), e 17 (by omega), i2.2.1 3768 (by omega), i2.2.1 3769 (by omega)]
    refine ⟨fun f hf c hc => ?_, x2⟩
    rw [i2.2.1 (590 + (f * 3 + c)) (by omega), i2.2.1 (734 + (f * 3 + c)) (by omega)]
    obtain ⟨y1, y2, y3, y4, y5, y6, y7⟩ := x1 f hf c hc
    have q1 := i1.2 f c hf hc
    have q2 := i2.2.2 f c hf hc
    by_cases hd : dnO b C f c
    · obtain ⟨w1, w2, w3, w4, w5, w6, w7⟩ := q1.1 hd
      have v1 := q2.1 ((cnv f c hf).mp hd)
      exact ⟨y1, y2, (lvP_u w1 v1).2, w5, w6, y6, y7⟩
    · rw [q1.2 hd, q2.2 (fun z => hd ((cnv f c hf).mpr z))]
      exact ⟨y1, y2, y3, y4, y5, y6, y7⟩
  · intro f c hf hp hc
    rw [e 25 (by omega)] at hp
    rw [e 17 (by omega)] at hc ⊢
    have hc3 : c < 3 := by have := kChan_le (b 17 f); omega
    obtain ⟨i', w1, w2⟩ := h.2.2.2.1.2.2.2.2.2.2.2 f hf hp
    have hd : dnO b C f c := ⟨hc, i', by omega, w2⟩
    obtain ⟨w1, w2, w3, w4, w5, w6, w7⟩ := (i1.2 f c hf hc3).1 hd
    have v1 := (i2.2.2 f c hf hc3).1 ((cnv f c hf).mp hd)
    exact ⟨(lvP_u w1 v1).1, w2, w3, w4, w7.trans (whV_c (e 12 (by omega)) (e 17 (by omega)) (e 25 (by omega)) (e 26 (by omega))).symm⟩
