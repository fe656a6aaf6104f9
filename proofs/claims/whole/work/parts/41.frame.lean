/-! ===== what a part of the relation depends on ===== -/
section
variable {b b' : xB} {s s' : Nat → Int} {n : Nat}
theorem rF_c (h : rF b s) (e10 : b' 10 = b 10) (hs : ∀ i, 3773 ≤ i → i ≤ 3778 → s' i = s i) : rF b' s' := by
  intro f h1 h2
  rw [e10, hs _ (by omega) (by omega)]
  exact h f h1 h2
theorem rL1_c {l : Nat} (hl : l < 4) (h : rL1 b s l) (e11 : ∀ p : Nat, (p : Int) < b 12 l → b' 11 (l * 64 + p) = b 11 (l * 64 + p)) (e12 : b' 12 l = b 12 l) (e13 : b' 13 l = b 13 l) (e14 : b' 14 l = b 14 l) (e15 : b' 15 l = b 15 l) (e16 : b' 16 l = b 16 l) (h1 : s' (264 + l) = s (264 + l)) (h2 : s' (268 + l) = s (268 + l)) (h3 : s' (272 + l) = s (272 + l)) (h4 : s' l = s l) (h5 : s' (4 + l) = s (4 + l)) (h6 : ∀ p : Nat, p < 64 → s' (8 + (l * 64 + p)) = s (8 + (l * 64 + p))) : rL1 b' s' l := by
  unfold rL1 at h ⊢
  rw [e12, e13, e14, e15, e16, h1, h2, h3, h4, h5]
  refine ⟨h.1, h.2.1, h.2.2.1, h.2.2.2.1, h.2.2.2.2.1, h.2.2.2.2.2.1, ?_⟩
  rcases h.2.2.2.2.2.2 with ⟨c1, c2, c3, c4, c5, c6⟩ | h | h
  · exact Or.inl ⟨c1, c2, c3, c4, c5, fun p hp => by rw [h6 p (by omega), e11 p hp]; exact c6 p hp⟩
  · exact Or.inr (Or.inl h)
  · exact Or.inr (Or.inr h)
theorem rL_c (h : rL b s) (e11 : b' 11 = b 11) (e12 : b' 12 = b 12) (e13 : b' 13 = b 13) (e14 : b' 14 = b 14) (e15 : b' 15 = b 15) (e16 : b' 16 = b 16) (hs : ∀ i, i < 276 → s' i = s i) : rL b' s' :=
  fun l hl => rL1_c hl (h l hl) (fun _ _ => by rw [e11]) (by rw [e12]) (by rw [e13]) (by rw [e14]) (by rw [e15]) (by rw [e16]) (hs _ (by omega)) (hs _ (by omega)) (hs _ (by omega)) (hs _ (by omega)) (hs _ (by omega)) (fun p hp => hs _ (by omega))
theorem cGroups_c {m : Nat} (e17 : ∀ i, i < m → b' 17 i = b 17 i) : cGroups b' m = cGroups b m := by
  induction m with
  | zero => rfl
  | succ m ih =>
    show cGroups b' m + _ = cGroups b m + _
    rw [ih (fun i hi => e17 i (by omega)), e17 m (by omega)]
theorem rR1_c {f : Nat} (hf : f < 24) (h : rR1 b s f) (e17 : b' 17 f = b 17 f) (e18 : b' 18 f = b 18 f) (e19 : b' 19 f = b 19 f) (e20 : ∀ i, i < 6 → b' 20 (f * 6 + i) = b 20 (f * 6 + i)) (e21 : b' 21 f = b 21 f) (e22 : b' 22 f = b 22 f) (h1 : s' (278 + f) = s (278 + f)) (h2 : s' (302 + f) = s (302 + f)) (h3 : s' (422 + f) = s (422 + f)) (h4 : ∀ i, i < 6 → s' (446 + (f * 6 + i)) = s (446 + (f * 6 + i))) : rR1 b' s' f := by
  unfold rR1 at h ⊢
  rw [e17, e18, e19, e21, e22, h1, h2, h3]
  refine ⟨h.1, h.2.1, ?_⟩
  rcases h.2.2 with h | ⟨c1, c2, c3, c4, c5, c6, c7⟩
  · exact Or.inl h
  · exact Or.inr ⟨c1, c2, c3, c4, c5, c6, fun i hi => by rw [h4 i hi, e20 i hi]; exact c7 i hi⟩
theorem rR_c (h : rR b s) (e17 : b' 17 = b 17) (e18 : b' 18 = b 18) (e19 : b' 19 = b 19) (e20 : b' 20 = b 20) (e21 : b' 21 = b 21) (e22 : b' 22 = b 22) (e161 : b' 161 = b 161) (e162 : b' 162 = b 162) (e173 : b' 173 = b 173) (hs : ∀ i, (276 ≤ i ∧ i < 326) ∨ (422 ≤ i ∧ i < 590) → s' i = s i) : rR b' s' := by
  obtain ⟨h1, h2, h3, h4, h5, h6, h7, h8, h9⟩ := h
  unfold rR
  rw [e161, e162, e173, cGroups_c (fun _ _ => by rw [e17]), hs 276 (by omega), hs 277 (by omega)]
  refine ⟨h1, h2, h3, h4, h5, h6, h7, fun f hf => rR1_c (by omega) (h8 f hf) (by rw [e17]) (by rw [e18]) (by rw [e19]) (fun _ _ => by rw [e20]) (by rw [e21]) (by rw [e22]) (hs _ (by omega)) (hs _ (by omega)) (hs _ (by omega)) (fun i hi => hs _ (by omega)), fun f hf h24 i hi => ?_⟩
  rw [hs _ (by omega)]
  exact h9 f hf h24 i hi
theorem rP_c (h : rP b s) (e25 : b' 25 = b 25) (e26 : b' 26 = b 26) (e27 : b' 27 = b 27) (e28 : b' 28 = b 28) (e186 : b' 186 = b 186) (e161 : b' 161 = b 161) (e17 : b' 17 = b 17) (hs : ∀ i, (326 ≤ i ∧ i < 422) ∨ i = 3767 → s' i = s i) : rP b' s' := by
  obtain ⟨h1, h2, h3, h4, h5, h6, h7, h8⟩ := h
  unfold rP
  rw [e25, e26, e27, e28, e186, e161, e17, hs 3767 (by omega)]
  refine ⟨fun f hf => ?_, h2, h3, h4, h5, fun i hi => ?_, fun i j hi hj => ?_, h8⟩
  · rw [hs _ (by omega), hs _ (by omega), hs _ (by omega)]
    exact h1 f hf
  · obtain ⟨a, c, d⟩ := h6 i hi
    rw [hs _ (by omega)]
    exact ⟨a, c, d⟩
  · obtain ⟨a, c, -⟩ := h6 i (by omega)
    obtain ⟨a2, c2, -⟩ := h6 j hj
    rw [hs _ (by omega), hs _ (by omega)]
    exact h7 i j hi hj
theorem rV1_c {c : Nat} (hc : c < 4) (h : rV1 b s c) (e29 : b' 29 c = b 29 c) (e30 : ∀ k, k < 8 → b' 30 (c * 8 + k) = b 30 (c * 8 + k)) (e31 : ∀ k, k < 8 → b' 31 (c * 8 + k) = b 31 (c * 8 + k)) (e32 : ∀ k, k < 8 → b' 32 (c * 8 + k) = b 32 (c * 8 + k)) (e33 : ∀ k, k < 8 → b' 33 (c * 8 + k) = b 33 (c * 8 + k)) (h0 : s' (806 + c) = s (806 + c)) (h1 : ∀ k, k < 8 → s' (810 + (c * 8 + k)) = s (810 + (c * 8 + k))) (h2 : ∀ k, k < 8 → s' (842 + (c * 8 + k)) = s (842 + (c * 8 + k))) : rV1 b' s' c := by
  obtain ⟨c1, c2, c3, c4, c5⟩ := h
  unfold rV1
  rw [e29, h0]
  refine ⟨c1, c2, c3, fun k hk => ?_, fun k j hk hj => ?_⟩
  · rw [e30 k (by omega), e31 k (by omega), e32 k (by omega), e33 k (by omega), h1 k (by omega), h2 k (by omega)]
    exact c4 k hk
  · rw [e30 k (by omega), e30 j (by omega)]
    exact c5 k j hk hj
theorem rV_c (h : rV b s) (e29 : b' 29 = b 29) (e30 : b' 30 = b 30) (e31 : b' 31 = b 31) (e32 : b' 32 = b 32) (e33 : b' 33 = b 33) (hs : ∀ i, 806 ≤ i → i < 874 → s' i = s i) : rV b' s' :=
  fun c hc => rV1_c hc (h c hc) (by rw [e29]) (fun _ _ => by rw [e30]) (fun _ _ => by rw [e31]) (fun _ _ => by rw [e32]) (fun _ _ => by rw [e33]) (hs _ (by omega) (by omega)) (fun k hk => hs _ (by omega) (by omega)) (fun k hk => hs _ (by omega) (by omega))
theorem rQ_c (h : rQ b s) (e34 : b' 34 = b 34) (e35 : b' 35 = b 35) (e36 : b' 36 = b 36) (e37 : b' 37 = b 37) (e38 : b' 38 = b 38) (e39 : b' 39 = b 39) (e40 : b' 40 = b 40) (e41 : b' 41 = b 41) (e161 : b 161 0 ≤ b' 161 0) (hs : ∀ i, 874 ≤ i → i < 1726 → s' i = s i) : rQ b' s' := by
  obtain ⟨h1, h2⟩ := h
  unfold rQ
  rw [e34, e35, e36, e37, e38, e39, e40, e41]
  refine ⟨fun q hq => ?_, fun l hl => ?_⟩
  · obtain ⟨a1, a2, a3, a4⟩ := h1 q hq
    rw [hs _ (by omega) (by omega)]
    refine ⟨a1, a2, a3, fun k hk => ?_⟩
    rw [hs _ (by omega) (by omega), hs _ (by omega) (by omega), hs _ (by omega) (by omega), hs _ (by omega) (by omega)]
    obtain ⟨q1, q2, q3, q4⟩ := a4 k hk
    exact ⟨q1, q2, by omega, q4⟩
  · obtain ⟨a1, a2, a3, a4⟩ := h2 l hl
    rw [hs _ (by omega) (by omega)]
    refine ⟨a1, a2, a3, fun k hk => ?_⟩
    rw [hs _ (by omega) (by omega), hs _ (by omega) (by omega)]
    exact a4 k hk
theorem rC1_c {k : Nat} {is is' : Prop} {m m' : Int} (h : rC1 b s is m k) (hi : is → is' ∧ m = m') (e47 : b' 47 k = b 47 k) (e48 : b' 48 k = b 48 k) (e49 : b' 49 k = b 49 k) (e50 : b' 50 k = b 50 k) (e51 : b' 51 k = b 51 k) (e52 : b' 52 k = b 52 k) (h110 : b 110 0 ≤ b' 110 0) (h1 : s' (1750 + k) = s (1750 + k)) (h2 : s' (3478 + k) = s (3478 + k)) (h3 : s' (2038 + k) = s (2038 + k)) (h4 : s' (2902 + k) = s (2902 + k)) (h5 : s' (2326 + k) = s (2326 + k)) (h6 : s' (2614 + k) = s (2614 + k)) (h7 : s' (3190 + k) = s (3190 + k)) : rC1 b' s' is' m' k := by
  unfold rC1 at h ⊢
  rw [e47, e48, e49, e50, e51, e52, h1, h2, h3, h4, h5, h6, h7]
  rcases h with ⟨h0, h1, h2, h3⟩ | h
  · obtain ⟨a, rfl⟩ := hi h0
    exact Or.inl ⟨a, h1, by omega, h3⟩
  · exact Or.inr h
theorem cHas_c {p m : Nat} (e48 : ∀ i, i < m → b' 48 (p * 72 + i) = b 48 (p * 72 + i)) : cHas b' p m = cHas b p m := by
  induction m with
  | zero => rfl
  | succ m ih =>
    show cHas b' p m + _ = cHas b p m + _
    rw [ih (fun i hi => e48 i (by omega)), e48 m (by omega)]
theorem cFad_c {p m : Nat} (e51 : ∀ i, i < m → b' 51 (p * 72 + i) = b 51 (p * 72 + i)) : cFad b' p m = cFad b p m := by
  induction m with
  | zero => rfl
  | succ m ih =>
    show cFad b' p m + _ = cFad b p m + _
    rw [ih (fun i hi => e51 i (by omega)), e51 m (by omega)]
theorem rC_c {p : Nat} (hp : p < 4) (h : rC b s p) (e47 : ∀ i, i < 72 → b' 47 (p * 72 + i) = b 47 (p * 72 + i)) (e48 : ∀ i, i < 72 → b' 48 (p * 72 + i) = b 48 (p * 72 + i)) (e49 : ∀ i, i < 72 → b' 49 (p * 72 + i) = b 49 (p * 72 + i)) (e50 : ∀ i, i < 72 → b' 50 (p * 72 + i) = b 50 (p * 72 + i)) (e51 : ∀ i, i < 72 → b' 51 (p * 72 + i) = b 51 (p * 72 + i)) (e52 : ∀ i, i < 72 → b' 52 (p * 72 + i) = b 52 (p * 72 + i)) (h161 : b 161 0 ≤ b' 161 0) (h17 : ∀ f : Nat, (f : Int) < b 161 0 → b' 17 f = b 17 f) (h110 : b 110 0 ≤ b' 110 0) (hs : ∀ i, i < 72 → s' (1750 + (p * 72 + i)) = s (1750 + (p * 72 + i)) ∧ s' (3478 + (p * 72 + i)) = s (3478 + (p * 72 + i)) ∧ s' (2038 + (p * 72 + i)) = s (2038 + (p * 72 + i)) ∧ s' (2902 + (p * 72 + i)) = s (2902 + (p * 72 + i)) ∧ s' (2326 + (p * 72 + i)) = s (2326 + (p * 72 + i)) ∧ s' (2614 + (p * 72 + i)) = s (2614 + (p * 72 + i)) ∧ s' (3190 + (p * 72 + i)) = s (3190 + (p * 72 + i))) : rC b' s' p := by
  intro f hf c hc
  obtain ⟨q1, q2, q3, q4, q5, q6, q7⟩ := hs (f * 3 + c) (by omega)
  exact rC1_c (h f hf c hc) (fun i => ⟨⟨by omega, by rw [h17 f i.1]; exact i.2⟩, by rw [h17 f i.1]⟩) (e47 _ (by omega)) (e48 _ (by omega)) (e49 _ (by omega)) (e50 _ (by omega)) (e51 _ (by omega)) (e52 _ (by omega)) h110 q1 q2 q3 q4 q5 q6 q7
theorem rY1_c {p : Nat} (hp : p < 4) (h : rY1 b s p) (e47 : ∀ i, i < 72 → b' 47 (p * 72 + i) = b 47 (p * 72 + i)) (e48 : ∀ i, i < 72 → b' 48 (p * 72 + i) = b 48 (p * 72 + i)) (e49 : ∀ i, i < 72 → b' 49 (p * 72 + i) = b 49 (p * 72 + i)) (e50 : ∀ i, i < 72 → b' 50 (p * 72 + i) = b 50 (p * 72 + i)) (e51 : ∀ i, i < 72 → b' 51 (p * 72 + i) = b 51 (p * 72 + i)) (e52 : ∀ i, i < 72 → b' 52 (p * 72 + i) = b 52 (p * 72 + i)) (e280 : b' 280 p = b 280 p) (e281 : b' 281 p = b 281 p) (e282 : b' 282 p = b 282 p) (e285 : b' 285 p = b 285 p) (e286 : b' 286 p = b 286 p) (e287 : b' 287 p = b 287 p) (e288 : b' 288 p = b 288 p) (h39 : ∀ i, i < 4 → b 39 i ≤ b' 39 i) (h108 : b 108 0 ≤ b' 108 0) (h161 : b 161 0 ≤ b' 161 0) (h17 : ∀ f : Nat, (f : Int) < b 161 0 → b' 17 f = b 17 f) (h110 : b 110 0 ≤ b' 110 0) (g1 : s' (1726 + p) = s (1726 + p)) (g2 : s' (1730 + p) = s (1730 + p)) (g3 : s' (1734 + p) = s (1734 + p)) (g4 : s' (1738 + p) = s (1738 + p)) (hs : ∀ i, i < 72 → s' (1750 + (p * 72 + i)) = s (1750 + (p * 72 + i)) ∧ s' (3478 + (p * 72 + i)) = s (3478 + (p * 72 + i)) ∧ s' (2038 + (p * 72 + i)) = s (2038 + (p * 72 + i)) ∧ s' (2902 + (p * 72 + i)) = s (2902 + (p * 72 + i)) ∧ s' (2326 + (p * 72 + i)) = s (2326 + (p * 72 + i)) ∧ s' (2614 + (p * 72 + i)) = s (2614 + (p * 72 + i)) ∧ s' (3190 + (p * 72 + i)) = s (3190 + (p * 72 + i))) : rY1 b' s' p := by
  obtain ⟨a1, a2, a3, a4, a5, a6, a7, a8, a9, a12, a13, a14, a15, a16, a17⟩ := h
  unfold rY1
  rw [e280, e281, e282, e285, e286, e287, e288, cHas_c e48, cFad_c e51, g1, g2, g3, g4]
  refine ⟨a1, a2, a3, a4, a5, a6, a7, a8, a9, a12, a13, a14, by omega, ?_, rC_c hp a17 e47 e48 e49 e50 e51 e52 h161 h17 h110 hs⟩
  rcases a16 with ⟨c1, c2, c3, c4, c5⟩ | c
  · have := h39 (b 280 p).toNat (by omega)
    exact Or.inl ⟨c1, c2, c3, c4, by omega⟩
  · exact Or.inr c
theorem rY_c (h : rY b s) (e47 : b' 47 = b 47) (e48 : b' 48 = b 48) (e49 : b' 49 = b 49) (e50 : b' 50 = b 50) (e51 : b' 51 = b 51) (e52 : b' 52 = b 52) (e280 : b' 280 = b 280) (e281 : b' 281 = b 281) (e282 : b' 282 = b 282) (e285 : b' 285 = b 285) (e286 : b' 286 = b 286) (e287 : b' 287 = b 287) (e288 : b' 288 = b 288) (h39 : ∀ i, i < 4 → b 39 i ≤ b' 39 i) (h108 : b 108 0 ≤ b' 108 0) (h161 : b 161 0 ≤ b' 161 0) (h17 : ∀ f : Nat, (f : Int) < b 161 0 → b' 17 f = b 17 f) (h110 : b 110 0 ≤ b' 110 0) (hs : ∀ i, 1726 ≤ i → i < 1742 ∨ 1750 ≤ i → i < 3766 → s' i = s i) : rY b' s' :=
  fun p hp => rY1_c hp (h p hp) (fun _ _ => by rw [e47]) (fun _ _ => by rw [e48]) (fun _ _ => by rw [e49]) (fun _ _ => by rw [e50]) (fun _ _ => by rw [e51]) (fun _ _ => by rw [e52]) (by rw [e280]) (by rw [e281]) (by rw [e282]) (by rw [e285]) (by rw [e286]) (by rw [e287]) (by rw [e288]) h39 h108 h161 h17 h110 (hs _ (by omega) (by omega) (by omega)) (hs _ (by omega) (by omega) (by omega)) (hs _ (by omega) (by omega) (by omega)) (hs _ (by omega) (by omega) (by omega)) (fun i hi => ⟨hs _ (by omega) (by omega) (by omega), hs _ (by omega) (by omega) (by omega), hs _ (by omega) (by omega) (by omega), hs _ (by omega) (by omega) (by omega), hs _ (by omega) (by omega) (by omega), hs _ (by omega) (by omega) (by omega), hs _ (by omega) (by omega) (by omega)⟩)
theorem rE_c (h : rE b s) (e283 : b' 283 = b 283) (e284 : b' 284 = b 284) (hs : ∀ i, 1742 ≤ i → i < 1750 → s' i = s i) : rE b' s' := by
  intro p hp
  rw [e283, e284, hs _ (by omega) (by omega), hs _ (by omega) (by omega)]
  exact h p hp
theorem rX_c (h : rX b s) (e42 : b' 42 = b 42) (e43 : b' 43 = b 43) (e44 : b' 44 = b 44) (e271 : b' 271 = b 271) (e272 : b' 272 = b 272) (h161 : b 161 0 ≤ b' 161 0) (h17 : ∀ f : Nat, (f : Int) < b 161 0 → b' 17 f = b 17 f) (hs : ∀ i, (590 ≤ i ∧ i < 806) ∨ i = 3768 ∨ i = 3769 → s' i = s i) : rX b' s' := by
  obtain ⟨h1, h2⟩ := h
  unfold rX
  rw [e42, e43, e44, e271, e272, hs 3768 (by omega), hs 3769 (by omega)]
  refine ⟨fun f hf c hc => ?_, h2⟩
  rw [hs _ (by omega), hs _ (by omega), hs _ (by omega)]
  obtain ⟨q1, q2, q3⟩ := h1 f hf c hc
  refine ⟨q1, ?_, q3⟩
  rcases q2 with q | ⟨q4, q5, q6, q7, q8⟩
  · exact Or.inl q
  · rw [h17 f q6]
    exact Or.inr ⟨q4, q5, by omega, q7, q8⟩
theorem rT_c (h : rT b s) (e108 : b' 108 = b 108) (e109 : b' 109 = b 109) (h3 : s' 3770 = s 3770) (h4 : s' 3771 = s 3771) : rT b' s' := by
  unfold rT at h ⊢
  rw [e108, e109, h3, h4]
  exact h
theorem rW_c {m k m' k' : Int} (h : rW m k b s) (hm : m ≤ m') (hk : k ≤ k') (e110 : b' 110 = b 110) (h1 : s' 3766 = s 3766) (h2 : s' 3767 = s 3767) : rW m' k' b' s' := by
  unfold rW at h ⊢
  rw [e110, h1, h2]
  obtain ⟨a5, a6, a7, a8⟩ := h
  exact ⟨a5, a6, by omega, by omega⟩
end
