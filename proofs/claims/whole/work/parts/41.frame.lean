/-! ===== what a part of the relation depends on ===== -/
theorem upR {b : xB} {r i r' : Nat} {v : Int} (h : r' ≠ r) : x_up b r i v r' = b r' := by
  funext j
  exact up_r h
theorem filR {b : xB} {o s n r' : Nat} {v : Int} (h : r' ≠ o) : x_fil b o s n v r' = b r' := by
  funext j
  exact if_neg (fun e => h e.1)
section
variable {b b' : xB} {s s' : Nat → Int} {n : Nat}
theorem rF_c (h : rF b s) (e10 : b' 10 = b 10) (hs : ∀ i, 3773 ≤ i → i ≤ 3778 → s' i = s i) : rF b' s' := by
  intro f h1 h2
  rw [e10, hs _ (by omega) (by omega)]
  exact h f h1 h2
theorem rL1_c {l : Nat} (hl : l < 4) (h : rL1 b s l) (e11 : b' 11 = b 11) (e12 : b' 12 = b 12) (e13 : b' 13 = b 13) (e14 : b' 14 = b 14) (e15 : b' 15 = b 15) (e16 : b' 16 = b 16) (hs : ∀ i, i < 276 → s' i = s i) : rL1 b' s' l := by
  unfold rL1 at h ⊢
  rw [e11, e12, e13, e14, e15, e16, hs (264 + l) (by omega), hs (268 + l) (by omega), hs (272 + l) (by omega), hs l (by omega), hs (4 + l) (by omega)]
  refine ⟨h.1, h.2.1, h.2.2.1, ?_⟩
  rcases h.2.2.2 with ⟨h1, h2, h3, h4, h5, h6⟩ | h | h
  · exact Or.inl ⟨h1, h2, h3, h4, h5, fun p hp => by rw [hs _ (by omega)]; exact h6 p hp⟩
  · exact Or.inr (Or.inl h)
  · exact Or.inr (Or.inr h)
theorem rL_c (h : rL b s) (e11 : b' 11 = b 11) (e12 : b' 12 = b 12) (e13 : b' 13 = b 13) (e14 : b' 14 = b 14) (e15 : b' 15 = b 15) (e16 : b' 16 = b 16) (hs : ∀ i, i < 276 → s' i = s i) : rL b' s' :=
  fun l hl => rL1_c hl (h l hl) e11 e12 e13 e14 e15 e16 hs
theorem cGroups_c (e17 : b' 17 = b 17) : ∀ m, cGroups b' m = cGroups b m
  | 0 => rfl
  | m + 1 => by
    show cGroups b' m + _ = cGroups b m + _
    rw [cGroups_c e17 m, e17]
theorem rR1_c {f : Nat} (hf : f < 24) (h : rR1 b s f) (e17 : b' 17 = b 17) (e18 : b' 18 = b 18) (e19 : b' 19 = b 19) (e20 : b' 20 = b 20) (e21 : b' 21 = b 21) (e22 : b' 22 = b 22) (hs : ∀ i, (276 ≤ i ∧ i < 326) ∨ (422 ≤ i ∧ i < 590) → s' i = s i) : rR1 b' s' f := by
  unfold rR1 at h ⊢
  rw [e17, e18, e19, e20, e21, e22, hs (278 + f) (by omega), hs (302 + f) (by omega), hs (422 + f) (by omega)]
  refine ⟨h.1, h.2.1, ?_⟩
  rcases h.2.2 with h | ⟨h1, h2, h3, h4, h5, h6, h7⟩
  · exact Or.inl h
  · exact Or.inr ⟨h1, h2, h3, h4, h5, h6, fun i hi => by rw [hs _ (by omega)]; exact h7 i hi⟩
theorem rR_c (h : rR b s) (e17 : b' 17 = b 17) (e18 : b' 18 = b 18) (e19 : b' 19 = b 19) (e20 : b' 20 = b 20) (e21 : b' 21 = b 21) (e22 : b' 22 = b 22) (e161 : b' 161 = b 161) (e162 : b' 162 = b 162) (e173 : b' 173 = b 173) (hs : ∀ i, (276 ≤ i ∧ i < 326) ∨ (422 ≤ i ∧ i < 590) → s' i = s i) : rR b' s' := by
  obtain ⟨h1, h2, h3, h4, h5, h6, h7, h8, h9⟩ := h
  unfold rR
  rw [e161, e162, e173, cGroups_c e17, hs 276 (by omega), hs 277 (by omega)]
  refine ⟨h1, h2, h3, h4, h5, h6, h7, fun f hf => rR1_c (by omega) (h8 f hf) e17 e18 e19 e20 e21 e22 hs, fun f hf h24 i hi => ?_⟩
  rw [hs _ (by omega)]
  exact h9 f hf h24 i hi
theorem rP_c (h : rP b s) (e25 : b' 25 = b 25) (e26 : b' 26 = b 26) (e27 : b' 27 = b 27) (e28 : b' 28 = b 28) (e186 : b' 186 = b 186) (e161 : b' 161 = b 161) (e17 : b' 17 = b 17) (hs : ∀ i, (326 ≤ i ∧ i < 422) ∨ i = 3767 → s' i = s i) : rP b' s' := by
  obtain ⟨h1, h2, h3, h4, h5, h6, h7, h8⟩ := h
  unfold rP
  rw [e25, e26, e27, e28, e186, e161, e17, hs 3767 (by omega)]
  refine ⟨fun f hf => ?_, h2, h3, h4, h5, fun i hi => ?_, fun i j hi hj => ?_, h8⟩
  · rw [hs _ (by omega), hs _ (by omega), hs _ (by omega)]
    exact h1 f hf
  · obtain ⟨a, c, d⟩ := h6 i hi
    rw [hs _ (by omega)]
    exact ⟨a, c, d⟩
  · obtain ⟨a, c, -⟩ := h6 i (by omega)
    obtain ⟨a2, c2, -⟩ := h6 j hj
    rw [hs _ (by omega), hs _ (by omega)]
    exact h7 i j hi hj
theorem rV_c (h : rV b s) (e29 : b' 29 = b 29) (e30 : b' 30 = b 30) (e31 : b' 31 = b 31) (e32 : b' 32 = b 32) (e33 : b' 33 = b 33) (hs : ∀ i, 806 ≤ i → i < 874 → s' i = s i) : rV b' s' := by
  intro c hc
  obtain ⟨h1, h2, h3, h4, h5⟩ := h c hc
  unfold rV1
  rw [e29, e30, e31, e32, e33, hs (806 + c) (by omega) (by omega)]
  refine ⟨h1, h2, h3, fun k hk => ?_, h5⟩
  rw [hs _ (by omega) (by omega), hs _ (by omega) (by omega)]
  exact h4 k hk
theorem rQ_c (h : rQ b s) (e34 : b' 34 = b 34) (e35 : b' 35 = b 35) (e36 : b' 36 = b 36) (e37 : b' 37 = b 37) (e38 : b' 38 = b 38) (e39 : b' 39 = b 39) (e40 : b' 40 = b 40) (e41 : b' 41 = b 41) (e161 : b' 161 = b 161) (hs : ∀ i, 874 ≤ i → i < 1726 → s' i = s i) : rQ b' s' := by
  obtain ⟨h1, h2⟩ := h
  unfold rQ
  rw [e34, e35, e36, e37, e38, e39, e40, e41, e161]
  refine ⟨fun q hq => ?_, fun l hl => ?_⟩
  · obtain ⟨a1, a2, a3, a4⟩ := h1 q hq
    rw [hs _ (by omega) (by omega)]
    refine ⟨a1, a2, a3, fun k hk => ?_⟩
    rw [hs _ (by omega) (by omega), hs _ (by omega) (by omega), hs _ (by omega) (by omega), hs _ (by omega) (by omega)]
    exact a4 k hk
  · obtain ⟨a1, a2, a3, a4⟩ := h2 l hl
    rw [hs _ (by omega) (by omega)]
    refine ⟨a1, a2, a3, fun k hk => ?_⟩
    rw [hs _ (by omega) (by omega), hs _ (by omega) (by omega)]
    exact a4 k hk
theorem rC1_c {k : Nat} (hk : k < 288) (h : rC1 b s k) (e47 : b' 47 = b 47) (e48 : b' 48 = b 48) (e49 : b' 49 = b 49) (e50 : b' 50 = b 50) (e51 : b' 51 = b 51) (e52 : b' 52 = b 52) (h110 : b 110 0 ≤ b' 110 0) (hs : ∀ i, 1726 ≤ i → i < 3766 → s' i = s i) : rC1 b' s' k := by
  unfold rC1 at h ⊢
  rw [e47, e48, e49, e50, e51, e52]
  rw [hs (1750 + k) (by omega) (by omega), hs (3478 + k) (by omega) (by omega), hs (2038 + k) (by omega) (by omega), hs (2902 + k) (by omega) (by omega), hs (2326 + k) (by omega) (by omega), hs (2614 + k) (by omega) (by omega), hs (3190 + k) (by omega) (by omega)]
  rcases h with ⟨h1, h2, h3⟩ | h
  · exact Or.inl ⟨h1, by omega, h3⟩
  · exact Or.inr h
theorem cHas_c {p : Nat} (e48 : b' 48 = b 48) : ∀ m, cHas b' p m = cHas b p m
  | 0 => rfl
  | m + 1 => by
    show cHas b' p m + _ = cHas b p m + _
    rw [cHas_c e48 m, e48]
theorem cFad_c {p : Nat} (e51 : b' 51 = b 51) : ∀ m, cFad b' p m = cFad b p m
  | 0 => rfl
  | m + 1 => by
    show cFad b' p m + _ = cFad b p m + _
    rw [cFad_c e51 m, e51]
theorem rY_c (h : rY b s) (e47 : b' 47 = b 47) (e48 : b' 48 = b 48) (e49 : b' 49 = b 49) (e50 : b' 50 = b 50) (e51 : b' 51 = b 51) (e52 : b' 52 = b 52) (e280 : b' 280 = b 280) (e281 : b' 281 = b 281) (e282 : b' 282 = b 282) (e283 : b' 283 = b 283) (e284 : b' 284 = b 284) (e285 : b' 285 = b 285) (e286 : b' 286 = b 286) (e287 : b' 287 = b 287) (e288 : b' 288 = b 288) (h39 : ∀ i, b 39 i ≤ b' 39 i) (h108 : b 108 0 ≤ b' 108 0) (h110 : b 110 0 ≤ b' 110 0) (hs : ∀ i, 1726 ≤ i → i < 3766 → s' i = s i) : rY b' s' := by
  intro p hp
  obtain ⟨a1, a2, a3, a4, a5, a6, a7, a8, a9, a10, a11, a12, a13, a14, a15, a16, a17⟩ := h p hp
  unfold rY1
  rw [e280, e281, e282, e283, e284, e285, e286, e287, e288, cHas_c e48, cFad_c e51]
  rw [hs (1726 + p) (by omega) (by omega), hs (1730 + p) (by omega) (by omega), hs (1734 + p) (by omega) (by omega), hs (1742 + p) (by omega) (by omega), hs (1746 + p) (by omega) (by omega), hs (1738 + p) (by omega) (by omega)]
  refine ⟨a1, a2, a3, a4, a5, a6, a7, a8, a9, a10, a11, a12, a13, a14, by omega, ?_, fun c hc => rC1_c (by omega) (a17 c hc) e47 e48 e49 e50 e51 e52 h110 hs⟩
  rcases a16 with ⟨c1, c2, c3, c4, c5⟩ | c
  · have := h39 (b 280 p).toNat
    exact Or.inl ⟨c1, c2, c3, c4, by omega⟩
  · exact Or.inr c
theorem rX_c (h : rX b s) (e42 : b' 42 = b 42) (e43 : b' 43 = b 43) (e44 : b' 44 = b 44) (e271 : b' 271 = b 271) (e272 : b' 272 = b 272) (e161 : b' 161 = b 161) (e17 : b' 17 = b 17) (hs : ∀ i, (590 ≤ i ∧ i < 806) ∨ i = 3768 ∨ i = 3769 → s' i = s i) : rX b' s' := by
  obtain ⟨h1, h2⟩ := h
  unfold rX
  rw [e42, e43, e44, e271, e272, e161, e17, hs 3768 (by omega), hs 3769 (by omega)]
  refine ⟨fun f hf c hc => ?_, h2⟩
  rw [hs _ (by omega), hs _ (by omega), hs _ (by omega)]
  exact h1 f hf c hc
theorem rT_c {m : Nat} (hm : n ≤ m) (h : rT n b s) (e108 : b' 108 = b 108) (e109 : b' 109 = b 109) (e110 : b' 110 = b 110) (h1 : s' 3766 = s 3766) (h2 : s' 3767 = s 3767) (h3 : s' 3770 = s 3770) (h4 : s' 3771 = s 3771) : rT m b' s' := by
  unfold rT at h ⊢
  rw [e108, e109, e110, h1, h2, h3, h4]
  obtain ⟨a1, a2, a3, a4, a5, a6, a7, a8⟩ := h
  exact ⟨a1, a2, a3, a4, a5, a6, by omega, by omega⟩
end
