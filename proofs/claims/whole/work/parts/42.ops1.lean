/-! ===== acts on LINES ===== -/
/-- the model's memory beside its array stays, but for what is scratch -/
def mS (g g' : xB) : Prop := ∀ r, r ≠ 71 → r ≠ 74 → r ≠ 75 → r ≠ 76 → r ≠ 78 → r ≠ 1506 → r ≠ 1507 → g' r = g r
theorem mS_up {g : xB} {i : Nat} {v : Int} : mS g (x_up g 71 i v) := fun r h _ _ _ _ _ _ => upR h
theorem mS_rf {g : xB} : mS g g := fun _ _ _ _ _ _ _ _ => rfl
theorem mS_tr {g g' g'' : xB} (h : mS g g') (h' : mS g' g'') : mS g g'' := fun r a b c d e f i => (h' r a b c d e f i).trans (h r a b c d e f i)
/-- what the model does behind an act with the answer r -/
def aft (Q : Int → xB → Prop) (g : xB) (r c a1 a2 a3 a4 a5 : Int) : Prop := (r < 0 → Q r g) ∧ (0 ≤ r → w_m_noted g r c a1 a2 a3 a4 a5 Q)
theorem noted_i {g : xB} {r c a1 a2 a3 a4 a5 : Int} {Q : Int → xB → Prop} (h : aft Q g r c a1 a2 a3 a4 a5) : w_m_noted g r c a1 a2 a3 a4 a5 Q := by
  rcases Int.lt_or_le r 0 with hr | hr
  · exact xb_t hr (h.1 hr)
  · exact h.2 hr
theorem note_i {b : xB} {f : Nat} {Q : Int → xB → Prop} (h1 : 1 ≤ f) (h2 : f ≤ 6) (h : Q (-10 - (f : Int)) (x_up b 10 f (xw (b 10 f + 1)))) : w_F_note b (f : Int) Q := by
  refine xb_f (by omega) (xb_f (by omega) (x_gd_of (by omega) (by omega) (x_gd_of (by omega) (by omega) ?_)))
  rw [xw_id (by omega) (by omega)]
  exact h
theorem finds_i {g : xB} {f : Nat} {Q : Int → xB → Prop} (h1 : 1 ≤ f) (h2 : f ≤ 6) (h : Q (-10 - (f : Int)) (x_up g 71 (3772 + f) (xw (g 71 (3772 + f) + 1)))) : w_m_finds g (f : Int) Q := by
  unfold w_m_finds
  have e1 : xw (3772 + (f : Int)) = ((3772 + f : Nat) : Int) := by rw [xw_id (by omega) (by omega)]; omega
  rw [e1, xw_id (z := -10 - (f : Int)) (by omega) (by omega)]
  exact x_gd_of (by omega) (by omega) (x_gd_of (by omega) (by omega) h)
theorem rB_le {n m : Nat} {b : xB} {s : Nat → Int} (hm : n ≤ m) (h : rB n b s) : rB m b s := by
  obtain ⟨hF, hL, hR, hP, hV, hQ, hY, hX, hT⟩ := h
  exact ⟨hF, hL, hR, hP, hV, hQ, hY, hX, rT_c hm hT rfl rfl rfl rfl rfl rfl rfl⟩
theorem rB_find {n f : Nat} {b g : xB} (h : rB n b (g 71)) (h1 : 1 ≤ f) (h2 : f ≤ 6) : rB n (x_up b 10 f (xw (b 10 f + 1))) (x_up g 71 (3772 + f) (xw (g 71 (3772 + f) + 1)) 71) := by
  obtain ⟨hF, hL, hR, hP, hV, hQ, hY, hX, hT⟩ := h
  refine ⟨?_, rL_c hL rfl rfl rfl rfl rfl rfl (fun i hi => up_i (by omega)), rR_c hR rfl rfl rfl rfl rfl rfl rfl rfl rfl (fun i hi => up_i (by omega)), rP_c hP rfl rfl rfl rfl rfl rfl rfl (fun i hi => up_i (by omega)), rV_c hV rfl rfl rfl rfl rfl (fun i _ hi => up_i (by omega)), rQ_c hQ rfl rfl rfl rfl rfl rfl rfl rfl rfl (fun i _ hi => up_i (by omega)), rY_c hY rfl rfl rfl rfl rfl rfl rfl rfl rfl rfl rfl rfl rfl rfl rfl (fun _ => Int.le_refl _) (Int.le_refl _) (Int.le_refl _) (fun i _ hi => up_i (by omega)), rX_c hX rfl rfl rfl rfl rfl rfl rfl (fun i hi => up_i (by omega)), rT_c (Nat.le_refl n) hT rfl rfl rfl (up_i (by omega)) (up_i (by omega)) (up_i (by omega)) (up_i (by omega))⟩
  intro j j1 j2
  by_cases e : j = f
  · subst e
    rw [up_eq, up_eq, hF j j1 j2]
  · rw [up_i e, up_i (by omega)]
    exact hF j j1 j2
/-- limit -/
theorem q_limit {n : Nat} {b g : xB} {l v : Int} {Q : Int → xB → Int → xB → Prop} (h : rB n b (g 71)) (hK : ∀ r b' g', rB n b' (g' 71) → mS g g' → aft (Q r b') g' r 19 l v 0 0 0) : w_L_setLimit b l v (fun r b' => w_m_limit g l v (Q r b')) := by
  have bad : w_m_isLine l (fun r1 => x_br (r1 = 0) (Q (-2) b (-2) g) (w_m_in v 0 1000000 (fun r2 => x_br (r2 = 0) (Q (-2) b (-2) g) (x_gd (xw (264 + l)) 3779 (w_m_noted (x_up g 71 ((xw (264 + l)).toNat) v) 1 19 l v 0 0 0 (fun r3 g4 => Q (-2) b r3 g4)))))) ∨ (∃ j : Nat, j < 4 ∧ l = (j : Int) ∧ 0 ≤ v ∧ v ≤ 1000000) := by
    by_cases hl : 0 ≤ l ∧ l < 4
    · by_cases hv : 0 ≤ v ∧ v ≤ 1000000
      · exact Or.inr ⟨l.toNat, by omega, by omega, hv.1, hv.2⟩
      · refine Or.inl (m_isLine_i (fun j hj e => xb_f (by decide) (m_in_i (fun a c => absurd ⟨a, c⟩ hv) (fun _ => xb_t rfl ((hK (-2) b g h mS_rf).1 (by decide))))) (fun a => absurd hl a))
    · exact Or.inl (m_isLine_i (fun j hj e => absurd ⟨by omega, by omega⟩ hl) (fun _ => xb_t rfl ((hK (-2) b g h mS_rf).1 (by decide))))
  rcases bad with bad | ⟨j, hj, rfl, v0, v1⟩
  · refine L_isLine_i (fun j hj e => xb_f (by decide) ?_) (fun a => xb_t rfl bad)
    refine xb_i (fun _ => bad) (fun hv0 => xb_i (fun _ => bad) (fun hv1 => ?_))
    exfalso
    sorry
  · sorry
