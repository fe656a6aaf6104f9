/-! ===== perform: the acts by their numbers ===== -/
def aP (n : Nat) (b g : xB) (w m : (Int → xB → Prop) → Prop) (c a1 a2 a3 a4 a5 : Int) : Prop :=
  ∃ r b' g', (∀ Q, Q r b' → w Q) ∧ (∀ Q, w_m_noted g' r c a1 a2 a3 a4 a5 Q → m Q) ∧ pO n b g b' g' ∧ b' 108 0 = b 108 0 + (if c = 21 ∧ 0 ≤ r then a1 else 0) ∧ (c = 21 → 0 ≤ r → 1 ≤ a1 ∧ a1 ≤ 5) ∧ (c = 21 → 1 ≤ a1 → a1 ≤ 5 → b 108 0 + a1 ≤ 2000 → 0 ≤ r)
theorem aP_of {n : Nat} {b g : xB} {w w0 m : (Int → xB → Prop) → Prop} {c a1 a2 a3 a4 a5 : Int} (hc : c ≠ 21) (e : ∀ Q, w0 Q → w Q) (h : aC n b g w0 m c a1 a2 a3 a4 a5) : aP n b g w m c a1 a2 a3 a4 a5 := by
  obtain ⟨r, b', g', h1, h2, h3, h4⟩ := h
  exact ⟨r, b', g', fun Q hQ => e Q (h1 Q hQ), h2, h3, by rw [h4, if_neg (fun z => hc z.1)]; omega, fun z => absurd z hc, fun z => absurd z hc⟩
section
variable {n : Nat} {b g : xB} {a1 a2 a3 a4 a5 : Int}
theorem p_line (h : rB n b (g 71)) : aP n b g (w_B_perform b 0 a1 a2 a3 a4 a5) (w_m_line g a1 a2) 0 a1 a2 0 0 0 := by
  refine aP_of (by decide) (fun Q hQ => ?_) (a_line h)
  unfold w_B_perform
  rw [e_t rfl]
  exact hQ
theorem p_pull (h : rB n b (g 71)) : aP n b g (w_B_perform b 1 a1 a2 a3 a4 a5) (w_m_pull g a1) 1 a1 0 0 0 0 := by
  refine aP_of (by decide) (fun Q hQ => ?_) (a_pull h)
  unfold w_B_perform
  rw [e_f (by decide), e_t rfl]
  exact hQ
theorem p_plug (h : rB n b (g 71)) : aP n b g (w_B_perform b 2 a1 a2 a3 a4 a5) (w_m_plug g a1) 2 a1 0 0 0 0 := by
  refine aP_of (by decide) (fun Q hQ => ?_) (a_plug h)
  unfold w_B_perform
  rw [e_f (by decide), e_f (by decide), e_t rfl]
  exact hQ
theorem p_fixture (h : rB n b (g 71)) : aP n b g (w_B_perform b 3 a1 a2 a3 a4 a5) (w_m_fixture g a1 a2) 3 a1 a2 0 0 0 := by
  refine aP_of (by decide) (fun Q hQ => ?_) (a_fixture h)
  unfold w_B_perform
  rw [e_f (by decide), e_f (by decide), e_f (by decide), e_t rfl]
  exact hQ
theorem p_group (h : rB n b (g 71)) : aP n b g (w_B_perform b 4 a1 a2 a3 a4 a5) (w_m_group g a1 a2) 4 a1 a2 0 0 0 := by
  refine aP_of (by decide) (fun Q hQ => ?_) (a_group h)
  unfold w_B_perform
  rw [e_f (by decide), e_f (by decide), e_f (by decide), e_f (by decide), e_t rfl]
  exact hQ
theorem p_member (h : rB n b (g 71)) : aP n b g (w_B_perform b 5 a1 a2 a3 a4 a5) (w_m_member g a1 a2 a3) 5 a1 a2 a3 0 0 := by
  refine aP_of (by decide) (fun Q hQ => ?_) (a_member h)
  unfold w_B_perform
  rw [e_f (by decide), e_f (by decide), e_f (by decide), e_f (by decide), e_f (by decide), e_t rfl]
  exact hQ
theorem p_patch (hn : n ≤ 100000) (h : rB n b (g 71)) : aP n b g (w_B_perform b 6 a1 a2 a3 a4 a5) (w_m_patch g a1 a2 a3) 6 a1 a2 a3 0 0 := by
  refine aP_of (by decide) (fun Q hQ => ?_) (a_patch hn h)
  unfold w_B_perform
  rw [e_f (by decide), e_f (by decide), e_f (by decide), e_f (by decide), e_f (by decide), e_f (by decide), e_t rfl]
  exact hQ
theorem p_unpatch (h : rB n b (g 71)) : aP n b g (w_B_perform b 7 a1 a2 a3 a4 a5) (w_m_unpatch g a1) 7 a1 0 0 0 0 := by
  refine aP_of (by decide) (fun Q hQ => ?_) (a_unpatch h)
  unfold w_B_perform
  rw [e_f (by decide), e_f (by decide), e_f (by decide), e_f (by decide), e_f (by decide), e_f (by decide), e_f (by decide), e_t rfl]
  exact hQ
theorem p_firm (hv : a2 = 0 ∨ a2 = 1) (h : rB n b (g 71)) : aP n b g (w_B_perform b 8 a1 a2 a3 a4 a5) (w_m_firm g a1 a2) 8 a1 a2 0 0 0 := by
  refine aP_of (by decide) (fun Q hQ => ?_) (a_firm hv h)
  unfold w_B_perform
  rw [e_f (by decide), e_f (by decide), e_f (by decide), e_f (by decide), e_f (by decide), e_f (by decide), e_f (by decide), e_f (by decide), e_t rfl]
  rcases hv with e | e
  · rw [e_t e]
    rw [e] at hQ
    exact hQ
  · rw [e_f (by omega)]
    rw [e] at hQ
    exact hQ
theorem p_point (hy : x_in a3) (h : rB n b (g 71)) : aP n b g (w_B_perform b 9 a1 a2 a3 a4 a5) (w_m_point g a1 a2 a3) 9 a1 a2 a3 0 0 := by
  refine aP_of (by decide) (fun Q hQ => ?_) (a_point hy h)
  unfold w_B_perform
  rw [e_f (by decide), e_f (by decide), e_f (by decide), e_f (by decide), e_f (by decide), e_f (by decide), e_f (by decide), e_f (by decide), e_f (by decide), e_t rfl]
  exact hQ
theorem p_bend (h : rB n b (g 71)) : aP n b g (w_B_perform b 10 a1 a2 a3 a4 a5) (w_m_bend g a1 a2 a3) 10 a1 a2 a3 0 0 := by
  refine aP_of (by decide) (fun Q hQ => ?_) (a_bend h)
  unfold w_B_perform
  rw [e_f (by decide), e_f (by decide), e_f (by decide), e_f (by decide), e_f (by decide), e_f (by decide), e_f (by decide), e_f (by decide), e_f (by decide), e_f (by decide), e_t rfl]
  exact hQ
theorem p_entry (h : rB n b (g 71)) : aP n b g (w_B_perform b 11 a1 a2 a3 a4 a5) (w_m_entry g a1 a2 a3 a4 a5) 11 a1 a2 a3 a4 a5 := by
  refine aP_of (by decide) (fun Q hQ => ?_) (a_entry h)
  unfold w_B_perform
  rw [e_f (by decide), e_f (by decide), e_f (by decide), e_f (by decide), e_f (by decide), e_f (by decide), e_f (by decide), e_f (by decide), e_f (by decide), e_f (by decide), e_f (by decide), e_t rfl]
  exact hQ
theorem p_list (h : rB n b (g 71)) : aP n b g (w_B_perform b 12 a1 a2 a3 a4 a5) (w_m_list g a1 a2 a3) 12 a1 a2 a3 0 0 := by
  refine aP_of (by decide) (fun Q hQ => ?_) (a_list h)
  unfold w_B_perform
  rw [e_f (by decide), e_f (by decide), e_f (by decide), e_f (by decide), e_f (by decide), e_f (by decide), e_f (by decide), e_f (by decide), e_f (by decide), e_f (by decide), e_f (by decide), e_f (by decide), e_t rfl]
  exact hQ
theorem p_load (h : rB n b (g 71)) : aP n b g (w_B_perform b 13 a1 a2 a3 a4 a5) (w_m_load g a1 a2) 13 a1 a2 0 0 0 := by
  refine aP_of (by decide) (fun Q hQ => ?_) (a_load h)
  unfold w_B_perform
  rw [e_f (by decide), e_f (by decide), e_f (by decide), e_f (by decide), e_f (by decide), e_f (by decide), e_f (by decide), e_f (by decide), e_f (by decide), e_f (by decide), e_f (by decide), e_f (by decide), e_f (by decide), e_t rfl]
  exact hQ
theorem p_go (hn : n ≤ 100000) (h : rB n b (g 71)) : aP n b g (w_B_perform b 14 a1 a2 a3 a4 a5) (w_m_go g a1) 14 a1 0 0 0 0 := by
  refine aP_of (by decide) (fun Q hQ => ?_) (a_go hn h)
  unfold w_B_perform
  rw [e_f (by decide), e_f (by decide), e_f (by decide), e_f (by decide), e_f (by decide), e_f (by decide), e_f (by decide), e_f (by decide), e_f (by decide), e_f (by decide), e_f (by decide), e_f (by decide), e_f (by decide), e_f (by decide), e_t rfl]
  exact hQ
theorem p_stop (h : rB n b (g 71)) : aP n b g (w_B_perform b 15 a1 a2 a3 a4 a5) (w_m_stop g a1) 15 a1 0 0 0 0 := by
  refine aP_of (by decide) (fun Q hQ => ?_) (a_stop h)
  unfold w_B_perform
  rw [e_f (by decide), e_f (by decide), e_f (by decide), e_f (by decide), e_f (by decide), e_f (by decide), e_f (by decide), e_f (by decide), e_f (by decide), e_f (by decide), e_f (by decide), e_f (by decide), e_f (by decide), e_f (by decide), e_f (by decide), e_t rfl]
  exact hQ
theorem p_release (h : rB n b (g 71)) : aP n b g (w_B_perform b 16 a1 a2 a3 a4 a5) (w_m_release g a1) 16 a1 0 0 0 0 := by
  refine aP_of (by decide) (fun Q hQ => ?_) (a_release h)
  unfold w_B_perform
  rw [e_f (by decide), e_f (by decide), e_f (by decide), e_f (by decide), e_f (by decide), e_f (by decide), e_f (by decide), e_f (by decide), e_f (by decide), e_f (by decide), e_f (by decide), e_f (by decide), e_f (by decide), e_f (by decide), e_f (by decide), e_f (by decide), e_t rfl]
  exact hQ
theorem p_master (h : rB n b (g 71)) : aP n b g (w_B_perform b 17 a1 a2 a3 a4 a5) (w_m_master g a1 a2) 17 a1 a2 0 0 0 := by
  refine aP_of (by decide) (fun Q hQ => ?_) (a_master h)
  unfold w_B_perform
  rw [e_f (by decide), e_f (by decide), e_f (by decide), e_f (by decide), e_f (by decide), e_f (by decide), e_f (by decide), e_f (by decide), e_f (by decide), e_f (by decide), e_f (by decide), e_f (by decide), e_f (by decide), e_f (by decide), e_f (by decide), e_f (by decide), e_f (by decide), e_t rfl]
  exact hQ
theorem p_merge (hv : a3 = 0 ∨ a3 = 1) (h : rB n b (g 71)) : aP n b g (w_B_perform b 18 a1 a2 a3 a4 a5) (w_m_merge g a1 a2 a3) 18 a1 a2 a3 0 0 := by
  refine aP_of (by decide) (fun Q hQ => ?_) (a_merge hv h)
  unfold w_B_perform
  rw [e_f (by decide), e_f (by decide), e_f (by decide), e_f (by decide), e_f (by decide), e_f (by decide), e_f (by decide), e_f (by decide), e_f (by decide), e_f (by decide), e_f (by decide), e_f (by decide), e_f (by decide), e_f (by decide), e_f (by decide), e_f (by decide), e_f (by decide), e_f (by decide), e_t rfl]
  rcases hv with e | e
  · rw [e_t e]
    rw [e] at hQ
    exact hQ
  · rw [e_f (by omega)]
    rw [e] at hQ
    exact hQ
theorem p_limit (h : rB n b (g 71)) : aP n b g (w_B_perform b 19 a1 a2 a3 a4 a5) (w_m_limit g a1 a2) 19 a1 a2 0 0 0 := by
  refine aP_of (by decide) (fun Q hQ => ?_) (a_limit h)
  unfold w_B_perform
  rw [e_f (by decide), e_f (by decide), e_f (by decide), e_f (by decide), e_f (by decide), e_f (by decide), e_f (by decide), e_f (by decide), e_f (by decide), e_f (by decide), e_f (by decide), e_f (by decide), e_f (by decide), e_f (by decide), e_f (by decide), e_f (by decide), e_f (by decide), e_f (by decide), e_f (by decide), e_t rfl]
  exact hQ
theorem p_blackout (hv : a1 = 0 ∨ a1 = 1) (h : rB n b (g 71)) : aP n b g (w_B_perform b 20 a1 a2 a3 a4 a5) (w_m_blackout g a1) 20 a1 0 0 0 0 := by
  refine aP_of (by decide) (fun Q hQ => ?_) (a_blackout hv h)
  unfold w_B_perform
  rw [e_f (by decide), e_f (by decide), e_f (by decide), e_f (by decide), e_f (by decide), e_f (by decide), e_f (by decide), e_f (by decide), e_f (by decide), e_f (by decide), e_f (by decide), e_f (by decide), e_f (by decide), e_f (by decide), e_f (by decide), e_f (by decide), e_f (by decide), e_f (by decide), e_f (by decide), e_f (by decide), e_t rfl]
  rcases hv with e | e
  · rw [e_t e]
    rw [e] at hQ
    exact hQ
  · rw [e_f (by omega)]
    rw [e] at hQ
    exact hQ
theorem p_tick (hn : n ≤ 100000) (h : rB n b (g 71)) : aP n b g (w_B_perform b 21 a1 a2 a3 a4 a5) (w_m_tick g a1) 21 a1 0 0 0 0 := by
  obtain ⟨r, b', g', h1, h2, h3, h4⟩ := a_tick (v := a1) hn h
  refine ⟨r, b', g', fun Q hQ => ?_, h2, h3, ?_, ?_, ?_⟩
  · unfold w_B_perform
    rw [e_f (by decide), e_f (by decide), e_f (by decide), e_f (by decide), e_f (by decide), e_f (by decide), e_f (by decide), e_f (by decide), e_f (by decide), e_f (by decide), e_f (by decide), e_f (by decide), e_f (by decide), e_f (by decide), e_f (by decide), e_f (by decide), e_f (by decide), e_f (by decide), e_f (by decide), e_f (by decide), e_f (by decide), e_t rfl]
    exact h1 Q hQ
  · rcases h4 with ⟨z1, z2, _⟩ | ⟨z1, z2, _⟩
    · rw [z2, if_neg (by omega)]
      omega
    · rw [z2, if_pos ⟨rfl, z1⟩]
  · intro _ hr
    rcases h4 with ⟨z1, z2, _⟩ | ⟨z1, z2, z3⟩
    · omega
    · exact z3
  · intro _ q1 q2 q3
    rcases h4 with ⟨z1, z2, z3⟩ | ⟨z1, z2, z3⟩
    · exact absurd ⟨q1, q2, q3⟩ z3
    · exact z1
end
