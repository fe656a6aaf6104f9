/-! ===== the book is played ===== -/
theorem noted_1 {g : xB} {r c a1 a2 a3 a4 a5 : Int} {Q : Int → xB → Prop} (h : g 1504 0 = 1) (hQ : Q r g) : w_m_noted g r c a1 a2 a3 a4 a5 Q := by
  unfold w_m_noted
  by_cases e : r < 0
  · rw [e_t e]
    exact hQ
  · rw [e_f e, e_f (by omega)]
    exact hQ
/-- the model's call of a row -/
def mCall (g : xB) (c a1 a2 a3 a4 a5 : Int) (Q : Int → xB → Prop) : Prop :=
  x_br (c = 0) (w_m_line g a1 a2 Q) (
  x_br (c = 1) (w_m_pull g a1 Q) (
  x_br (c = 2) (w_m_plug g a1 Q) (
  x_br (c = 3) (w_m_fixture g a1 a2 Q) (
  x_br (c = 4) (w_m_group g a1 a2 Q) (
  x_br (c = 5) (w_m_member g a1 a2 a3 Q) (
  x_br (c = 6) (w_m_patch g a1 a2 a3 Q) (
  x_br (c = 7) (w_m_unpatch g a1 Q) (
  x_br (c = 8) (w_m_firm g a1 a2 Q) (
  x_br (c = 9) (w_m_point g a1 a2 a3 Q) (
  x_br (c = 10) (w_m_bend g a1 a2 a3 Q) (
  x_br (c = 11) (w_m_entry g a1 a2 a3 a4 a5 Q) (
  x_br (c = 12) (w_m_list g a1 a2 a3 Q) (
  x_br (c = 13) (w_m_load g a1 a2 Q) (
  x_br (c = 14) (w_m_go g a1 Q) (
  x_br (c = 15) (w_m_stop g a1 Q) (
  x_br (c = 16) (w_m_release g a1 Q) (
  x_br (c = 17) (w_m_master g a1 a2 Q) (
  x_br (c = 18) (w_m_merge g a1 a2 a3 Q) (
  x_br (c = 19) (w_m_limit g a1 a2 Q) (
  x_br (c = 20) (w_m_blackout g a1 Q) (
  w_m_tick g a1 Q)))))))))))))))))))))
theorem call_A {n : Nat} {b g : xB} {c a1 a2 a3 a4 a5 : Int} (hn : n ≤ 100000) (hk : kOK c a1 a2 a3) (h : rB n b (g 71)) (hT : b 108 0 + 5 ≤ 2000) (h4 : g 1504 0 = 1) : ∃ r b' g', rB (n + 1) b' (g' 71) ∧ mS g g' ∧ b' 108 0 = b 108 0 + (if c = 21 then a1 else 0) ∧ b' 172 = b 172 ∧ (∀ Q, Q r b' → w_B_perform b c a1 a2 a3 a4 a5 Q) ∧ (∀ Q, Q r g' → mCall g c a1 a2 a3 a4 a5 Q) := by
  obtain ⟨k0, k1, k2, k3, k4, k5, k6⟩ := hk
  have key : ∀ (m : (Int → xB → Prop) → Prop) (e1 e2 e3 e4 e5 : Int), e1 = a1 → aP n b g (w_B_perform b c a1 a2 a3 a4 a5) m c e1 e2 e3 e4 e5 → (∀ Q, m Q → mCall g c a1 a2 a3 a4 a5 Q) → ∃ r b' g', rB (n + 1) b' (g' 71) ∧ mS g g' ∧ b' 108 0 = b 108 0 + (if c = 21 then a1 else 0) ∧ b' 172 = b 172 ∧ (∀ Q, Q r b' → w_B_perform b c a1 a2 a3 a4 a5 Q) ∧ (∀ Q, Q r g' → mCall g c a1 a2 a3 a4 a5 Q) := by
    intro m e1 e2 e3 e4 e5 he hP hm
    subst he
    obtain ⟨r, b', g', h1, h2, ⟨o1, o2, o3, o4⟩, h5, h6, h7⟩ := hP
    refine ⟨r, b', g', o1, o2, ?_, o3, h1, fun Q hQ => hm Q (h2 Q (noted_1 ?_ hQ))⟩
    · rw [h5]
      by_cases c21 : c = 21
      · have := k6 c21
        rw [if_pos ⟨c21, h7 c21 this.1 this.2 (by omega)⟩, if_pos c21]
      · rw [if_neg (fun z => c21 z.1), if_neg c21]
    · rw [o2 1504 (by omega) (by omega) (by omega) (by omega) (by omega) (by omega) (by omega)]
      exact h4
  by_cases c0 : c = 0
  · subst c0
    refine key _ _ _ _ _ _ rfl (p_line h) (fun Q hQ => ?_)
    unfold mCall
    rw [e_t rfl]
    exact hQ
  by_cases c1 : c = 1
  · subst c1
    refine key _ _ _ _ _ _ rfl (p_pull h) (fun Q hQ => ?_)
    unfold mCall
    rw [e_f (by decide), e_t rfl]
    exact hQ
  by_cases c2 : c = 2
  · subst c2
    refine key _ _ _ _ _ _ rfl (p_plug h) (fun Q hQ => ?_)
    unfold mCall
    rw [e_f (by decide), e_f (by decide), e_t rfl]
    exact hQ
  by_cases c3 : c = 3
  · subst c3
    refine key _ _ _ _ _ _ rfl (p_fixture h) (fun Q hQ => ?_)
    unfold mCall
    rw [e_f (by decide), e_f (by decide), e_f (by decide), e_t rfl]
    exact hQ
  by_cases c4 : c = 4
  · subst c4
    refine key _ _ _ _ _ _ rfl (p_group h) (fun Q hQ => ?_)
    unfold mCall
    rw [e_f (by decide), e_f (by decide), e_f (by decide), e_f (by decide), e_t rfl]
    exact hQ
  by_cases c5 : c = 5
  · subst c5
    refine key _ _ _ _ _ _ rfl (p_member h) (fun Q hQ => ?_)
    unfold mCall
    rw [e_f (by decide), e_f (by decide), e_f (by decide), e_f (by decide), e_f (by decide), e_t rfl]
    exact hQ
  by_cases c6 : c = 6
  · subst c6
    refine key _ _ _ _ _ _ rfl (p_patch hn h) (fun Q hQ => ?_)
    unfold mCall
    rw [e_f (by decide), e_f (by decide), e_f (by decide), e_f (by decide), e_f (by decide), e_f (by decide), e_t rfl]
    exact hQ
  by_cases c7 : c = 7
  · subst c7
    refine key _ _ _ _ _ _ rfl (p_unpatch h) (fun Q hQ => ?_)
    unfold mCall
    rw [e_f (by decide), e_f (by decide), e_f (by decide), e_f (by decide), e_f (by decide), e_f (by decide), e_f (by decide), e_t rfl]
    exact hQ
  by_cases c8 : c = 8
  · subst c8
    refine key _ _ _ _ _ _ rfl (p_firm (k2 rfl) h) (fun Q hQ => ?_)
    unfold mCall
    rw [e_f (by decide), e_f (by decide), e_f (by decide), e_f (by decide), e_f (by decide), e_f (by decide), e_f (by decide), e_f (by decide), e_t rfl]
    exact hQ
  by_cases c9 : c = 9
  · subst c9
    refine key _ _ _ _ _ _ rfl (p_point (k5 rfl) h) (fun Q hQ => ?_)
    unfold mCall
    rw [e_f (by decide), e_f (by decide), e_f (by decide), e_f (by decide), e_f (by decide), e_f (by decide), e_f (by decide), e_f (by decide), e_f (by decide), e_t rfl]
    exact hQ
  by_cases c10 : c = 10
  · subst c10
    refine key _ _ _ _ _ _ rfl (p_bend h) (fun Q hQ => ?_)
    unfold mCall
    rw [e_f (by decide), e_f (by decide), e_f (by decide), e_f (by decide), e_f (by decide), e_f (by decide), e_f (by decide), e_f (by decide), e_f (by decide), e_f (by decide), e_t rfl]
    exact hQ
  by_cases c11 : c = 11
  · subst c11
    refine key _ _ _ _ _ _ rfl (p_entry h) (fun Q hQ => ?_)
    unfold mCall
    rw [e_f (by decide), e_f (by decide), e_f (by decide), e_f (by decide), e_f (by decide), e_f (by decide), e_f (by decide), e_f (by decide), e_f (by decide), e_f (by decide), e_f (by decide), e_t rfl]
    exact hQ
  by_cases c12 : c = 12
  · subst c12
    refine key _ _ _ _ _ _ rfl (p_list h) (fun Q hQ => ?_)
    unfold mCall
    rw [e_f (by decide), e_f (by decide), e_f (by decide), e_f (by decide), e_f (by decide), e_f (by decide), e_f (by decide), e_f (by decide), e_f (by decide), e_f (by decide), e_f (by decide), e_f (by decide), e_t rfl]
    exact hQ
  by_cases c13 : c = 13
  · subst c13
    refine key _ _ _ _ _ _ rfl (p_load h) (fun Q hQ => ?_)
    unfold mCall
    rw [e_f (by decide), e_f (by decide), e_f (by decide), e_f (by decide), e_f (by decide), e_f (by decide), e_f (by decide), e_f (by decide), e_f (by decide), e_f (by decide), e_f (by decide), e_f (by decide), e_f (by decide), e_t rfl]
    exact hQ
  by_cases c14 : c = 14
  · subst c14
    refine key _ _ _ _ _ _ rfl (p_go hn h) (fun Q hQ => ?_)
    unfold mCall
    rw [e_f (by decide), e_f (by decide), e_f (by decide), e_f (by decide), e_f (by decide), e_f (by decide), e_f (by decide), e_f (by decide), e_f (by decide), e_f (by decide), e_f (by decide), e_f (by decide), e_f (by decide), e_f (by decide), e_t rfl]
    exact hQ
  by_cases c15 : c = 15
  · subst c15
    refine key _ _ _ _ _ _ rfl (p_stop h) (fun Q hQ => ?_)
    unfold mCall
    rw [e_f (by decide), e_f (by decide), e_f (by decide), e_f (by decide), e_f (by decide), e_f (by decide), e_f (by decide), e_f (by decide), e_f (by decide), e_f (by decide), e_f (by decide), e_f (by decide), e_f (by decide), e_f (by decide), e_f (by decide), e_t rfl]
    exact hQ
  by_cases c16 : c = 16
  · subst c16
    refine key _ _ _ _ _ _ rfl (p_release h) (fun Q hQ => ?_)
    unfold mCall
    rw [e_f (by decide), e_f (by decide), e_f (by decide), e_f (by decide), e_f (by decide), e_f (by decide), e_f (by decide), e_f (by decide), e_f (by decide), e_f (by decide), e_f (by decide), e_f (by decide), e_f (by decide), e_f (by decide), e_f (by decide), e_f (by decide), e_t rfl]
    exact hQ
  by_cases c17 : c = 17
  · subst c17
    refine key _ _ _ _ _ _ rfl (p_master h) (fun Q hQ => ?_)
    unfold mCall
    rw [e_f (by decide), e_f (by decide), e_f (by decide), e_f (by decide), e_f (by decide), e_f (by decide), e_f (by decide), e_f (by decide), e_f (by decide), e_f (by decide), e_f (by decide), e_f (by decide), e_f (by decide), e_f (by decide), e_f (by decide), e_f (by decide), e_f (by decide), e_t rfl]
    exact hQ
  by_cases c18 : c = 18
  · subst c18
    refine key _ _ _ _ _ _ rfl (p_merge (k3 rfl) h) (fun Q hQ => ?_)
    unfold mCall
    rw [e_f (by decide), e_f (by decide), e_f (by decide), e_f (by decide), e_f (by decide), e_f (by decide), e_f (by decide), e_f (by decide), e_f (by decide), e_f (by decide), e_f (by decide), e_f (by decide), e_f (by decide), e_f (by decide), e_f (by decide), e_f (by decide), e_f (by decide), e_f (by decide), e_t rfl]
    exact hQ
  by_cases c19 : c = 19
  · subst c19
    refine key _ _ _ _ _ _ rfl (p_limit h) (fun Q hQ => ?_)
    unfold mCall
    rw [e_f (by decide), e_f (by decide), e_f (by decide), e_f (by decide), e_f (by decide), e_f (by decide), e_f (by decide), e_f (by decide), e_f (by decide), e_f (by decide), e_f (by decide), e_f (by decide), e_f (by decide), e_f (by decide), e_f (by decide), e_f (by decide), e_f (by decide), e_f (by decide), e_f (by decide), e_t rfl]
    exact hQ
  by_cases c20 : c = 20
  · subst c20
    refine key _ _ _ _ _ _ rfl (p_blackout (k4 rfl) h) (fun Q hQ => ?_)
    unfold mCall
    rw [e_f (by decide), e_f (by decide), e_f (by decide), e_f (by decide), e_f (by decide), e_f (by decide), e_f (by decide), e_f (by decide), e_f (by decide), e_f (by decide), e_f (by decide), e_f (by decide), e_f (by decide), e_f (by decide), e_f (by decide), e_f (by decide), e_f (by decide), e_f (by decide), e_f (by decide), e_f (by decide), e_t rfl]
    exact hQ
  have c21 : c = 21 := by omega
  subst c21
  refine key _ _ _ _ _ _ rfl (p_tick hn h) (fun Q hQ => ?_)
  unfold mCall
  rw [e_f (by decide), e_f (by decide), e_f (by decide), e_f (by decide), e_f (by decide), e_f (by decide), e_f (by decide), e_f (by decide), e_f (by decide), e_f (by decide), e_f (by decide), e_f (by decide), e_f (by decide), e_f (by decide), e_f (by decide), e_f (by decide), e_f (by decide), e_f (by decide), e_f (by decide), e_f (by decide), e_f (by decide)]
  exact hQ
