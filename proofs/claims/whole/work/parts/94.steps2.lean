/-! ===== one call on both sides (by program) ===== -/
def stp (n : Nat) (t g : xB) (w : (Int → xB → xB → xB → Prop) → Prop) (m : (Int → xB → Prop) → Prop) : Prop := ∃ r t' x' y' g', rS (n + 130) t' x' g' ∧ t' 64 = t 64 ∧ t' 65 = t 65 ∧ (∀ Q : Int → xB → xB → xB → Prop, Q r t' x' y' → w Q) ∧ (∀ Q : Int → xB → Prop, Q r g' → m Q)
section
variable {n : Nat} {t x y g : xB} {a1 a2 a3 a4 a5 : Int}
theorem stp_e {w : (Int → xB → xB → xB → Prop) → Prop} {m : (Int → xB → Prop) → Prop} {c : Int} (hS : rS n t x g) (hP : aP n x g (w_B_perform x c a1 a2 a3 a4 a5) m c a1 a2 a3 a4 a5) (hc : c = 21 ∨ kOK c a1 a2 a3) (hw : ∀ Q, w_T_enact t x y c a1 a2 a3 a4 a5 Q → w Q) : stp n t g w m := by
  obtain ⟨r, t', x', g', h1, h2, h3, h4⟩ := enact_A (y := y) hS hP hc
  exact ⟨r, t', x', y, g', rS_le (by omega) h1, h2 64 (by omega), h2 65 (by omega), fun Q hQ => hw Q (h3 Q hQ), h4⟩
theorem stp_q {w : (Int → xB → xB → xB → Prop) → Prop} {w0 m : (Int → xB → Prop) → Prop} (hS : rS n t x g) (hq : qC n x g w0 m) (hw : ∀ Q : Int → xB → xB → xB → Prop, w0 (fun r x2 => Q r t x2 y) → w Q) : stp n t g w m := by
  obtain ⟨r, x', g', h1, h2, h3⟩ := ask_A hS hq
  exact ⟨r, t, x', y, g', rS_le (by omega) h1, rfl, rfl, fun Q hQ => hw Q (h2 _ hQ), h3⟩
theorem kOK_o {c : Int} (h0 : 0 ≤ c) (h1 : c ≤ 21) (h : c ≠ 8 ∧ c ≠ 9 ∧ c ≠ 18 ∧ c ≠ 20 ∧ c ≠ 21) : kOK c a1 a2 a3 := ⟨h0, h1, fun z => absurd z h.1, fun z => absurd z h.2.2.1, fun z => absurd z h.2.2.2.1, fun z => absurd z h.2.1, fun z => absurd z h.2.2.2.2⟩
theorem s_line (hn : n ≤ 100000) (hS : rS n t x g) : stp n t g (w_T_line t x y a1 a2) (w_m_line g a1 a2) :=
  stp_e (y := y) hS (p_line hS.1) (Or.inr (kOK_o (by decide) (by decide) (by decide))) (fun _ h => h)
theorem s_pull (hn : n ≤ 100000) (hS : rS n t x g) : stp n t g (w_T_pull t x y a1) (w_m_pull g a1) :=
  stp_e (y := y) hS (p_pull hS.1) (Or.inr (kOK_o (by decide) (by decide) (by decide))) (fun _ h => h)
theorem s_plug (hn : n ≤ 100000) (hS : rS n t x g) : stp n t g (w_T_plug t x y a1) (w_m_plug g a1) :=
  stp_e (y := y) hS (p_plug hS.1) (Or.inr (kOK_o (by decide) (by decide) (by decide))) (fun _ h => h)
theorem s_fixture (hn : n ≤ 100000) (hS : rS n t x g) : stp n t g (w_T_fixture t x y a1 a2) (w_m_fixture g a1 a2) :=
  stp_e (y := y) hS (p_fixture hS.1) (Or.inr (kOK_o (by decide) (by decide) (by decide))) (fun _ h => h)
theorem s_group (hn : n ≤ 100000) (hS : rS n t x g) : stp n t g (w_T_group t x y a1 a2) (w_m_group g a1 a2) :=
  stp_e (y := y) hS (p_group hS.1) (Or.inr (kOK_o (by decide) (by decide) (by decide))) (fun _ h => h)
theorem s_member (hn : n ≤ 100000) (hS : rS n t x g) : stp n t g (w_T_member t x y a1 a2 a3) (w_m_member g a1 a2 a3) :=
  stp_e (y := y) hS (p_member hS.1) (Or.inr (kOK_o (by decide) (by decide) (by decide))) (fun _ h => h)
theorem s_patch (hn : n ≤ 100000) (hS : rS n t x g) : stp n t g (w_T_patch t x y a1 a2 a3) (w_m_patch g a1 a2 a3) :=
  stp_e (y := y) hS (p_patch hn hS.1) (Or.inr (kOK_o (by decide) (by decide) (by decide))) (fun _ h => h)
theorem s_unpatch (hn : n ≤ 100000) (hS : rS n t x g) : stp n t g (w_T_unpatch t x y a1) (w_m_unpatch g a1) :=
  stp_e (y := y) hS (p_unpatch hS.1) (Or.inr (kOK_o (by decide) (by decide) (by decide))) (fun _ h => h)
theorem s_firm (hv : a2 = 0 ∨ a2 = 1) (hn : n ≤ 100000) (hS : rS n t x g) : stp n t g (w_T_firm t x y a1 a2) (w_m_firm g a1 a2) :=
  stp_e (y := y) hS (p_firm hv hS.1) (Or.inr ⟨by decide, by decide, fun _ => hv, fun z => absurd z (by decide), fun z => absurd z (by decide), fun z => absurd z (by decide), fun z => absurd z (by decide)⟩) (fun Q h => by
    unfold w_T_firm w_T_firm_j13
    rcases hv with e | e
    · rw [e_t e]
      rw [e] at h
      exact h
    · rw [e_f (by omega)]
      rw [e] at h
      exact h)
theorem s_point (hv : x_in a3) (hn : n ≤ 100000) (hS : rS n t x g) : stp n t g (w_T_point t x y a1 a2 a3) (w_m_point g a1 a2 a3) :=
  stp_e (y := y) hS (p_point hv hS.1) (Or.inr ⟨by decide, by decide, fun z => absurd z (by decide), fun z => absurd z (by decide), fun z => absurd z (by decide), fun _ => hv, fun z => absurd z (by decide)⟩) (fun _ h => h)
theorem s_bend (hn : n ≤ 100000) (hS : rS n t x g) : stp n t g (w_T_bend t x y a1 a2 a3) (w_m_bend g a1 a2 a3) :=
  stp_e (y := y) hS (p_bend hS.1) (Or.inr (kOK_o (by decide) (by decide) (by decide))) (fun _ h => h)
theorem s_entry (hn : n ≤ 100000) (hS : rS n t x g) : stp n t g (w_T_entry t x y a1 a2 a3 a4 a5) (w_m_entry g a1 a2 a3 a4 a5) :=
  stp_e (y := y) hS (p_entry hS.1) (Or.inr (kOK_o (by decide) (by decide) (by decide))) (fun _ h => h)
theorem s_list (hn : n ≤ 100000) (hS : rS n t x g) : stp n t g (w_T_list t x y a1 a2 a3) (w_m_list g a1 a2 a3) :=
  stp_e (y := y) hS (p_list hS.1) (Or.inr (kOK_o (by decide) (by decide) (by decide))) (fun _ h => h)
theorem s_load (hn : n ≤ 100000) (hS : rS n t x g) : stp n t g (w_T_load t x y a1 a2) (w_m_load g a1 a2) :=
  stp_e (y := y) hS (p_load hS.1) (Or.inr (kOK_o (by decide) (by decide) (by decide))) (fun _ h => h)
theorem s_go (hn : n ≤ 100000) (hS : rS n t x g) : stp n t g (w_T_go t x y a1) (w_m_go g a1) :=
  stp_e (y := y) hS (p_go hn hS.1) (Or.inr (kOK_o (by decide) (by decide) (by decide))) (fun _ h => h)
theorem s_stop (hn : n ≤ 100000) (hS : rS n t x g) : stp n t g (w_T_stop t x y a1) (w_m_stop g a1) :=
  stp_e (y := y) hS (p_stop hS.1) (Or.inr (kOK_o (by decide) (by decide) (by decide))) (fun _ h => h)
theorem s_release (hn : n ≤ 100000) (hS : rS n t x g) : stp n t g (w_T_release t x y a1) (w_m_release g a1) :=
  stp_e (y := y) hS (p_release hS.1) (Or.inr (kOK_o (by decide) (by decide) (by decide))) (fun _ h => h)
theorem s_master (hn : n ≤ 100000) (hS : rS n t x g) : stp n t g (w_T_master t x y a1 a2) (w_m_master g a1 a2) :=
  stp_e (y := y) hS (p_master hS.1) (Or.inr (kOK_o (by decide) (by decide) (by decide))) (fun _ h => h)
theorem s_merge (hv : a3 = 0 ∨ a3 = 1) (hn : n ≤ 100000) (hS : rS n t x g) : stp n t g (w_T_merge t x y a1 a2 a3) (w_m_merge g a1 a2 a3) :=
  stp_e (y := y) hS (p_merge hv hS.1) (Or.inr ⟨by decide, by decide, fun z => absurd z (by decide), fun _ => hv, fun z => absurd z (by decide), fun z => absurd z (by decide), fun z => absurd z (by decide)⟩) (fun Q h => by
    unfold w_T_merge w_T_merge_j14
    rcases hv with e | e
    · rw [e_t e]
      rw [e] at h
      exact h
    · rw [e_f (by omega)]
      rw [e] at h
      exact h)
theorem s_limit (hn : n ≤ 100000) (hS : rS n t x g) : stp n t g (w_T_limit t x y a1 a2) (w_m_limit g a1 a2) :=
  stp_e (y := y) hS (p_limit hS.1) (Or.inr (kOK_o (by decide) (by decide) (by decide))) (fun _ h => h)
theorem s_blackout (hv : a1 = 0 ∨ a1 = 1) (hn : n ≤ 100000) (hS : rS n t x g) : stp n t g (w_T_blackout t x y a1) (w_m_blackout g a1) :=
  stp_e (y := y) hS (p_blackout hv hS.1) (Or.inr ⟨by decide, by decide, fun z => absurd z (by decide), fun z => absurd z (by decide), fun _ => hv, fun z => absurd z (by decide), fun z => absurd z (by decide)⟩) (fun Q h => by
    unfold w_T_blackout w_T_blackout_j12
    rcases hv with e | e
    · rw [e_t e]
      rw [e] at h
      exact h
    · rw [e_f (by omega)]
      rw [e] at h
      exact h)
theorem s_tick (hn : n ≤ 100000) (hS : rS n t x g) : stp n t g (w_T_tick t x y a1) (w_m_tick g a1) :=
  stp_e (y := y) hS (p_tick hn hS.1) (Or.inl rfl) (fun _ h => h)
theorem s_at (hn : n ≤ 100000) (hS : rS n t x g) : stp n t g (w_T_at t x y a1 a2) (w_m_at g a1 a2) :=
  stp_q (y := y) hS (q_at hS.1) (fun _ h => h)
theorem s_wide (hv : x_in a2) (hn : n ≤ 100000) (hS : rS n t x g) : stp n t g (w_T_wide t x y a1 a2) (w_m_wide g a1 a2) :=
  stp_q (y := y) hS (q_wide hv hS.1) (fun _ h => h)
theorem s_memberAt (hn : n ≤ 100000) (hS : rS n t x g) : stp n t g (w_T_memberAt t x y a1 a2) (w_m_memberAt g a1 a2) :=
  stp_q (y := y) hS (q_memberAt hS.1) (fun _ h => h)
theorem s_about (hn : n ≤ 100000) (hS : rS n t x g) : stp n t g (w_T_about t x y a1 a2) (w_m_about g a1 a2) :=
  stp_q (y := y) hS (q_about hS.1) (fun _ h => h)
theorem s_curve (hn : n ≤ 100000) (hS : rS n t x g) : stp n t g (w_T_curve t x y a1 a2) (w_m_curve g a1 a2) :=
  stp_q (y := y) hS (q_curve hS.1) (fun _ h => h)
theorem s_value (hn : n ≤ 100000) (hS : rS n t x g) : stp n t g (w_T_value t x y a1 a2 a3) (w_m_value g a1 a2 a3) :=
  stp_q (y := y) hS (q_value hS.1) (fun _ h => h)
theorem s_playback (hn : n ≤ 100000) (hS : rS n t x g) : stp n t g (w_T_playback t x y a1 a2) (w_m_playback g a1 a2) :=
  stp_q (y := y) hS (q_playback hS.1) (fun _ h => h)
theorem s_heat (hn : n ≤ 100000) (hS : rS n t x g) : stp n t g (w_T_heat t x y a1) (w_m_heat g a1) :=
  stp_q (y := y) hS (q_heat hS.1) (fun _ h => h)
theorem s_over (hn : n ≤ 100000) (hS : rS n t x g) : stp n t g (w_T_over t x y a1) (w_m_over g a1) :=
  stp_q (y := y) hS (q_over hS.1) (fun _ h => h)
theorem s_found (hn : n ≤ 100000) (hS : rS n t x g) : stp n t g (w_T_found t x y a1) (w_m_found g a1) :=
  stp_q (y := y) hS (q_found hS.1) (fun _ h => h)
theorem s_digest (hn : n ≤ 100000) (hS : rS n t x g) : stp n t g (w_T_digest t x y ) (w_m_digest g ) :=
  stp_q (y := y) hS (q_digest hS.1) (fun _ h => h)
theorem s_asks (hn : n ≤ 100000) (hS : rS n t x g) : stp n t g (w_T_asks t x y a1 a2) (w_m_asks g a1 a2) := by
  obtain ⟨r, x', g', h1, h2, h3⟩ := asks_A (f := a1) (v := a2) hS
  exact ⟨r, t, x', y, g', rS_le (by omega) h1, rfl, rfl, fun Q hQ => h2 _ hQ, h3⟩
theorem s_trace (hn : n ≤ 100000) (hS : rS n t x g) : stp n t g (w_T_trace t x y a1) (w_m_trace g a1) := by
  obtain ⟨r, h2, h3⟩ := trace_A (v := a1) hS
  exact ⟨r, t, x, y, g, rS_le (by omega) hS, rfl, rfl, fun Q hQ => h2 _ hQ, h3⟩
theorem s_told (hn : n ≤ 100000) (hS : rS n t x g) : stp n t g (w_T_told t x y a1) (w_m_told g a1) := by
  obtain ⟨r, h2, h3⟩ := told_A (y := y) (v := a1) hS
  exact ⟨r, t, x, y, g, rS_le (by omega) hS, rfl, rfl, h2, h3⟩
theorem s_replay (hn : n ≤ 100000) (hS : rS n t x g) : stp n t g (w_T_replay t x y) (w_m_replay g) := by
  obtain ⟨r, y', g', h1, h2, h3⟩ := replay_A (y := y) hS
  exact ⟨r, t, x, y', g', rS_le (by omega) h1, rfl, rfl, h2, h3⟩
theorem s_back (hn : n ≤ 100000) (hS : rS n t x g) : stp n t g (w_T_back t x y a1) (w_m_back g a1) := by
  obtain ⟨r, t', x', g', h1, h2, h3, h4⟩ := back_A (y := y) (v := a1) hS
  exact ⟨r, t', x', y, g', h1, h2 64 (by omega), h2 65 (by omega), h3, h4⟩
end
