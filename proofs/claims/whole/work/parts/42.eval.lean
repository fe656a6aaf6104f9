/-! ===== evaluation of formulas ===== -/
theorem e_t {c A B : Prop} (h : c) : x_br c A B = A := propext ⟨fun g => g.1 h, fun a => xb_t h a⟩
theorem e_f {c A B : Prop} (h : ¬ c) : x_br c A B = B := propext ⟨fun g => g.2 h, fun a => xb_f h a⟩
theorem e_T {A B : Prop} : x_br True A B = A := e_t trivial
theorem e_F {A B : Prop} : x_br False A B = B := e_f id
theorem e_gd {i : Int} {n : Nat} {P : Prop} (h0 : 0 ≤ i) (h1 : i < (n : Int)) : x_gd i n P = P := propext ⟨fun g => (x_gd_spec g).2, fun p => x_gd_of h0 h1 p⟩
theorem e_bg0 {P : Prop} : x_bg 0 P = P := propext ⟨fun g => (x_bg_spec g).2, fun p => x_bg_of (Or.inl rfl) p⟩
theorem e_bg1 {P : Prop} : x_bg 1 P = P := propext ⟨fun g => (x_bg_spec g).2, fun p => x_bg_of (Or.inr rfl) p⟩
theorem e_nz {x : Int} {P : Prop} (h : x ≠ 0) : x_nz x P = P := propext ⟨fun g => (x_nz_spec g).2, fun p => x_nz_of h p⟩
theorem xw_al (a c : Int) : xw (xw a + c) = xw (a + c) := Int.bmod_add_bmod ..
theorem xw_ar (a c : Int) : xw (a + xw c) = xw (a + c) := Int.add_bmod_bmod ..
theorem xw_sl (a c : Int) : xw (xw a - c) = xw (a - c) := Int.bmod_sub_bmod ..
theorem xw_sr (a c : Int) : xw (a - xw c) = xw (a - c) := Int.sub_bmod_bmod ..
theorem xw_ml (a c : Int) : xw (xw a * c) = xw (a * c) := Int.bmod_mul_bmod ..
theorem xw_mr (a c : Int) : xw (a * xw c) = xw (a * c) := Int.mul_bmod_bmod ..
theorem x_sl_c (u n i : Nat) : x_sl u n i = u * n + i := Nat.add_comm ..
theorem mc3 (l : Nat) : 3 * l = l * 3 := Nat.mul_comm ..
theorem mc6 (l : Nat) : 6 * l = l * 6 := Nat.mul_comm ..
theorem mc8 (l : Nat) : 8 * l = l * 8 := Nat.mul_comm ..
theorem mc12 (l : Nat) : 12 * l = l * 12 := Nat.mul_comm ..
theorem mc64 (l : Nat) : 64 * l = l * 64 := Nat.mul_comm ..
theorem mc72 (l : Nat) : 72 * l = l * 72 := Nat.mul_comm ..
section
variable {v lo hi : Int} {b g : xB} {q : Int → Prop} {Q : Int → xB → Prop}
theorem rng_t {a c : Int} (h0 : a ≤ v) (h1 : v < c) : x_br (v < a) (q 0) (x_br (v < c) (q 1) (q 0)) = q 1 := by
  rw [e_f (by omega), e_t (by omega)]
theorem rng_f {a c : Int} (h : v < a ∨ c ≤ v) : x_br (v < a) (q 0) (x_br (v < c) (q 1) (q 0)) = q 0 := by
  by_cases h0 : v < a
  · rw [e_t h0]
  · rw [e_f h0, e_f (by omega)]
theorem L_isLine_t (h0 : 0 ≤ v) (h1 : v < 4) : w_L_isLine v q = q 1 := rng_t h0 h1
theorem L_isLine_f (h : v < 0 ∨ 4 ≤ v) : w_L_isLine v q = q 0 := rng_f h
theorem V_isCurve_t (h0 : 0 ≤ v) (h1 : v < 4) : w_V_isCurve v q = q 1 := rng_t h0 h1
theorem V_isCurve_f (h : v < 0 ∨ 4 ≤ v) : w_V_isCurve v q = q 0 := rng_f h
theorem Q_isCue_t (h0 : 0 ≤ v) (h1 : v < 16) : w_Q_isCue v q = q 1 := rng_t h0 h1
theorem Q_isCue_f (h : v < 0 ∨ 16 ≤ v) : w_Q_isCue v q = q 0 := rng_f h
theorem Q_isList_t (h0 : 0 ≤ v) (h1 : v < 4) : w_Q_isList v q = q 1 := rng_t h0 h1
theorem Q_isList_f (h : v < 0 ∨ 4 ≤ v) : w_Q_isList v q = q 0 := rng_f h
theorem B_isPb_t (h0 : 0 ≤ v) (h1 : v < 4) : w_B_isPlayback v q = q 1 := rng_t h0 h1
theorem B_isPb_f (h : v < 0 ∨ 4 ≤ v) : w_B_isPlayback v q = q 0 := rng_f h
theorem R_isCh_t (h0 : 0 ≤ v) (h1 : v < 3) : w_R_isChannel v q = q 1 := rng_t h0 h1
theorem R_isCh_f (h : v < 0 ∨ 3 ≤ v) : w_R_isChannel v q = q 0 := rng_f h
theorem R_has_t (h0 : 0 ≤ v) (h1 : v < b 161 0) : w_R_has b v Q = Q 1 b := rng_t (q := fun r => Q r b) h0 h1
theorem R_has_f (h : v < 0 ∨ b 161 0 ≤ v) : w_R_has b v Q = Q 0 b := rng_f (q := fun r => Q r b) h
theorem m_in_t (h0 : lo ≤ v) (h1 : v ≤ hi) : w_m_in v lo hi q = q 1 := by
  unfold w_m_in
  rw [e_f (by omega), e_f (by omega)]
theorem m_in_f (h : v < lo ∨ hi < v) : w_m_in v lo hi q = q 0 := by
  unfold w_m_in
  by_cases h0 : v < lo
  · rw [e_t h0]
  · rw [e_f h0, e_t (by omega)]
theorem m_isLine_t (h0 : 0 ≤ v) (h1 : v < 4) : w_m_isLine v q = q 1 := by
  unfold w_m_isLine
  rw [m_in_t h0 (by omega), e_bg1]
theorem m_isLine_f (h : v < 0 ∨ 4 ≤ v) : w_m_isLine v q = q 0 := by
  unfold w_m_isLine
  rw [m_in_f (by omega), e_bg0]
theorem m_isPb_t (h0 : 0 ≤ v) (h1 : v < 4) : w_m_isPlayback v q = q 1 := by
  unfold w_m_isPlayback
  rw [m_in_t h0 (by omega), e_bg1]
theorem m_isPb_f (h : v < 0 ∨ 4 ≤ v) : w_m_isPlayback v q = q 0 := by
  unfold w_m_isPlayback
  rw [m_in_f (by omega), e_bg0]
theorem m_isFx_t (h0 : 0 ≤ v) (h1 : v < g 71 276) (h2 : g 71 276 ≤ 24) : w_m_isFixture g v Q = Q 1 g := by
  unfold w_m_isFixture
  rw [xw_id (by omega) (by omega), m_in_t h0 (by omega), e_bg1]
theorem m_isFx_f (h : v < 0 ∨ g 71 276 ≤ v) (h1 : 0 ≤ g 71 276) (h2 : g 71 276 ≤ 24) : w_m_isFixture g v Q = Q 0 g := by
  unfold w_m_isFixture
  rw [xw_id (by omega) (by omega), m_in_f (by omega), e_bg0]
theorem F_note_e (h0 : 1 ≤ v) (h1 : v ≤ 6) : w_F_note b v Q = Q (-10 - v) (x_up b 10 v.toNat (xw (b 10 v.toNat + 1))) := by
  unfold w_F_note
  rw [e_f (by omega), e_f (by omega), e_gd (by omega) (by omega), e_gd (by omega) (by omega), xw_id (by omega) (by omega)]
theorem m_finds_e (h0 : 1 ≤ v) (h1 : v ≤ 6) : w_m_finds g v Q = Q (-10 - v) (x_up g 71 (3772 + v.toNat) (xw (g 71 (3772 + v.toNat) + 1))) := by
  unfold w_m_finds
  have e : (3772 + v).toNat = 3772 + v.toNat := by omega
  rw [xw_id (z := 3772 + v) (by omega) (by omega), e_gd (by omega) (by omega), e_gd (by omega) (by omega), xw_id (by omega) (by omega), e]
end
theorem noted_neg {g : xB} {r c a1 a2 a3 a4 a5 : Int} {Q : Int → xB → Prop} (h : r < 0) : w_m_noted g r c a1 a2 a3 a4 a5 Q = Q r g := by
  unfold w_m_noted
  rw [e_t h]
theorem fil0 {b : xB} {o s : Nat} {v : Int} : x_fil b o s 0 v = b := by
  funext r i
  exact if_neg (by omega)
theorem fil_s {b : xB} {o s n : Nat} {v : Int} : x_fil (x_up b o s v) o (s + 1) n v = x_fil b o s (n + 1) v := by
  funext r i
  unfold x_fil x_up
  by_cases h : r = o ∧ s ≤ i ∧ i < s + (n + 1)
  · rw [if_pos h]
    by_cases h2 : r = o ∧ s + 1 ≤ i ∧ i < s + 1 + n
    · rw [if_pos h2]
    · rw [if_neg h2, if_pos (by omega)]
  · rw [if_neg h, if_neg (by omega), if_neg (by omega)]
theorem fil_r {b : xB} {o s n r i : Nat} {v : Int} (h : r ≠ o) : x_fil b o s n v r i = b r i := if_neg (fun e => h e.1)
