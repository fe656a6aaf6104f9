/-! ===== CURVES: what is BENT ===== -/
theorem rr_div {s : Bool} {c1 c2 n1 n2 : Nat} {q1 q2 : Int} (h1 : -149 ≤ q1) (h2 : -149 ≤ q2) (e1 : c1 * 2 ^ (q1 + 149).toNat = n1 * 2 ^ 149) (e2 : c2 * 2 ^ (q2 + 149).toNat = n2 * 2 ^ 149) (hc : 0 < c2) (hn : 0 < n2) : FP.Core.roundRatio FP.Core.b32 s c1 c2 (q1 - q2) = FP.Core.roundRatio FP.Core.b32 s n1 n2 0 := by
  refine FP.Core.roundRatio_congr hc hn ?_
  rw [Int.sub_zero, show (0 : Int) - (q1 - q2) = q2 - q1 by omega]
  have pM : 0 < 2 ^ 149 := Nat.two_pow_pos _
  generalize 2 ^ 149 = M at *
  rcases Int.le_total q2 q1 with h | h
  · rw [show (q2 - q1).toNat = 0 by omega, Nat.pow_zero, Nat.mul_one]
    have hX : 2 ^ (q1 + 149).toNat = 2 ^ (q1 - q2).toNat * 2 ^ (q2 + 149).toNat := by
      rw [← Nat.pow_add]
      congr 1
      omega
    have pY : 0 < 2 ^ (q2 + 149).toNat := Nat.two_pow_pos _
    rw [hX] at e1
    generalize 2 ^ (q1 - q2).toNat = D at *
    generalize 2 ^ (q2 + 149).toNat = Y at *
    refine Nat.eq_of_mul_eq_mul_right (Nat.mul_pos pY pM) ?_
    calc c1 * n2 * D * (Y * M) = (c1 * (D * Y)) * (n2 * M) := by ac_rfl
      _ = (n1 * M) * (c2 * Y) := by rw [e1, e2]
      _ = n1 * c2 * (Y * M) := by ac_rfl
  · rw [show (q1 - q2).toNat = 0 by omega, Nat.pow_zero, Nat.mul_one]
    have hX : 2 ^ (q2 + 149).toNat = 2 ^ (q2 - q1).toNat * 2 ^ (q1 + 149).toNat := by
      rw [← Nat.pow_add]
      congr 1
      omega
    have pY : 0 < 2 ^ (q1 + 149).toNat := Nat.two_pow_pos _
    rw [hX] at e2
    generalize 2 ^ (q2 - q1).toNat = D at *
    generalize 2 ^ (q1 + 149).toNat = Y at *
    refine Nat.eq_of_mul_eq_mul_right (Nat.mul_pos pY pM) ?_
    calc c1 * n2 * (Y * M) = (c1 * Y) * (n2 * M) := by ac_rfl
      _ = (n1 * M) * (c2 * (D * Y)) := by rw [e1, e2]
      _ = n1 * c2 * D * (Y * M) := by ac_rfl
theorem part_ok {n1 n2 : Nat} (h1 : 1 ≤ n1) (h : n1 ≤ n2) (h2 : n2 ≤ 255) : FP.Core.FFin (FP.fdiv (FP.i2f (Int32.ofInt n1)) (FP.i2f (Int32.ofInt n2))) ∧ ¬ FP.Core.FZero (FP.fdiv (FP.i2f (Int32.ofInt n1)) (FP.i2f (Int32.ofInt n2))) ∧ FP.Core.sgn (FP.Core.val32 (FP.fdiv (FP.i2f (Int32.ofInt n1)) (FP.i2f (Int32.ofInt n2)))) = false := by
  rw [fz_i2f (by omega), fz_i2f (by omega)]
  obtain ⟨c1, q1, a1, a2, a3⟩ := fz_ex (c := n1) (q := 0) (by omega) (by omega) (by omega)
  obtain ⟨c2, q2, b1, b2, b3⟩ := fz_ex (c := n2) (q := 0) (by omega) (by omega) (by omega)
  have hv : FP.Core.val32 (FP.fdiv (fz n1 0) (fz n2 0)) = FP.Core.quotient FP.Core.b32 (FP.Core.val32 (fz n1 0)) (FP.Core.val32 (fz n2 0)) := FP.Core.val32_fdiv _ _
  have hc2 : 0 < c2 := by
    rcases Nat.eq_zero_or_pos c2 with e | e
    · rw [e, Nat.zero_mul] at b2
      have := Nat.mul_pos (show 0 < n2 by omega) (Nat.two_pow_pos ((0 : Int) + 149).toNat)
      omega
    · exact e
  rw [a1, b1] at hv
  have hv : FP.Core.val32 (FP.fdiv (fz n1 0) (fz n2 0)) = FP.Core.roundRatio FP.Core.b32 false c1 c2 (q1 - q2) := hv.trans (if_neg (by omega))
  rw [rr_div a3 b3 a2 b2 hc2 (by omega)] at hv
  have hge := FP.Core.zmag_roundRatio_ge FP.Core.good_b32 (s := false) (A := n1) (B := n2) (e := 0) (e0 := -149) (V := .fin false 1 (-149)) (by omega) ⟨by decide, by decide, by decide, Or.inl (by decide)⟩ (by decide) (by decide) (by
    show 1 * 2 ^ ((-149 : Int) - -149).toNat * 2 ^ (FP.Core.b32.qmin - -149).toNat * n2 ≤ n1 * 2 ^ ((0 : Int) - -149).toNat
    rw [FP.Core.qmin_b32]
    show 1 * 1 * 1 * n2 ≤ n1 * 2 ^ 149
    have : 1 * 2 ^ 149 ≤ n1 * 2 ^ 149 := Nat.mul_le_mul_right _ h1
    have : 255 ≤ 2 ^ 149 := by decide +kernel
    omega)
  have hle := FP.Core.zmag_roundRatio_le FP.Core.good_b32 (s := false) (A := n1) (B := n2) (e := 0) (e0 := -149) (V := .fin false (2 ^ 23) (-23)) (by omega) ⟨by decide, by decide, by decide, Or.inr (by decide)⟩ (by decide) (by decide) (by decide) (by
    show n1 * 2 ^ ((0 : Int) - -149).toNat ≤ 2 ^ 23 * 2 ^ ((-23 : Int) - FP.Core.b32.qmin).toNat * 2 ^ (FP.Core.b32.qmin - -149).toNat * n2
    rw [FP.Core.qmin_b32]
    show n1 * 2 ^ 149 ≤ 2 ^ 23 * 2 ^ 126 * 1 * n2
    rw [show 2 ^ 23 * 2 ^ 126 * 1 = 2 ^ 149 by decide +kernel, Nat.mul_comm _ n2]
    exact Nat.mul_le_mul_right _ h)
  have hs := FP.Core.sgn_roundRatio FP.Core.b32 false n1 n2 0
  rw [← hv] at hge hle hs
  refine ⟨?_, ?_, hs⟩
  · rcases FP.Core.roundRatio_cases FP.Core.b32 false n1 n2 0 with ⟨c, q, e⟩ | e
    · exact ⟨false, c, q, hv.trans e⟩
    · rw [hv, e] at hle
      exact absurd hle (by decide +kernel)
  · rintro ⟨s, q, e⟩
    rw [e] at hge
    have h0 : FP.Core.zmag FP.Core.b32 (.fin s 0 q) = 0 := by
      show 0 * _ = 0
      exact Nat.zero_mul _
    rw [h0] at hge
    exact absurd hge (by decide +kernel)
/-- clamped -/
def bentR (m : UInt32) : Int := if (FP.f2i m).toInt < 0 then 0 else if 255 < (FP.f2i m).toInt then 255 else (FP.f2i m).toInt
theorem z255 : FP.Core.zval FP.Core.b32 (FP.Core.val32 (UInt32.ofNat (Int.toNat 1132396544))) = ((255 * 2 ^ 149 : Nat) : Int) := by decide +kernel
theorem nn255 : FP.Core.val32 (UInt32.ofNat (Int.toNat 1132396544)) ≠ .nan := by decide +kernel
theorem finH : FP.Core.FFin (UInt32.ofNat (Int.toNat 1056964608)) := ⟨false, 2 ^ 23, -24, by decide +kernel⟩
theorem f2i_z {m : UInt32} (hn : FP.Core.val32 m ≠ .nan) : (0 ≤ FP.Core.zval FP.Core.b32 (FP.Core.val32 m) → (FP.f2i m).toInt = max (-2 ^ 31) (min (2 ^ 31 - 1) (FP.Core.zval FP.Core.b32 (FP.Core.val32 m) / ((2 ^ 149 : Nat) : Int)))) ∧ (FP.Core.zval FP.Core.b32 (FP.Core.val32 m) ≤ 0 → (FP.f2i m).toInt ≤ 0) := by
  have h : (FP.f2i m).toInt = _ := FP.Core.f2i_val hn
  have ho : FP.Core.one32 = 2 ^ 149 := rfl
  rw [ho] at h
  unfold FP.Core.zval
  generalize FP.Core.zmag FP.Core.b32 (FP.Core.val32 m) = z at *
  have pM : 0 < 2 ^ 149 := Nat.two_pow_pos _
  generalize 2 ^ 149 = M at *
  rw [h]
  cases hs : FP.Core.sgn (FP.Core.val32 m)
  · refine ⟨fun _ => ?_, fun h0 => ?_⟩
    · show max _ (min _ ((z / M : Nat) : Int)) = max _ (min _ ((z : Int) / (M : Int)))
      rw [Int.natCast_ediv]
    · have h0 : (z : Int) ≤ 0 := h0
      have : z = 0 := by omega
      subst this
      show max _ (min _ ((0 / M : Nat) : Int)) ≤ 0
      rw [Nat.zero_div]
      omega
  · refine ⟨fun h0 => ?_, fun _ => ?_⟩
    · have h0 : 0 ≤ -(z : Int) := h0
      have : z = 0 := by omega
      subst this
      show max _ (min _ (-((0 / M : Nat) : Int))) = max _ (min _ (-((0 : Nat) : Int) / (M : Int)))
      rw [Nat.zero_div]
      simp
    · show max _ (min _ (-((z / M : Nat) : Int))) ≤ 0
      generalize z / M = w
      omega
/-- the class's way to clamp -/
theorem bentR_e {m : UInt32} (hn : FP.Core.val32 m ≠ .nan) {Q : Int → Prop} (hQ : Q (bentR m)) : x_br (((Op.cmpValue (FP.fcmp m (UInt32.ofNat (Int.toNat 1132396544))) CmpOp.l).toInt) < 0) (x_br ((0 : Int) < ((Op.cmpValue (FP.fcmp m FP.fconst0) CmpOp.g).toInt)) (Q ((FP.f2i m).toInt)) (Q 0)) (Q 255) := by
  have c1 := (cmp_lt (op := CmpOp.l) hn nn255 rfl z255).1
  have c2 := (cmp_lt (op := CmpOp.g) hn nn0 rfl z0).2.1
  obtain ⟨f1, f2⟩ := f2i_z hn
  unfold bentR at hQ
  have pM : (0 : Int) < ((2 ^ 149 : Nat) : Int) := by decide +kernel
  have e255 : ((255 * 2 ^ 149 : Nat) : Int) = 255 * ((2 ^ 149 : Nat) : Int) := by decide +kernel
  rw [e255] at c1
  generalize ((2 ^ 149 : Nat) : Int) = M at *
  generalize FP.Core.zval FP.Core.b32 (FP.Core.val32 m) = z at *
  generalize (FP.f2i m).toInt = r at *
  by_cases h1 : z < 255 * M
  · rw [e_t (c1.mpr h1)]
    by_cases h2 : 0 < z
    · rw [e_t (c2.mpr h2)]
      have r1 := f1 (by omega)
      have q1 : 0 ≤ z / M := Int.ediv_nonneg (by omega) (by omega)
      have q2 : z / M < 255 := Int.ediv_lt_of_lt_mul pM h1
      rw [if_neg (by omega), if_neg (by omega)] at hQ
      exact hQ
    · rw [e_f (fun z => h2 (c2.mp z))]
      have r1 := f2 (by omega)
      by_cases h3 : r < 0
      · rw [if_pos h3] at hQ
        exact hQ
      · rw [if_neg h3, if_neg (by omega), show r = 0 by omega] at hQ
        exact hQ
  · rw [e_f (fun z => h1 (c1.mp z))]
    have r1 := f1 (by omega)
    have q1 : 255 ≤ z / M := (Int.le_ediv_iff_mul_le pM).mpr (by omega)
    by_cases h3 : 255 < r
    · rw [if_neg (by omega), if_pos h3] at hQ
      exact hQ
    · rw [if_neg (by omega), if_neg h3, show r = 255 by omega] at hQ
      exact hQ
theorem bentR_bd (m : UInt32) : 0 ≤ bentR m ∧ bentR m ≤ 255 := by
  unfold bentR
  repeat' split
  all_goals omega
