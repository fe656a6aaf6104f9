/-! ===== bitsOf ===== -/
theorem pow_split {a b : Nat} (h : b ≤ a) : 2 ^ a = 2 ^ (a - b) * 2 ^ b := by
  rw [← Nat.pow_add, Nat.sub_add_cancel h]
theorem fz_lt24 {c : Nat} {q : Int} (hc : c < 16777216) (h1 : -149 ≤ q) (h2 : q ≤ 0) : c * 2 ^ (q + 149).toNat < 16777216 * 2 ^ 149 :=
  Nat.lt_of_lt_of_le (Nat.mul_lt_mul_of_pos_right hc (Nat.two_pow_pos _)) (Nat.mul_le_mul_left _ (Nat.pow_le_pow_right (by decide) (by omega)))
theorem fz_ge24 {c : Nat} {q : Int} (hc : 8388608 ≤ c) (h1 : 1 ≤ q) : 16777216 * 2 ^ 149 ≤ c * 2 ^ (q + 149).toNat := by
  have e : 16777216 * 2 ^ 149 = 8388608 * 2 ^ 150 := by decide +kernel
  rw [e]
  exact Nat.mul_le_mul hc (Nat.pow_le_pow_right (by decide) (by omega))
theorem fz_lt23 {c : Nat} {q : Int} (hc : c < 16777216) (h1 : -149 ≤ q) (h2 : q ≤ -1) : c * 2 ^ (q + 149).toNat < 8388608 * 2 ^ 149 := by
  have e : 8388608 * 2 ^ 149 = 16777216 * 2 ^ 148 := by decide +kernel
  rw [e]
  exact Nat.lt_of_lt_of_le (Nat.mul_lt_mul_of_pos_right hc (Nat.two_pow_pos _)) (Nat.mul_le_mul_left _ (Nat.pow_le_pow_right (by decide) (by omega)))
theorem z24 : FP.Core.zval FP.Core.b32 (FP.Core.val32 (UInt32.ofNat (Int.toNat 1266679808))) = ((16777216 * 2 ^ 149 : Nat) : Int) := by decide +kernel
theorem z23 : FP.Core.zval FP.Core.b32 (FP.Core.val32 (UInt32.ofNat (Int.toNat 1258291200))) = ((8388608 * 2 ^ 149 : Nat) : Int) := by decide +kernel
theorem zmx : FP.Core.zval FP.Core.b32 (FP.Core.val32 (UInt32.ofNat (Int.toNat 2139095039))) = ((16777215 * 2 ^ 253 : Nat) : Int) := by decide +kernel
theorem nn24 : FP.Core.val32 (UInt32.ofNat (Int.toNat 1266679808)) ≠ .nan := by decide +kernel
theorem nn23 : FP.Core.val32 (UInt32.ofNat (Int.toNat 1258291200)) ≠ .nan := by decide +kernel
theorem nnmx : FP.Core.val32 (UInt32.ofNat (Int.toNat 2139095039)) ≠ .nan := by decide +kernel
theorem nn0 : FP.Core.val32 FP.fconst0 ≠ .nan := by decide +kernel
theorem z0 : FP.Core.zval FP.Core.b32 (FP.Core.val32 FP.fconst0) = 0 := by decide +kernel
/-- the value of a comparison -/
theorem cmp_lt {a b : UInt32} {op : CmpOp} {x y : Int} (ha : FP.Core.val32 a ≠ .nan) (hb : FP.Core.val32 b ≠ .nan) (hx : FP.Core.zval FP.Core.b32 (FP.Core.val32 a) = x) (hy : FP.Core.zval FP.Core.b32 (FP.Core.val32 b) = y) : ((Op.cmpValue (FP.fcmp a b) op).toInt < 0 ↔ x < y) ∧ (0 < (Op.cmpValue (FP.fcmp a b) op).toInt ↔ y < x) ∧ ((Op.cmpValue (FP.fcmp a b) op).toInt = 0 ↔ x = y) := by
  rw [cv_e ha hb, hx, hy]
  clear hx hy
  split
  · refine ⟨⟨fun _ => by assumption, fun _ => by decide⟩, ⟨fun h => absurd h (by decide), fun h => by omega⟩, ⟨fun h => absurd h (by decide), fun h => by omega⟩⟩
  · split
    · refine ⟨⟨fun h => absurd h (by decide), fun h => by omega⟩, ⟨fun h => absurd h (by decide), fun h => by omega⟩, ⟨fun _ => by assumption, fun _ => rfl⟩⟩
    · refine ⟨⟨fun h => absurd h (by decide), fun h => by omega⟩, ⟨fun _ => by omega, fun _ => by decide⟩, ⟨fun h => absurd h (by decide), fun h => by omega⟩⟩
theorem V_bO_1 {c : Nat} {s : Int} (hc : c < 16777216) {Q : Int → Prop} {K : Int → UInt32 → Int → Prop} : ∀ (d : Nat) (p : Nat), p + d ≤ 254 → 150 ≤ p → 8388608 ≤ c → K s (fz c 0) ((p + d : Nat) : Int) → w_V_bitsOf_h42 Q K (d + 1) s (fz c d) p
  | 0, p, h1, h2, h3, hK => by
    rw [w_V_bitsOf_h42_s]
    by_cases hp : p = 254
    · subst hp
      rw [e_f (by omega)]
      exact hK
    · rw [e_t (by omega), e_t ((cmp_lt (fz_nn _ _) nn24 (fz_z hc (by omega) (by omega)) z24).1.mpr (Int.ofNat_lt.mpr (fz_lt24 hc (by omega) (by omega))))]
      exact hK
  | d + 1, p, h1, h2, h3, hK => by
    have ih := V_bO_1 hc (Q := Q) (K := K) (s := s) d (p + 1) (by omega) (by omega) h3 (by rw [show p + 1 + d = p + (d + 1) by omega]; exact hK)
    rw [w_V_bitsOf_h42_s, e_t (by omega), e_f (fun z => by
      have := (cmp_lt (fz_nn _ _) nn24 (fz_z hc (by omega) (by omega)) z24).1.mp z
      exact absurd (Int.ofNat_lt.mp this) (Nat.not_lt_of_le (fz_ge24 h3 (by omega)))), fz_half hc (by omega) (by omega), xw_id (by omega) (by omega), show (((d + 1 : Nat) : Int) - 1) = (d : Int) by omega, show (p : Int) + 1 = ((p + 1 : Nat) : Int) by omega]
    exact ⟨n32_of (fz_nn _ _), ih⟩
theorem V_bO_2 {c : Nat} {s : Int} (hc : c < 16777216) {Q : Int → Prop} {K : Int → UInt32 → Int → Prop} : ∀ (d : Nat) (p : Nat), d + 1 ≤ p → p ≤ 254 → d ≤ 149 → (8388608 ≤ c ∨ p = d + 1) → K s (fz c 0) ((p - d : Nat) : Int) → w_V_bitsOf_h67 Q K (d + 1) s (fz c (-(d : Int))) p
  | 0, p, h1, h2, h4, h3, hK => by
    rw [w_V_bitsOf_h67_s]
    by_cases hp : p = 1
    · subst hp
      rw [e_f (by omega)]
      exact hK
    · rw [e_t (by omega), e_f (fun z => by
        have := (cmp_lt (fz_nn _ _) nn23 (fz_z hc (by omega) (by omega)) z23).1.mp z
        have := Int.ofNat_lt.mp this
        rw [show (-((0 : Nat) : Int) + 149).toNat = 149 from rfl] at this
        have := Nat.lt_of_mul_lt_mul_right this
        omega)]
      exact hK
  | d + 1, p, h1, h2, h4, h3, hK => by
    have ih := V_bO_2 hc (Q := Q) (K := K) (s := s) d (p - 1) (by omega) (by omega) (by omega) (by omega) (by rw [show p - 1 - d = p - (d + 1) by omega]; exact hK)
    rw [w_V_bitsOf_h67_s, e_t (by omega), e_t ((cmp_lt (fz_nn _ _) nn23 (fz_z hc (by omega) (by omega)) z23).1.mpr (Int.ofNat_lt.mpr (fz_lt23 hc (by omega) (by omega)))), fz_two hc (by omega) (by omega), xw_id (by omega) (by omega), show (-((d + 1 : Nat) : Int) + 1) = -(d : Int) by omega, show (p : Int) + -1 = ((p - 1 : Nat) : Int) by omega]
    exact ⟨n32_of (fz_nn _ _), ih⟩
theorem f2i_fz {c : Nat} (hc : c < 16777216) : (FP.f2i (fz c 0)).toInt = (c : Int) := by
  obtain ⟨c', q', e1, e2, e3⟩ := fz_ex (q := 0) hc (by omega) (by omega)
  have h := FP.Core.f2i_val (fz_nn c 0)
  have hz : FP.Core.zmag FP.Core.b32 (FP.Core.val32 (fz c 0)) = c * FP.Core.one32 := by
    rw [e1]
    show FP.Core.inUnits c' q' FP.Core.b32.qmin = _
    unfold FP.Core.inUnits
    rw [FP.Core.qmin_b32, show q' - -149 = q' + 149 by omega, e2]
    rfl
  have hs : FP.Core.sgn (FP.Core.val32 (fz c 0)) = false := by rw [e1]; rfl
  show (FP.Core.f2i (fz c 0)).toInt = _
  rw [h, hz, hs, Nat.mul_div_cancel _ FP.Core.one32_pos]
  show max (-2 ^ 31) (min (2 ^ 31 - 1) (c : Int)) = c
  omega
theorem nI_or {x y : Nat} (hx : x < 2147483648) (hy : y < 2147483648) : nI x ||| nI y = nI (x ||| y) := by
  have hlt : x ||| y < 2 ^ 31 := Nat.or_lt_two_pow hx hy
  apply Int32.toBitVec_inj.mp
  apply BitVec.eq_of_toNat_eq
  rw [Int32.toBitVec_or, BitVec.toNat_or, pk_tn (by omega), pk_tn (by omega), pk_tn (by omega)]
theorem x_or3 {x y : Nat} (hx : x < 2147483648) (hy : y < 2147483648) : x_or (x_or (-2147483648) (x : Int)) (y : Int) = x_or (-2147483648) ((x ||| y : Nat) : Int) := by
  unfold x_or
  rw [Int32.ofInt_toInt, ofI_nI, ofI_nI, ofI_nI, ← nI_or hx hy, Int32.or_assoc]
theorem bP_or (m : Nat) : (m / 8388608) * 8388608 ||| m % 8388608 = m := by
  have h := Nat.two_pow_add_eq_or_of_lt (i := 23) (b := m % 8388608) (Nat.mod_lt _ (by decide)) (m / 8388608)
  rw [Nat.mul_comm (m / 8388608) 8388608]
  exact h.symm.trans (Nat.div_add_mod m 8388608)
/-- what bitsOf makes of the bits m, with a sign -/
theorem V_bO_j {m : Nat} {s : Int} (hm : m < 2139095040) {Q : Int → Prop} (hQ : Q (x_or s (m : Int))) (hs : s = 0 ∨ s = -2147483648) {a : UInt32} (ha : a.toNat = m) : w_V_bitsOf_j25 Q s a := by
  have hc := bC_lt m
  have hp := bP_254 hm
  have hp1 := bP_1 m
  have hfz : a = fz (bC m) ((bP m : Int) - 150) := by
    rw [← ha]
    exact (fz_bits (by omega)).symm
  have hsub : 8388608 ≤ bC m ∨ bP m = 1 := by
    unfold bC bP
    split <;> omega
  have fin : w_V_bitsOf_j89 Q s (fz (bC m) 0) (bP m) := by
    unfold w_V_bitsOf_j89
    rw [f2i_fz hc]
    by_cases e : m < 8388608
    · have e1 : bC m = m := by unfold bC; rw [if_pos e]
      rw [e1, e_t (by omega)]
      exact hQ
    · have e1 : bC m = 8388608 + m % 8388608 := by unfold bC; rw [if_neg e]
      have e2 : bP m = m / 8388608 := by unfold bP; rw [if_neg e]
      have e3 : x_and (bC m : Int) 8388607 = ((m % 8388608 : Nat) : Int) := by
        have hn := i2f_nat (x := (bC m : Int)) ⟨by omega, by omega⟩
        rw [if_neg (by omega)] at hn
        rw [x_and23 ⟨by omega, by omega⟩]
        omega
      have e4 : x_shl (bP m : Int) 23 = ((bP m * 8388608 : Nat) : Int) := by
        rcases x_shl23 (p := bP m) (by omega) with h | h
        · exact h
        · omega
      rw [e_f (by omega), e3, e4]
      have e5 : bP m * 8388608 ||| m % 8388608 = m := by rw [e2]; exact bP_or m
      rcases hs with rfl | rfl
      · rw [show (0 : Int) = ((0 : Nat) : Int) from rfl, x_or_nat (by omega) (by omega), Nat.zero_or, x_or_nat (by omega) (by omega), e5]
        rw [show (0 : Int) = ((0 : Nat) : Int) from rfl, x_or_nat (by omega) (by omega), Nat.zero_or] at hQ
        exact hQ
      · rw [x_or3 (by omega) (by omega), e5]
        exact hQ
  rw [hfz]
  unfold w_V_bitsOf_j25
  rw [e_f (fun z => by
    have := (cmp_lt (fz_nn _ _) nnmx (fz_z hc (by omega) (by omega)) zmx).2.1.mp z
    have := Int.ofNat_lt.mp this
    have h1 : bC m * 2 ^ ((bP m : Int) - 150 + 149).toNat ≤ 16777215 * 2 ^ 253 := Nat.mul_le_mul (by omega) (Nat.pow_le_pow_right (by decide) (by omega))
    omega)]
  by_cases hge : 150 ≤ bP m
  · have c8 : 8388608 ≤ bC m := by omega
    refine ⟨(bP m - 150) + 1, ?_⟩
    have h1 := V_bO_1 (s := s) hc (Q := Q) (K := fun v1_1 v2_2 v3_3 => ∃ n, w_V_bitsOf_h67 Q (fun v1_4 v2_5 v3_6 => w_V_bitsOf_j89 Q v1_4 v2_5 v3_6) n v1_1 v2_2 v3_3) (bP m - 150) 150 (by omega) (by omega) c8 ⟨0 + 1, by
      have h2 := V_bO_2 (s := s) hc (Q := Q) (K := fun v1_4 v2_5 v3_6 => w_V_bitsOf_j89 Q v1_4 v2_5 v3_6) 0 (bP m) (by omega) (by omega) (by omega) (Or.inl c8) (by rw [Nat.sub_zero]; exact fin)
      rw [show 150 + (bP m - 150) = bP m by omega]
      exact h2⟩
    rw [show ((bP m - 150 : Nat) : Int) = (bP m : Int) - 150 by omega] at h1
    exact h1
  · refine ⟨0 + 1, ?_⟩
    rw [w_V_bitsOf_h42_s, e_t (by decide), e_t ((cmp_lt (fz_nn _ _) nn24 (fz_z hc (by omega) (by omega)) z24).1.mpr (Int.ofNat_lt.mpr (fz_lt24 hc (by omega) (by omega))))]
    refine ⟨(150 - bP m) + 1, ?_⟩
    have h2 := V_bO_2 (s := s) hc (Q := Q) (K := fun v1_4 v2_5 v3_6 => w_V_bitsOf_j89 Q v1_4 v2_5 v3_6) (150 - bP m) 150 (by omega) (by omega) (by omega) (by omega) (by rw [show 150 - (150 - bP m) = bP m by omega]; exact fin)
    rw [show -((150 - bP m : Nat) : Int) = (bP m : Int) - 150 by omega] at h2
    exact h2
theorem zv_sgn {y : UInt32} (hn : FP.Core.val32 y ≠ .nan) (hz : y.toNat % 2147483648 ≠ 0) : FP.Core.zval FP.Core.b32 (FP.Core.val32 y) < 0 ↔ 2147483648 ≤ y.toNat := by
  have h0 : FP.Core.zval FP.Core.b32 (FP.Core.val32 y) ≠ 0 := fun z => hz ((FP.Core.zval_eq_zero32 hn).mp z)
  constructor
  · intro h
    rcases Nat.lt_or_ge y.toNat 2147483648 with e | e
    · have := FP.Core.zval_nonneg32 hn e
      omega
    · exact e
  · intro h
    have := FP.Core.zval_nonpos32 hn h
    omega
/-- bitsOf, but for the 0 below 0 -/
theorem V_bitsOf_i {y : UInt32} (hn : FP.Core.val32 y ≠ .nan) (hy : y.toNat ≠ 2147483648) {Q : Int → Prop} (hQ : Q (x_f2i y)) : w_V_bitsOf y Q := by
  have hlt := y.toNat_lt
  have hm := (FP.Core.ne_nan32 y).mp hn
  have hx := i2f_nat (x := x_f2i y) (x_in_toI _)
  have hlo : -2147483648 ≤ x_f2i y := (x_in_toI _).1
  have hhi : x_f2i y < 2147483648 := (x_in_toI _).2
  rw [i2f_f2i] at hx
  have inf : ∀ (a : UInt32) (s : Int), a.toNat = 2139095040 → Q (x_or s 2139095040) → w_V_bitsOf_j25 Q s a := by
    intro a s ha h
    have e : a = UInt32.ofNat 2139095040 := by
      apply UInt32.toNat_inj.mp
      rw [ha]
      rfl
    subst e
    unfold w_V_bitsOf_j25
    rw [e_t (by decide +kernel)]
    exact h
  unfold w_V_bitsOf w_V_bitsOf_j12
  by_cases hs : y.toNat < 2147483648
  · have hnl : ¬ ((Op.cmpValue (FP.fcmp y FP.fconst0) CmpOp.g).toInt < 0) := fun z => by
      have := (cmp_lt hn nn0 rfl z0).1.mp z
      have := FP.Core.zval_nonneg32 hn hs
      omega
    rw [e_f hnl, e_f hnl]
    have hi : x_f2i y = ((y.toNat : Nat) : Int) := by
      split at hx <;> omega
    rw [hi] at hQ
    by_cases he : y.toNat = 2139095040
    · exact inf y 0 he (by rw [he] at hQ; exact hQ)
    · refine V_bO_j (m := y.toNat) (by omega) ?_ (Or.inl rfl) rfl
      rw [show (0 : Int) = ((0 : Nat) : Int) from rfl, x_or_nat (by omega) (by omega), Nat.zero_or]
      exact hQ
  · have hl : (Op.cmpValue (FP.fcmp y FP.fconst0) CmpOp.g).toInt < 0 := (cmp_lt hn nn0 rfl z0).1.mpr ((zv_sgn hn (by omega)).mpr (by omega))
    rw [e_t hl, e_t hl]
    have hi : x_f2i y = ((y.toNat - 2147483648 : Nat) : Int) - 2147483648 := by
      split at hx <;> omega
    have hng : (FP.fneg y).toNat = y.toNat - 2147483648 := by rw [fneg_nat, if_neg hs]
    rw [hi, ← x_or_sg (by omega)] at hQ
    by_cases he : y.toNat - 2147483648 = 2139095040
    · exact inf (FP.fneg y) (-2147483648) (by omega) (by rw [he] at hQ; exact hQ)
    · exact V_bO_j (m := y.toNat - 2147483648) (by omega) hQ (Or.inr rfl) hng
