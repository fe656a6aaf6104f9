/-! ===== floats: halving and doubling are exact; comparisons ===== -/
theorem rr_congr {f : FP.Core.Fmt} {s : Bool} {c1 c2 : Nat} {q1 q2 K : Int} (h1 : 0 ≤ q1 + K) (h2 : 0 ≤ q2 + K) (h : c1 * 2 ^ (q1 + K).toNat = c2 * 2 ^ (q2 + K).toNat) : FP.Core.roundRatio f s c1 1 q1 = FP.Core.roundRatio f s c2 1 q2 := by
  refine FP.Core.roundRatio_congr (by decide) (by decide) ?_
  rw [Nat.mul_one, Nat.mul_one]
  rcases Int.le_total q1 q2 with e | e
  · rw [show (q1 - q2).toNat = 0 by omega, Nat.pow_zero, Nat.mul_one]
    refine Nat.eq_of_mul_eq_mul_right (Nat.two_pow_pos (q1 + K).toNat) ?_
    rw [h, Nat.mul_assoc, ← Nat.pow_add, show (q2 - q1).toNat + (q1 + K).toNat = (q2 + K).toNat by omega]
  · rw [show (q2 - q1).toNat = 0 by omega, Nat.pow_zero, Nat.mul_one]
    refine Nat.eq_of_mul_eq_mul_right (Nat.two_pow_pos (q2 + K).toNat) ?_
    rw [← h, Nat.mul_assoc, ← Nat.pow_add, show (q1 - q2).toNat + (q2 + K).toNat = (q1 + K).toNat by omega]
/-- the float c * 2^q -/
def fz (c : Nat) (q : Int) : UInt32 := FP.Core.of32 (FP.Core.round FP.Core.b32 (.fin false c q))
theorem fz_val (c : Nat) (q : Int) : FP.Core.val32 (fz c q) = FP.Core.round FP.Core.b32 (.fin false c q) := FP.Core.val32_of32 (FP.Core.round_fits FP.Core.good_b32 _)
theorem fz_ex {c : Nat} {q : Int} (hc : c < 16777216) (h1 : -149 ≤ q) (h2 : q ≤ 104) : ∃ c' q', FP.Core.val32 (fz c q) = .fin false c' q' ∧ c' * 2 ^ (q' + 149).toNat = c * 2 ^ (q + 149).toNat ∧ -149 ≤ q' := by
  have hq : FP.Core.b32.qmax = 104 := by decide
  obtain ⟨c', q', e1, e2⟩ := FP.Core.round_exact FP.Core.good_b32 false (c := c) (q := q) (show c < 2 ^ 24 from hc) (by rw [FP.Core.qmin_b32]; exact h1) (by rw [hq]; exact h2)
  refine ⟨c', q', by rw [fz_val]; exact e1, ?_, ?_⟩
  · unfold FP.Core.inUnits at e2
    rw [FP.Core.qmin_b32] at e2
    rw [show q' + 149 = q' - -149 by omega, show q + 149 = q - -149 by omega]
    exact e2
  · have hf := FP.Core.round_fits FP.Core.good_b32 (.fin false c q)
    rw [e1] at hf
    have := hf.2.1
    rw [FP.Core.qmin_b32] at this
    exact this
theorem fz_mul {c : Nat} {q k : Int} {x : UInt32} (hx : FP.Core.val32 x = .fin false (2 ^ 23) (k - 23)) (hk : -1 ≤ k) (hk' : k ≤ 1) (hc : c < 16777216) (h1 : -149 ≤ q) (h2 : q ≤ 104) : FP.fmul (fz c q) x = fz c (q + k) := by
  show FP.Core.of32 (FP.Core.round FP.Core.b32 (FP.Core.exactProduct (FP.Core.val32 (fz c q)) (FP.Core.val32 x))) = FP.Core.of32 (FP.Core.round FP.Core.b32 (.fin false c (q + k)))
  obtain ⟨c', q', e1, e2, e3⟩ := fz_ex hc h1 h2
  rw [e1, hx]
  refine congrArg FP.Core.of32 ?_
  show FP.Core.roundRatio FP.Core.b32 false (c' * 2 ^ 23) 1 (q' + (k - 23)) = FP.Core.roundRatio FP.Core.b32 false c 1 (q + k)
  refine rr_congr (K := 300) (by omega) (by omega) ?_
  rw [show (q' + (k - 23) + 300).toNat = (q' + 149).toNat + (128 + k).toNat by omega, show (q + k + 300).toNat = (q + 149).toNat + (23 + (128 + k).toNat) by omega, Nat.pow_add, Nat.mul_mul_mul_comm, e2, Nat.mul_assoc, ← Nat.pow_add, ← Nat.pow_add]
theorem fz_half {c : Nat} {q : Int} (hc : c < 16777216) (h1 : -149 ≤ q) (h2 : q ≤ 104) : FP.fmul (fz c q) (UInt32.ofNat (Int.toNat 1056964608)) = fz c (q - 1) := fz_mul (k := -1) (by decide +kernel) (by omega) (by omega) hc h1 h2
theorem fz_two {c : Nat} {q : Int} (hc : c < 16777216) (h1 : -149 ≤ q) (h2 : q ≤ 104) : FP.fmul (fz c q) FP.fconst2 = fz c (q + 1) := fz_mul (k := 1) (by decide +kernel) (by omega) (by omega) hc h1 h2
theorem n32_of {a : UInt32} (h : FP.Core.val32 a ≠ .nan) : vf_n32 a := by
  have := (FP.Core.ne_nan32 a).mp h
  unfold vf_n32
  rw [UInt32.le_iff_toNat_le, FP.Core.mask_toNat32]
  exact this
theorem n32_iff {a : UInt32} (h : FP.Core.fIsNaN a = false) : FP.Core.val32 a ≠ .nan := (FP.Core.notNaN_iff32 a).mp h
theorem fz_nn (c : Nat) (q : Int) : FP.Core.val32 (fz c q) ≠ .nan := by
  rw [fz_val]
  exact FP.Core.roundRatio_ne_nan _ _ _ _ _
theorem fz_i2f {c : Nat} (hc : c < 16777216) : FP.i2f (Int32.ofInt (c : Int)) = fz c 0 := by
  show FP.Core.of32 (FP.Core.round FP.Core.b32 (FP.Core.ofInt (Int32.ofInt (c : Int)).toInt)) = _
  rw [x_toI ⟨by omega, by omega⟩]
  show FP.Core.of32 (FP.Core.round FP.Core.b32 (.fin (decide ((c : Int) < 0)) (c : Int).natAbs 0)) = _
  rw [decide_eq_false (by omega), Int.natAbs_natCast]
  rfl
theorem fz_z {c : Nat} {q : Int} (hc : c < 16777216) (h1 : -149 ≤ q) (h2 : q ≤ 104) : FP.Core.zval FP.Core.b32 (FP.Core.val32 (fz c q)) = ((c * 2 ^ (q + 149).toNat : Nat) : Int) := by
  obtain ⟨c', q', e1, e2, e3⟩ := fz_ex hc h1 h2
  rw [e1]
  show ((FP.Core.inUnits c' q' FP.Core.b32.qmin : Nat) : Int) = _
  unfold FP.Core.inUnits
  rw [FP.Core.qmin_b32, show q' - -149 = q' + 149 by omega, e2]
/-- compared -/
theorem cv_e {a b : UInt32} {op : CmpOp} (ha : FP.Core.val32 a ≠ .nan) (hb : FP.Core.val32 b ≠ .nan) : (Op.cmpValue (FP.fcmp a b) op).toInt = if FP.Core.zval FP.Core.b32 (FP.Core.val32 a) < FP.Core.zval FP.Core.b32 (FP.Core.val32 b) then -1 else if FP.Core.zval FP.Core.b32 (FP.Core.val32 a) = FP.Core.zval FP.Core.b32 (FP.Core.val32 b) then 0 else 1 := by
  have e : FP.fcmp a b = some (compare (FP.Core.zval FP.Core.b32 (FP.Core.val32 a)) (FP.Core.zval FP.Core.b32 (FP.Core.val32 b))) := FP.Core.fcmp_zval ha hb
  rw [e]
  generalize FP.Core.zval FP.Core.b32 (FP.Core.val32 a) = x
  generalize FP.Core.zval FP.Core.b32 (FP.Core.val32 b) = y
  rcases Int.lt_trichotomy x y with h | h | h
  · rw [(FP.Core.compare_lt_iff x y).mpr h, if_pos h]
    cases op <;> rfl
  · rw [(FP.Core.compare_eq_iff x y).mpr h, if_neg (by omega), if_pos h]
    cases op <;> rfl
  · rw [(FP.Core.compare_gt_iff x y).mpr h, if_neg (by omega), if_neg (by omega)]
    cases op <;> rfl
/-! bits as ints -/
theorem i2f_f2i (f : UInt32) : x_i2f (x_f2i f) = f := by
  unfold x_i2f x_f2i
  rw [Int32.ofInt_toInt]
  rfl
theorem f2i_i2f {x : Int} (h : x_in x) : x_f2i (x_i2f x) = x := by
  unfold x_i2f x_f2i
  show (Int32.ofInt x).toInt = x
  exact x_toI h
theorem i2f_nat {x : Int} (h : x_in x) : ((x_i2f x).toNat : Int) = if x < 0 then x + 4294967296 else x := by
  unfold x_i2f
  have e := x_toI h
  have h1 : ((Int32.ofInt x).toUInt32.toNat : Int) = ((Int32.ofInt x).toBitVec.toNat : Int) := rfl
  have h2 : (Int32.ofInt x).toBitVec.toInt = x := e
  rw [h1]
  have h3 := (Int32.ofInt x).toBitVec.isLt
  rw [BitVec.toInt_eq_toNat_cond] at h2
  obtain ⟨g1, g2⟩ := h
  split at h2 <;> split <;> omega
theorem x_and_lo {x : Int} (h : x_in x) (k : Nat) (hk : k ≤ 31) (hm : ((2 ^ k - 1 : Nat) : Int) < 2147483648) : x_and x ((2 ^ k - 1 : Nat) : Int) = ((x_i2f x).toNat % 2 ^ k : Nat) := by
  unfold x_and
  have hmm : (Int32.ofInt ((2 ^ k - 1 : Nat) : Int)).toBitVec.toNat = 2 ^ k - 1 := by
    have := i2f_nat (x := ((2 ^ k - 1 : Nat) : Int)) ⟨by omega, hm⟩
    rw [if_neg (by omega)] at this
    have e : ((Int32.ofInt ((2 ^ k - 1 : Nat) : Int)).toBitVec.toNat : Int) = ((2 ^ k - 1 : Nat) : Int) := this
    omega
  rw [pk_and _ k hmm, nI_toInt (Nat.lt_of_lt_of_le (Nat.mod_lt _ (Nat.two_pow_pos k)) (Nat.pow_le_pow_right (by decide) hk))]
  rfl
theorem x_and31 {x : Int} (h : x_in x) : x_and x 2147483647 = ((x_i2f x).toNat % 2147483648 : Nat) := x_and_lo h 31 (by decide) (by decide)
theorem x_and23 {x : Int} (h : x_in x) : x_and x 8388607 = ((x_i2f x).toNat % 8388608 : Nat) := x_and_lo h 23 (by decide) (by decide)
