/-! ===== bits of floats, read and made by hand ===== -/
theorem ofI_nI (m : Nat) : Int32.ofInt (m : Int) = nI m := by
  apply Int32.toBitVec_inj.mp
  show BitVec.ofInt 32 (m : Int) = BitVec.ofNat 32 m
  exact BitVec.ofInt_natCast ..
theorem x_and_sg {x : Int} (h : x_in x) : x_and x (-2147483648) = 0 ↔ 0 ≤ x := by
  have e := i2f_nat h
  have e1 : ((Int32.ofInt x).toBitVec.toNat : Int) = if x < 0 then x + 4294967296 else x := e
  have hb := (Int32.ofInt x).toBitVec.isLt
  have e2 : (Int32.ofInt x &&& Int32.ofInt (-2147483648)).toBitVec.toNat = (Int32.ofInt x).toBitVec.toNat &&& 2 ^ 31 := by
    rw [Int32.toBitVec_and, BitVec.toNat_and]
    rfl
  have e3 : x_and x (-2147483648) = 0 ↔ (Int32.ofInt x &&& Int32.ofInt (-2147483648)).toBitVec.toNat = 0 := by
    have : x_and x (-2147483648) = (Int32.ofInt x &&& Int32.ofInt (-2147483648)).toBitVec.toInt := rfl
    have hlt := (Int32.ofInt x &&& Int32.ofInt (-2147483648)).toBitVec.isLt
    rw [this, BitVec.toInt_eq_toNat_cond]
    split <;> omega
  have hlo := h.1
  have hhi := h.2
  rw [e3, e2]
  generalize (Int32.ofInt x).toBitVec.toNat = N at *
  have t31 : (N &&& 2 ^ 31).testBit 31 = decide (N / 2147483648 % 2 = 1) := by
    rw [Nat.testBit_and, Nat.testBit_two_pow_self, Bool.and_true, Nat.testBit_eq_decide_div_mod_eq]
  by_cases hx : x < 0
  · rw [if_pos hx] at e1
    rw [decide_eq_true (by omega)] at t31
    constructor
    · intro z
      rw [z, Nat.zero_testBit] at t31
      exact absurd t31 (by decide)
    · intro z
      omega
  · rw [if_neg hx] at e1
    constructor
    · intro _
      omega
    · intro _
      have : N &&& 2 ^ 31 = 0 := by
        apply Nat.eq_of_testBit_eq
        intro i
        rw [Nat.testBit_and, Nat.zero_testBit, Nat.testBit_two_pow]
        by_cases ei : 31 = i
        · subst ei
          rw [Nat.testBit_lt_two_pow (by omega), Bool.false_and]
        · rw [decide_eq_false ei, Bool.and_false]
      exact this
theorem x_ush23 {m : Nat} (h : m < 2147483648) : x_ush (m : Int) 23 = (m / 8388608 : Nat) := by
  unfold x_ush
  rw [ofI_nI, pk_ushrN (by omega) _ 23 (by decide)]
  exact nI_toInt (by omega)
theorem x_or_nat {x y : Nat} (hx : x < 2147483648) (hy : y < 2147483648) : x_or (x : Int) (y : Int) = ((x ||| y : Nat) : Int) := by
  have hlt : x ||| y < 2 ^ 31 := Nat.or_lt_two_pow hx hy
  unfold x_or
  rw [ofI_nI, ofI_nI]
  have e : nI x ||| nI y = nI (x ||| y) := by
    apply Int32.toBitVec_inj.mp
    apply BitVec.eq_of_toNat_eq
    rw [Int32.toBitVec_or, BitVec.toNat_or, pk_tn (by omega), pk_tn (by omega), pk_tn (by omega)]
  rw [e]
  exact nI_toInt hlt
theorem or_top {y : Nat} (k : Nat) (hy : y < 2 ^ k) : 2 ^ k ||| y = 2 ^ k + y := by
  have := Nat.two_pow_add_eq_or_of_lt hy 1
  rw [Nat.mul_one] at this
  exact this.symm
theorem x_or_sg {y : Nat} (hy : y < 2147483648) : x_or (-2147483648) (y : Int) = (y : Int) - 2147483648 := by
  unfold x_or
  rw [ofI_nI]
  have e : (Int32.ofInt (-2147483648) ||| nI y).toBitVec.toNat = 2 ^ 31 + y := by
    rw [Int32.toBitVec_or, BitVec.toNat_or, pk_tn (by omega), show (Int32.ofInt (-2147483648)).toBitVec.toNat = 2 ^ 31 from rfl]
    exact or_top 31 hy
  show (Int32.ofInt (-2147483648) ||| nI y).toBitVec.toInt = _
  rw [BitVec.toInt_eq_toNat_cond, e]
  split <;> omega
theorem x_shl23 {p : Nat} (h : p < 256) : x_shl (p : Int) 23 = ((p * 8388608 : Nat) : Int) ∨ 255 ≤ p := by
  by_cases hp : p < 255
  · left
    unfold x_shl
    rw [ofI_nI, pk_shlN _ 23 (by decide) (by omega)]
    exact nI_toInt (by omega)
  · right
    omega
theorem dec32 {a : UInt32} (hE : a.toNat / 8388608 % 256 ≠ 255) : FP.Core.val32 a = if a.toNat / 8388608 % 256 = 0 then .fin (a.toNat / 8388608 / 256 % 2 == 1) (a.toNat % 8388608) (-149) else .fin (a.toNat / 8388608 / 256 % 2 == 1) (8388608 + a.toNat % 8388608) (-149 + (((a.toNat / 8388608 % 256 : Nat) : Int) - 1)) := if_neg hE
/-- significand and exponent of the bits m, sign left out -/
def bC (m : Nat) : Nat := if m < 8388608 then m else 8388608 + m % 8388608
def bP (m : Nat) : Nat := if m < 8388608 then 1 else m / 8388608
theorem bC_lt (m : Nat) : bC m < 16777216 := by
  unfold bC
  split <;> omega
theorem bP_1 (m : Nat) : 1 ≤ bP m := by
  unfold bP
  split <;> omega
theorem bP_254 {m : Nat} (h : m < 2139095040) : bP m ≤ 254 := by
  unfold bP
  split <;> omega
/-- bits without sign are that float -/
theorem fz_bits {a : UInt32} (h : a.toNat < 2139095040) : fz (bC a.toNat) ((bP a.toNat : Int) - 150) = a := by
  have hp := bP_254 h
  have hp1 := bP_1 a.toNat
  have hv : FP.Core.val32 a = .fin false (bC a.toNat) ((bP a.toNat : Int) - 150) := by
    rw [dec32 (by omega)]
    have hs : (a.toNat / 8388608 / 256 % 2 == 1) = false := by
      rw [show a.toNat / 8388608 / 256 % 2 = 0 by omega]
      rfl
    rw [hs]
    unfold bC bP
    by_cases e : a.toNat < 8388608
    · rw [if_pos (by omega), if_pos e, if_pos e, Nat.mod_eq_of_lt e]
      rfl
    · rw [if_neg (by omega), if_neg e, if_neg e, show a.toNat / 8388608 % 256 = a.toNat / 8388608 by omega]
      congr 1
      omega
  have hf := FP.Core.val32_fits a
  rw [hv] at hf
  refine FP.Core.val32_inj (fz_nn _ _) ?_
  rw [fz_val, hv, FP.Core.round_of_fits FP.Core.good_b32 hf]
theorem fneg_nat (a : UInt32) : (FP.fneg a).toNat = if a.toNat < 2147483648 then a.toNat + 2147483648 else a.toNat - 2147483648 := by
  have ha := a.toNat_lt
  have hx : (FP.fneg a).toNat = a.toNat ^^^ 2 ^ 31 := by
    unfold FP.fneg
    rw [UInt32.toNat_xor]
    rfl
  obtain ⟨h1, h2⟩ := FP.xor_top (a := a.toNat) (k := 31) (by omega)
  rw [hx]
  split
  · rename_i h
    rw [h1 h]
  · rename_i h
    rw [h2 (by omega)]
/-- floatOf -/
theorem V_fO_1 {c : Nat} {v0 v1 : Int} (hc : c < 16777216) {Q : UInt32 → Prop} {K : Int → Int → UInt32 → Prop} : ∀ (d : Nat) (q : Int), q ≤ 0 → -149 ≤ q - d → K v0 v1 (fz c (q - d)) → w_V_floatOf_h33 Q K (d + 1) v0 v1 (fz c q) (150 - (d : Int))
  | 0, q, h0, h1, hK => by
    rw [w_V_floatOf_h33_s]
    simp (disch := omega) only [e_T, e_F, e_t, e_f, e_gd, e_bg0, e_bg1, e_nz, Int.toNat_natCast, Int.toNat_add, Int.toNat_mul, xw_al, xw_ar, xw_ml, xw_mr, xw_sl, xw_sr, xw_id, x_sl_c, mc3, mc6, mc8, mc12, mc64, mc72, Nat.add_assoc, Int.reduceToNat]
    rw [show q - ((0 : Nat) : Int) = q by omega] at hK
    exact hK
  | d + 1, q, h0, h1, hK => by
    have ih := V_fO_1 hc (Q := Q) (K := K) (v0 := v0) (v1 := v1) d (q - 1) (by omega) (by omega) (by rw [show q - 1 - (d : Int) = q - ((d + 1 : Nat) : Int) by omega]; exact hK)
    rw [w_V_floatOf_h33_s, fz_half hc (by omega) (by omega), e_t (by omega), xw_id (by omega) (by omega), show (150 : Int) - ((d + 1 : Nat) : Int) + 1 = 150 - (d : Int) by omega]
    exact ⟨n32_of (fz_nn _ _), ih⟩
theorem V_fO_2 {c : Nat} {v0 : Int} (hc : c < 16777216) {Q : UInt32 → Prop} {K : Int → UInt32 → Prop} : ∀ (d : Nat) (q : Int), -149 ≤ q → q + d ≤ 104 → K v0 (fz c (q + d)) → w_V_floatOf_h55 Q K (d + 1) v0 (fz c q) (150 + (d : Int))
  | 0, q, h0, h1, hK => by
    rw [w_V_floatOf_h55_s]
    simp (disch := omega) only [e_T, e_F, e_t, e_f, e_gd, e_bg0, e_bg1, e_nz, Int.toNat_natCast, Int.toNat_add, Int.toNat_mul, xw_al, xw_ar, xw_ml, xw_mr, xw_sl, xw_sr, xw_id, x_sl_c, mc3, mc6, mc8, mc12, mc64, mc72, Nat.add_assoc, Int.reduceToNat]
    rw [show q + ((0 : Nat) : Int) = q by omega] at hK
    exact hK
  | d + 1, q, h0, h1, hK => by
    have ih := V_fO_2 hc (Q := Q) (K := K) (v0 := v0) d (q + 1) (by omega) (by omega) (by rw [show q + 1 + (d : Int) = q + ((d + 1 : Nat) : Int) by omega]; exact hK)
    rw [w_V_floatOf_h55_s, fz_two hc (by omega) (by omega), e_t (by omega), xw_id (by omega) (by omega), show (150 : Int) + ((d + 1 : Nat) : Int) + -1 = 150 + (d : Int) by omega]
    exact ⟨n32_of (fz_nn _ _), ih⟩
theorem V_fO_j {c p : Nat} {v : Int} (hc : c < 16777216) (hp : 1 ≤ p) (hp' : p ≤ 254) {Q : UInt32 → Prop} (hQ : x_br (x_and v (-2147483648) = 0) (Q (fz c ((p : Int) - 150))) (Q (FP.fneg (fz c ((p : Int) - 150))))) : w_V_floatOf_j27 Q v p c := by
  unfold w_V_floatOf_j27
  rw [fz_i2f hc]
  by_cases h : p ≤ 150
  · refine ⟨(150 - p) + 1, ?_⟩
    have := V_fO_1 (v0 := v) (v1 := p) hc (Q := Q) (K := fun v0_1 v1_2 v3_3 => ∃ n, w_V_floatOf_h55 Q (fun v0_4 v3_5 => x_br ((x_and v0_4 (-2147483648)) = 0) (Q v3_5) (Q (FP.fneg v3_5))) n v0_1 v3_3 v1_2) (150 - p) 0 (by omega) (by omega) ⟨0 + 1, by
      rw [w_V_floatOf_h55_s, e_f (by omega), show (0 : Int) - ((150 - p : Nat) : Int) = (p : Int) - 150 by omega]
      exact hQ⟩
    rw [show (150 : Int) - ((150 - p : Nat) : Int) = (p : Int) by omega] at this
    exact this
  · refine ⟨0 + 1, ?_⟩
    rw [w_V_floatOf_h33_s, e_f (by omega)]
    refine ⟨(p - 150) + 1, ?_⟩
    have := V_fO_2 (v0 := v) hc (Q := Q) (K := fun v0_4 v3_5 => x_br ((x_and v0_4 (-2147483648)) = 0) (Q v3_5) (Q (FP.fneg v3_5))) (p - 150) 0 (by omega) (by omega) (by
      rw [show (0 : Int) + ((p - 150 : Nat) : Int) = (p : Int) - 150 by omega]
      exact hQ)
    rw [show (150 : Int) + ((p - 150 : Nat) : Int) = (p : Int) by omega] at this
    exact this
theorem V_floatOf_i {v : Int} (h : x_in v) (hf : (x_i2f v).toNat % 2147483648 < 2139095040) {Q : UInt32 → Prop} (hQ : Q (x_i2f v)) : w_V_floatOf v Q := by
  have hN := i2f_nat h
  have hlo := h.1
  have hhi := h.2
  have hlt := (x_i2f v).toNat_lt
  have h31 := x_and31 h
  have h23 := x_and23 h
  generalize hm : (x_i2f v).toNat % 2147483648 = m at *
  have fin : x_br (x_and v (-2147483648) = 0) (Q (fz (bC m) ((bP m : Int) - 150))) (Q (FP.fneg (fz (bC m) ((bP m : Int) - 150)))) := by
    by_cases hs : 0 ≤ v
    · rw [e_t ((x_and_sg h).mpr hs)]
      rw [if_neg (by omega)] at hN
      have e : (x_i2f v).toNat = m := by omega
      rw [← e, fz_bits (by omega)]
      exact hQ
    · rw [e_f (fun z => hs ((x_and_sg h).mp z))]
      rw [if_pos (by omega)] at hN
      have e : (FP.fneg (x_i2f v)).toNat = m := by
        rw [fneg_nat, if_neg (by omega)]
        omega
      rw [← e, fz_bits (by omega)]
      have : FP.fneg (FP.fneg (x_i2f v)) = x_i2f v := by
        apply UInt32.toNat_inj.mp
        rw [fneg_nat, e, if_pos (by omega)]
        omega
      rw [this]
      exact hQ
  unfold w_V_floatOf
  rw [h31, x_ush23 (by omega), h23, show (x_i2f v).toNat % 8388608 = m % 8388608 by omega]
  by_cases e : m < 8388608
  · rw [e_t (by omega), show m % 8388608 = bC m by unfold bC; rw [if_pos e]; omega, show (1 : Int) = ((bP m : Nat) : Int) by unfold bP; rw [if_pos e]; rfl]
    exact V_fO_j (bC_lt m) (bP_1 m) (bP_254 hf) fin
  · rw [e_f (by omega), show (8388608 : Int) = ((8388608 : Nat) : Int) from rfl, x_or_nat (by omega) (by omega), Nat.or_comm, show (8388608 : Nat) = 2 ^ 23 from rfl, or_top 23 (by omega), show 2 ^ 23 + m % 2 ^ 23 = bC m by unfold bC; rw [if_neg e], show m / 2 ^ 23 = bP m by unfold bP; rw [if_neg e]]
    exact V_fO_j (bC_lt m) (bP_1 m) (bP_254 hf) fin
