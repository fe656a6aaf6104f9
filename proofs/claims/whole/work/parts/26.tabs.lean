/-! ===== the tables of the small machine hold of the class files: checked by the kernel ===== -/
def x_wq (i : Nat) (w : Cond) : Bool := decide (lw_tbl[i]? = some w) && goodWord w
theorem x_wq_of {i : Nat} {w : Cond} (h : x_wq i w = true) : w ∈ x_Ts := by
  unfold x_wq at h
  rw [Bool.and_eq_true] at h
  exact x_Ts_of (List.mem_of_getElem? (of_decide_eq_true h.1)) h.2
def x_ln (i : Instr) : Option Nat := match i with
  | .aload _ | .iload _ | .fload _ | .astore _ | .istore _ | .fstore _ | .bipush _ | .ldc _ => some 2
  | .iinc _ _ | .sipush _ | .ldc_w _ | .ifCond _ _ | .if_icmp _ _ | .goto _ | .getfield _ | .putfield _ | .invokevirtual _ | .invokestatic _ => some 3
  | .tableswitch _ _ _ _ | .lookupswitch _ _ => none
  | _ => some 1
def x_xj (pc : Nat) (off : Int) (ex : List (Int × Nat)) : Bool := match ex with
  | (_, t) :: _ => decide ((pc : Int) + off = (t : Int))
  | _ => false
def x_xc (own : String) (ix : Nat) (ex : List (Int × Nat)) : Bool := match ex with
  | (v, 0) :: (_, wi) :: _ => decide (-2147483648 ≤ v ∧ v < 2147483648) && x_wq (wi + 89) (.constant own ix (Int32.ofInt v))
  | (v, 1) :: (_, wi) :: _ => x_wq (wi + 89) (.constantFloat own ix (UInt32.ofNat v.toNat))
  | _ => false
def x_xf (own : String) (ix : Nat) (ex : List (Int × Nat)) : Bool := match ex with
  | (wi, k) :: (_, ci) :: _ => (match vwCl[ci]? with
    | some z => decide (k < z.2.2) && x_wq (wi.toNat + 89) (.fieldLink own ix (z.2.1 k).1 (z.2.1 k).2.1 (z.2.1 k).2.2.1)
    | none => false)
  | _ => false
def x_xt (pc : Nat) (d lo hi : Int) (offs : Array Int) (ex : List (Int × Nat)) : Bool := match ex with
  | (_, t) :: ps => decide ((pc : Int) + d = (t : Int)) && ps.all (fun z => decide (lo ≤ z.1 ∧ z.1 ≤ hi) && (match offs[(z.1 - lo).toNat]? with | some off => decide ((pc : Int) + off = (z.2 : Int)) | none => false)) && (List.range (hi - lo + 1).toNat).all (fun j => ps.any (fun z => decide (z.1 = lo + (j : Int))))
  | _ => false
def x_xl (pc : Nat) (d : Int) (pr : Array (Int × Int)) (ex : List (Int × Nat)) : Bool := match ex with
  | (_, t) :: ps => (pr.toList.zip (pr.toList.drop 1)).all (fun (a, next) => a.1 < next.1) && decide ((pc : Int) + d = (t : Int)) && ps.all (fun z => decide ((pc : Int) + Op.lookupswitch.offset pr.toList d z.1 = (z.2 : Int))) && pr.toList.all (fun z => ps.any (fun w => decide (w.1 = z.1)))
  | _ => false
def x_xv (own : String) (ix : Nat) (ex : List (Int × Nat)) : Bool := match ex with
  | (wi, k) :: (_, n) :: (_, ci) :: _ => (match x_mg x_ms k, vwCl[ci]? with
    | some q, some z => x_wq (wi.toNat + 89) (.methodLink own ix q.1) && decide (z.1 = q.1.cls) && Nat.beq n (q.2.2.2.2.2.1 + 1) && !q.2.2.2.2.1
    | _, _ => false)
  | _ => false
def x_xs (own : String) (ix : Nat) (ex : List (Int × Nat)) : Bool := match ex with
  | (wi, k) :: (_, n) :: (_, 0) :: _ => (match x_mg x_ms k with
    | some q => x_wq (wi.toNat + 89) (.methodLink own ix q.1) && Nat.beq n q.2.2.2.2.2.1 && q.2.2.2.2.1
    | _ => false)
  | (wi, _) :: _ :: (_, 1) :: _ => x_wq (wi.toNat + 89) (.methodLink own ix ⟨"java/lang/Float", "floatToRawIntBits", "(F)I"⟩)
  | (wi, _) :: _ :: (_, 2) :: _ => x_wq (wi.toNat + 89) (.methodLink own ix ⟨"java/lang/Float", "intBitsToFloat", "(I)F"⟩)
  | _ => false
def x_ext (own : String) (pc : Nat) (i : Instr) (ex : List (Int × Nat)) : Bool := match i with
  | .iconst v => decide (-2147483648 ≤ v ∧ v < 2147483648)
  | .bipush v => decide (-128 ≤ v ∧ v < 128)
  | .sipush v => decide (-32768 ≤ v ∧ v < 32768)
  | .ldc n => x_xc own n ex
  | .ldc_w n => x_xc own n ex
  | .ifCond _ off => x_xj pc off ex
  | .if_icmp _ off => x_xj pc off ex
  | .goto off => x_xj pc off ex
  | .tableswitch d lo hi offs => x_xt pc d lo hi offs ex
  | .lookupswitch d pr => x_xl pc d pr ex
  | .getfield n => x_xf own n ex
  | .putfield n => x_xf own n ex
  | .invokevirtual n => x_xv own n ex
  | .invokestatic n => x_xs own n ex
  | _ => true
def x_ce (own : String) (cc : ByteArray) (pc : Nat) (en : xE) : Bool := (match x_ln en.1 with
  | some n => Nat.beq en.2.1 (pc + n) && decide (decode cc pc = .ok (en.1, n))
  | none => decide (decode cc pc = .ok (en.1, en.2.1 - pc))) && x_ext own pc en.1 en.2.2.1
def x_cr (own : String) (cc : ByteArray) (cd : Nat → Option xE) (lo n : Nat) : Bool := (List.range n).all (fun j => match cd (lo + j) with
  | none => true
  | some en => x_ce own cc (lo + j) en)
def x_mck (q : xQ) (a b c d : Nat) : Bool := x_wq a (.code q.1 q.2.1 q.2.2.1 q.2.2.2.1) && x_wq b (.initialized q.1.cls) && (if q.2.2.2.2.1 then x_wq c (.static q.1) else x_wq c (.instanceMethod q.1) && x_wq d (.selects q.1.cls q.1 q.1)) && Jvm.plainFor q.1 && decide (q.1.cls ≠ "java/lang/invoke/MethodHandle") && decide (q.1.cls ≠ "java/lang/invoke/VarHandle") && decide ((parseMethodDescriptor q.1.desc).map (fun d => d.parameters.length) = some q.2.2.2.2.2.1) && Nat.ble (q.2.2.2.2.2.1 + (if q.2.2.2.2.1 then 0 else 1)) q.2.2.1 && Nat.ble q.2.2.1 12
def x_mok (q : xQ) : Prop := (∃ a b c d, x_mck q a b c d = true) ∧ x_cr q.1.cls q.2.1 q.2.2.2.2.2.2.2 0 q.2.2.2.2.2.2.1 = true ∧ (∀ pc, q.2.2.2.2.2.2.1 ≤ pc → q.2.2.2.2.2.2.2 pc = none)
theorem x_none {n : Nat} {f : Nat → Option xE} : ∀ pc, n ≤ pc → (fun pc => bif Nat.blt pc n then f pc else none) pc = none := by
  intro pc h
  have : Nat.blt pc n = false := by
    cases hb : Nat.blt pc n
    · rfl
    · rw [Nat.blt_eq] at hb; omega
  show (bif Nat.blt pc n then f pc else none) = none
  rw [this]
  rfl
