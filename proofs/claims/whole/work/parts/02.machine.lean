/-! ===== the small machine: values, memory, one instruction, a run; it speaks of the cells by numbers (tag, place, sub) ===== -/
abbrev xId : Type := Nat × Nat × Nat
abbrev xV : Type := Int ⊕ (UInt32 ⊕ xId)
abbrev xB : Type := Nat → Nat → Int
abbrev xM : Type := xB × xB × xB × xB
abbrev xE : Type := Instr × List (Int × Nat) × Option (List Bool)
abbrev xL : Type := List (Option xV)
abbrev xR : Type := Option xV → xM → Prop
abbrev xH : Type := Nat → List xV → xM → xR → Prop
abbrev xN : Type := Nat → xL → List xV → xM → Prop
/-- 32 bits -/
def xw (z : Int) : Int := z.bmod 4294967296
def x_up (b : xB) (r i : Nat) (v : Int) : xB := fun r' i' => if r' = r ∧ i' = i then v else b r' i'
def x_rd (M : xM) (t r i : Nat) : Int := match t with
  | 0 => M.1 r i
  | 1 => M.2.1 r i
  | 2 => M.2.2.1 r i
  | _ => M.2.2.2 r i
def x_wr (M : xM) (t r i : Nat) (v : Int) : xM := match t with
  | 0 => (x_up M.1 r i v, M.2.1, M.2.2.1, M.2.2.2)
  | 1 => (M.1, x_up M.2.1 r i v, M.2.2.1, M.2.2.2)
  | 2 => (M.1, M.2.1, x_up M.2.2.1 r i v, M.2.2.2)
  | _ => (M.1, M.2.1, M.2.2.1, x_up M.2.2.2 r i v)
def x_sl (u n i : Nat) : Nat := match u with
  | 0 => i
  | u + 1 => i + (u + 1) * n
def x_i2f (x : Int) : UInt32 := (Int32.ofInt x).toUInt32
def x_f2i (f : UInt32) : Int := f.toInt32.toInt
def x_and (x y : Int) : Int := (Int32.ofInt x &&& Int32.ofInt y).toInt
def x_or (x y : Int) : Int := (Int32.ofInt x ||| Int32.ofInt y).toInt
def x_xor (x y : Int) : Int := (Int32.ofInt x ^^^ Int32.ofInt y).toInt
def x_shl (x y : Int) : Int := (Int32.ofInt x <<< (Int32.ofInt y &&& 31)).toInt
def x_ush (x y : Int) : Int := ((Int32.ofInt x).toUInt32 >>> ((Int32.ofInt y).toUInt32 &&& Int32.toUInt32 31)).toInt32.toInt
def x_isb (x : Int) : Bool := match x with
  | .ofNat 0 => true
  | .ofNat 1 => true
  | _ => false
def x_bg (x : Int) (P : Prop) : Prop := bif x_isb x then P else False
def x_isz (x : Int) : Bool := match x with
  | .ofNat 0 => true
  | _ => false
def x_nz (x : Int) (P : Prop) : Prop := bif x_isz x then False else P
def x_nth : xL → Nat → Option xV
  | [], _ => none
  | a :: _, 0 => a
  | _ :: l, n + 1 => x_nth l n
def x_set : xL → Nat → xV → xL
  | [], _, _ => []
  | _ :: l, 0, v => some v :: l
  | a :: l, n + 1, v => a :: x_set l n v
def x_mz : List Bool → xL → xL
  | [], L => L
  | _ :: _, [] => []
  | true :: bs, a :: L => a :: x_mz bs L
  | false :: bs, _ :: L => none :: x_mz bs L
def x_msk (m : Option (List Bool)) (L : xL) : xL := match m with
  | none => L
  | some bs => x_mz bs L
def x_pop : Nat → List xV → List xV → Option (List xV × List xV)
  | 0, acc, st => some (acc, st)
  | _ + 1, _, [] => none
  | n + 1, acc, v :: st => x_pop n (v :: acc) st
def x_ps (v : Option xV) (r : List xV) : List xV := match v with
  | none => r
  | some v => v :: r
def x_br (c A B : Prop) : Prop := (c → A) ∧ (¬ c → B)
def x_cmp (c : ClassFile.Cond) (x y : Int) (A B : Prop) : Prop := match c with
  | .eq => x_br (x = y) A B
  | .ne => x_br (x = y) B A
  | .lt => x_br (x < y) A B
  | .ge => x_br (x < y) B A
  | .gt => x_br (y < x) A B
  | .le => x_br (y < x) B A
def x_sw (P : Nat → Prop) (x : Int) (d : Nat) : List (Int × Nat) → Prop
  | [] => P d
  | (v, t) :: l => x_br (x = v) (P t) (x_sw P x d l)
/-- arrays by place: kind (0 int, 1 boolean, 2 float, 3 playbacks), length -/
def x_ar (o : Nat) : Option (Nat × Nat) := match o with
  | 7 => some (3, 4)
  | 10 => some (0, 7)
  | 11 => some (0, 256)
  | 12 => some (0, 4)
  | 13 => some (1, 4)
  | 14 => some (0, 4)
  | 15 => some (0, 4)
  | 16 => some (1, 4)
  | 17 => some (0, 24)
  | 18 => some (0, 24)
  | 19 => some (0, 24)
  | 20 => some (0, 144)
  | 21 => some (0, 24)
  | 22 => some (0, 24)
  | 23 => some (0, 216)
  | 24 => some (0, 475)
  | 25 => some (0, 24)
  | 26 => some (0, 24)
  | 27 => some (1, 24)
  | 28 => some (0, 24)
  | 29 => some (0, 4)
  | 30 => some (0, 32)
  | 31 => some (0, 32)
  | 32 => some (1, 32)
  | 33 => some (2, 32)
  | 34 => some (0, 16)
  | 35 => some (0, 192)
  | 36 => some (0, 192)
  | 37 => some (0, 192)
  | 38 => some (0, 192)
  | 39 => some (0, 4)
  | 40 => some (0, 32)
  | 41 => some (0, 32)
  | 42 => some (0, 72)
  | 43 => some (0, 72)
  | 44 => some (1, 72)
  | 45 => some (0, 72)
  | 46 => some (1, 72)
  | 47 => some (0, 72)
  | 48 => some (0, 72)
  | 49 => some (0, 72)
  | 50 => some (0, 72)
  | 51 => some (0, 72)
  | 52 => some (0, 72)
  | 62 => some (0, 120)
  | 63 => some (0, 600)
  | 71 => some (0, 3779)
  | 72 => some (0, 3779)
  | 73 => some (0, 720)
  | 74 => some (0, 216)
  | 75 => some (0, 4)
  | 76 => some (0, 4)
  | 77 => some (0, 600)
  | 78 => some (0, 72)
  | _ => none
/-- the fields of an object's place, in the order of the slots: kind (0 int, 1 boolean, 2 the place beside it, 3 the first board, 4 the second), the place -/
def x_fs (o : Nat) : List (Nat × Nat) := match o with
  | 0 => [(2, 1), (2, 2), (2, 3), (2, 4), (2, 5), (2, 6), (2, 7), (2, 8), (0, 0), (0, 0), (0, 0)]
  | 1 => [(2, 10)]
  | 2 => [(2, 1), (2, 11), (2, 12), (2, 13), (2, 14), (2, 15), (2, 16)]
  | 3 => [(2, 1), (0, 0), (0, 0), (2, 17), (2, 18), (2, 19), (2, 20), (2, 21), (2, 22), (2, 23), (0, 0), (2, 24), (0, 0), (1, 0)]
  | 4 => [(2, 1), (2, 3), (2, 25), (2, 26), (2, 27), (2, 28), (0, 0)]
  | 5 => [(2, 29), (2, 30), (2, 31), (2, 32), (2, 33), (0, 0), (0, 0)]
  | 6 => [(2, 3), (2, 34), (2, 35), (2, 36), (2, 37), (2, 38), (2, 39), (2, 40), (2, 41)]
  | 8 => [(2, 1), (2, 2), (2, 3), (2, 4), (2, 5), (2, 7), (2, 42), (2, 43), (2, 44), (2, 45), (2, 46), (0, 0), (1, 0)]
  | 9 => [(0, 0), (0, 0), (0, 0), (0, 0), (0, 0), (0, 0), (0, 0), (0, 0), (1, 0), (2, 47), (2, 48), (2, 49), (2, 50), (2, 51), (2, 52)]
  | 60 => [(2, 61), (3, 0), (4, 0)]
  | 61 => [(2, 62), (2, 63), (0, 0)]
  | 70 => [(2, 71), (2, 72), (2, 73), (0, 0), (1, 0), (2, 74), (0, 0), (0, 0), (2, 75), (2, 76), (2, 77), (0, 0), (2, 78)]
  | _ => []
/-- the number, in vwCl, of the kind of object at a place -/
def x_cn (o : Nat) : Nat := match o with
  | 0 => 0
  | 61 => 1
  | 6 => 2
  | 5 => 3
  | 1 => 4
  | 2 => 5
  | 8 => 6
  | 4 => 7
  | 9 => 8
  | 3 => 9
  | 60 => 10
  | 70 => 11
  | _ => 99
def x_fn : List (Nat × Nat) → Nat → Nat × Nat
  | [], _ => (9, 0)
  | a :: _, 0 => a
  | _ :: l, n + 1 => x_fn l n
def x_fk (o k : Nat) : Nat × Nat := x_fn (x_fs o) k
def x_ldi (N : xN) (pc i : Nat) (L : xL) (st : List xV) (M : xM) : Prop := match x_nth L i with
  | some (.inl x) => N pc L (.inl x :: st) M
  | _ => False
def x_ldf (N : xN) (pc i : Nat) (L : xL) (st : List xV) (M : xM) : Prop := match x_nth L i with
  | some (.inr (.inl x)) => N pc L (.inr (.inl x) :: st) M
  | _ => False
def x_lda (N : xN) (pc i : Nat) (L : xL) (st : List xV) (M : xM) : Prop := match x_nth L i with
  | some (.inr (.inr x)) => N pc L (.inr (.inr x) :: st) M
  | _ => False
def x_sti (N : xN) (pc i : Nat) (L : xL) (st : List xV) (M : xM) : Prop := match st with
  | .inl x :: r => bif Nat.blt i L.length then N pc (x_set L i (.inl x)) r M else False
  | _ => False
def x_stf (N : xN) (pc i : Nat) (L : xL) (st : List xV) (M : xM) : Prop := match st with
  | .inr (.inl x) :: r => bif Nat.blt i L.length then N pc (x_set L i (.inr (.inl x))) r M else False
  | _ => False
def x_sta (N : xN) (pc i : Nat) (L : xL) (st : List xV) (M : xM) : Prop := match st with
  | .inr (.inr x) :: r => bif Nat.blt i L.length then N pc (x_set L i (.inr (.inr x))) r M else False
  | _ => False
def x_inc (N : xN) (pc i : Nat) (z : Int) (L : xL) (st : List xV) (M : xM) : Prop := match x_nth L i with
  | some (.inl x) => bif Nat.blt i L.length then N pc (x_set L i (.inl (xw (x + z)))) st M else False
  | _ => False
def x_ii (N : xN) (pc : Nat) (f : Int → Int → Int) (L : xL) (st : List xV) (M : xM) : Prop := match st with
  | .inl y :: .inl x :: r => N pc L (.inl (f x y) :: r) M
  | _ => False
def x_iz (N : xN) (pc : Nat) (f : Int → Int → Int) (L : xL) (st : List xV) (M : xM) : Prop := match st with
  | .inl y :: .inl x :: r => x_nz y (N pc L (.inl (f x y) :: r) M)
  | _ => False
def x_ff (N : xN) (pc : Nat) (f : UInt32 → UInt32 → UInt32) (L : xL) (st : List xV) (M : xM) : Prop := match st with
  | .inr (.inl y) :: .inr (.inl x) :: r => vf_n32 (f x y) ∧ N pc L (.inr (.inl (f x y)) :: r) M
  | _ => False
def x_fl1 (N : xN) (pc : Nat) (f : UInt32 → xV) (L : xL) (st : List xV) (M : xM) : Prop := match st with
  | .inr (.inl x) :: r => N pc L (f x :: r) M
  | _ => False
def x_in1 (N : xN) (pc : Nat) (f : Int → xV) (L : xL) (st : List xV) (M : xM) : Prop := match st with
  | .inl x :: r => N pc L (f x :: r) M
  | _ => False
def x_fc (N : xN) (pc : Nat) (op : CmpOp) (L : xL) (st : List xV) (M : xM) : Prop := match st with
  | .inr (.inl y) :: .inr (.inl x) :: r => N pc L (.inl (Op.cmpValue (FP.fcmp x y) op).toInt :: r) M
  | _ => False
def x_if1 (N : xN) (pc : Nat) (c : ClassFile.Cond) (ex : List (Int × Nat)) (L : xL) (st : List xV) (M : xM) : Prop := match ex, st with
  | (_, t) :: _, .inl x :: r => x_cmp c x 0 (N t L r M) (N pc L r M)
  | _, _ => False
def x_if2 (N : xN) (pc : Nat) (c : ClassFile.Cond) (ex : List (Int × Nat)) (L : xL) (st : List xV) (M : xM) : Prop := match ex, st with
  | (_, t) :: _, .inl y :: .inl x :: r => x_cmp c x y (N t L r M) (N pc L r M)
  | _, _ => False
def x_go1 (N : xN) (ex : List (Int × Nat)) (L : xL) (st : List xV) (M : xM) : Prop := match ex with
  | (_, t) :: _ => N t L st M
  | _ => False
def x_swi (N : xN) (ex : List (Int × Nat)) (L : xL) (st : List xV) (M : xM) : Prop := match ex, st with
  | (_, d) :: ps, .inl x :: r => x_sw (fun t => N t L r M) x d ps
  | _, _ => False
def x_get (N : xN) (pc : Nat) (ex : List (Int × Nat)) (L : xL) (st : List xV) (M : xM) : Prop := match ex, st with
  | (_, k) :: (_, ci) :: _, .inr (.inr (t, o, u)) :: r => bif Nat.beq (x_cn o) ci then (match x_fk o k with
    | (0, _) => N pc L (.inl (x_rd M t (100 + 20 * o + k) u) :: r) M
    | (1, _) => N pc L (.inl (x_rd M t (100 + 20 * o + k) u) :: r) M
    | (2, o') => N pc L (.inr (.inr (t, o', u)) :: r) M
    | (3, o') => N pc L (.inr (.inr (1, o', 0)) :: r) M
    | (4, o') => N pc L (.inr (.inr (2, o', 0)) :: r) M
    | _ => False) else False
  | _, _ => False
def x_put (N : xN) (pc : Nat) (ex : List (Int × Nat)) (L : xL) (st : List xV) (M : xM) : Prop := match ex, st with
  | (_, k) :: (_, ci) :: _, .inl x :: .inr (.inr (t, o, u)) :: r => bif Nat.beq (x_cn o) ci then (match x_fk o k with
    | (0, _) => N pc L r (x_wr M t (100 + 20 * o + k) u x)
    | (1, _) => x_bg x (N pc L r (x_wr M t (100 + 20 * o + k) u x))
    | _ => False) else False
  | _, _ => False
def x_ald (q : Bool) (N : xN) (pc kd : Nat) (L : xL) (st : List xV) (M : xM) : Prop := match st with
  | .inl i :: .inr (.inr (t, o, u)) :: r => (match x_ar o with
    | some (k, n) => bif Nat.beq k kd then (0 ≤ i ∧ i < (n : Int)) ∧ N pc L (.inl (x_rd M t o (x_sl u n i.toNat)) :: r) M else False
    | none => bif q && Nat.beq kd 0 && Nat.beq o 64 then (0 ≤ i ∧ i < x_rd M 0 65 0) ∧ N pc L (.inl (x_rd M 0 64 i.toNat) :: r) M else False)
  | _ => False
def x_fld (N : xN) (pc : Nat) (L : xL) (st : List xV) (M : xM) : Prop := match st with
  | .inl i :: .inr (.inr (t, o, u)) :: r => (match x_ar o with
    | some (2, n) => (0 ≤ i ∧ i < (n : Int)) ∧ N pc L (.inr (.inl (x_i2f (x_rd M t o (x_sl u n i.toNat)))) :: r) M
    | _ => False)
  | _ => False
def x_rld (N : xN) (pc : Nat) (L : xL) (st : List xV) (M : xM) : Prop := match st with
  | .inl i :: .inr (.inr (t, o, _)) :: r => (match x_ar o with
    | some (3, n) => (0 ≤ i ∧ i < (n : Int)) ∧ N pc L (.inr (.inr (t, 9, i.toNat)) :: r) M
    | _ => False)
  | _ => False
def x_ist (N : xN) (pc : Nat) (L : xL) (st : List xV) (M : xM) : Prop := match st with
  | .inl x :: .inl i :: .inr (.inr (t, o, u)) :: r => (match x_ar o with
    | some (0, n) => (0 ≤ i ∧ i < (n : Int)) ∧ N pc L r (x_wr M t o (x_sl u n i.toNat) x)
    | _ => False)
  | _ => False
def x_bst (N : xN) (pc : Nat) (L : xL) (st : List xV) (M : xM) : Prop := match st with
  | .inl x :: .inl i :: .inr (.inr (t, o, u)) :: r => (match x_ar o with
    | some (1, n) => (0 ≤ i ∧ i < (n : Int)) ∧ x_bg x (N pc L r (x_wr M t o (x_sl u n i.toNat) x))
    | _ => False)
  | _ => False
def x_fst (N : xN) (pc : Nat) (L : xL) (st : List xV) (M : xM) : Prop := match st with
  | .inr (.inl x) :: .inl i :: .inr (.inr (t, o, u)) :: r => (match x_ar o with
    | some (2, n) => (0 ≤ i ∧ i < (n : Int)) ∧ N pc L r (x_wr M t o (x_sl u n i.toNat) (x_f2i x))
    | _ => False)
  | _ => False
def x_len1 (q : Bool) (N : xN) (pc : Nat) (L : xL) (st : List xV) (M : xM) : Prop := match st with
  | .inr (.inr (_, o, _)) :: r => (match x_ar o with
    | some (_, n) => N pc L (.inl (n : Int) :: r) M
    | none => bif q && Nat.beq o 64 then N pc L (.inl (x_rd M 0 65 0) :: r) M else False)
  | _ => False
def x_vir (C : xH) (N : xN) (pc : Nat) (ex : List (Int × Nat)) (L : xL) (st : List xV) (M : xM) : Prop := match ex with
  | (_, k) :: (_, n) :: (_, ci) :: _ => (match x_pop n [] st with
    | some (.inr (.inr (t, o, u)) :: as, r) => bif Nat.ble r.length 8 && Nat.beq (x_cn o) ci then C k (.inr (.inr (t, o, u)) :: as) M (fun v M' => N pc L (x_ps v r) M') else False
    | _ => False)
  | _ => False
def x_sta1 (C : xH) (N : xN) (pc : Nat) (ex : List (Int × Nat)) (L : xL) (st : List xV) (M : xM) : Prop := match ex with
  | (_, k) :: (_, n) :: (_, 0) :: _ => (match x_pop n [] st with
    | some (as, r) => bif Nat.ble r.length 8 then C k as M (fun v M' => N pc L (x_ps v r) M') else False
    | none => False)
  | _ :: _ :: (_, 1) :: _ => (match st with
    | .inr (.inl f) :: r => bif Nat.ble r.length 8 then N pc L (.inl (x_f2i f) :: r) M else False
    | _ => False)
  | _ :: _ :: (_, 2) :: _ => (match st with
    | .inl x :: r => bif Nat.ble r.length 8 then vn_sni2f (Int32.ofInt x) = false ∧ N pc L (.inr (.inl (x_i2f x)) :: r) M else False
    | _ => False)
  | _ => False
def x_irt (rb : Bool) (R : xR) (st : List xV) (M : xM) : Prop := match st with
  | [.inl v] => bif rb then x_bg v (R (some (.inl v)) M) else R (some (.inl v)) M
  | _ => False
def x_frt (R : xR) (st : List xV) (M : xM) : Prop := match st with
  | [.inr (.inl v)] => R (some (.inr (.inl v))) M
  | _ => False
def x_vrt (R : xR) (st : List xV) (M : xM) : Prop := match st with
  | [] => R none M
  | _ => False
def x_ldc (N : xN) (pc : Nat) (ex : List (Int × Nat)) (L : xL) (st : List xV) (M : xM) : Prop := match ex with
  | (v, 0) :: _ => N pc L (.inl v :: st) M
  | (v, 1) :: _ => N pc L (.inr (.inl (UInt32.ofNat v.toNat)) :: st) M
  | _ => False
def x_dup (N : xN) (pc : Nat) (L : xL) (st : List xV) (M : xM) : Prop := match st with
  | a :: r => N pc L (a :: a :: r) M
  | _ => False
def x_dup2 (N : xN) (pc : Nat) (L : xL) (st : List xV) (M : xM) : Prop := match st with
  | a :: b :: r => N pc L (a :: b :: a :: b :: r) M
  | _ => False
def x_popv (N : xN) (pc : Nat) (L : xL) (st : List xV) (M : xM) : Prop := match st with
  | _ :: r => N pc L r M
  | _ => False
/-- one instruction -/
def x1e (q : Bool) (C : xH) (rb : Bool) (R : xR) (N : xN) (i : Instr) (ex : List (Int × Nat)) (pc : Nat) (L : xL) (st : List xV) (M : xM) : Prop := match i with
  | .aload n => x_lda N (pc + 2) n L st M
  | .aload_n n => x_lda N (pc + 1) n.val L st M
  | .iload n => x_ldi N (pc + 2) n L st M
  | .iload_n n => x_ldi N (pc + 1) n.val L st M
  | .fload n => x_ldf N (pc + 2) n L st M
  | .fload_n n => x_ldf N (pc + 1) n.val L st M
  | .astore n => x_sta N (pc + 2) n L st M
  | .astore_n n => x_sta N (pc + 1) n.val L st M
  | .istore n => x_sti N (pc + 2) n L st M
  | .istore_n n => x_sti N (pc + 1) n.val L st M
  | .fstore n => x_stf N (pc + 2) n L st M
  | .fstore_n n => x_stf N (pc + 1) n.val L st M
  | .iinc n z => x_inc N (pc + 3) n z L st M
  | .iconst v => N (pc + 1) L (.inl v :: st) M
  | .bipush v => N (pc + 2) L (.inl v :: st) M
  | .sipush v => N (pc + 3) L (.inl v :: st) M
  | .ldc _ => x_ldc N (pc + 2) ex L st M
  | .ldc_w _ => x_ldc N (pc + 3) ex L st M
  | .fconst v => N (pc + 1) L (.inr (.inl (match v with | 0 => FP.fconst0 | 1 => FP.fconst1 | 2 => FP.fconst2)) :: st) M
  | .iadd => x_ii N (pc + 1) (fun x y => xw (x + y)) L st M
  | .isub => x_ii N (pc + 1) (fun x y => xw (x - y)) L st M
  | .imul => x_ii N (pc + 1) (fun x y => xw (x * y)) L st M
  | .idiv => x_iz N (pc + 1) (fun x y => xw (x.tdiv y)) L st M
  | .irem => x_iz N (pc + 1) (fun x y => x.tmod y) L st M
  | .iand => x_ii N (pc + 1) x_and L st M
  | .ior => x_ii N (pc + 1) x_or L st M
  | .ixor => x_ii N (pc + 1) x_xor L st M
  | .ishl => x_ii N (pc + 1) x_shl L st M
  | .iushr => x_ii N (pc + 1) x_ush L st M
  | .fadd => x_ff N (pc + 1) FP.fadd L st M
  | .fsub => x_ff N (pc + 1) FP.fsub L st M
  | .fmul => x_ff N (pc + 1) FP.fmul L st M
  | .fdiv => x_ff N (pc + 1) FP.fdiv L st M
  | .fneg => x_fl1 N (pc + 1) (fun f => .inr (.inl (FP.fneg f))) L st M
  | .f2i => x_fl1 N (pc + 1) (fun f => .inl (FP.f2i f).toInt) L st M
  | .i2f => x_in1 N (pc + 1) (fun x => .inr (.inl (FP.i2f (Int32.ofInt x)))) L st M
  | .fcmp op => x_fc N (pc + 1) op L st M
  | .ifCond c _ => x_if1 N (pc + 3) c ex L st M
  | .if_icmp c _ => x_if2 N (pc + 3) c ex L st M
  | .goto _ => x_go1 N ex L st M
  | .tableswitch _ _ _ _ => x_swi N ex L st M
  | .lookupswitch _ _ => x_swi N ex L st M
  | .getfield _ => x_get N (pc + 3) ex L st M
  | .putfield _ => x_put N (pc + 3) ex L st M
  | .iaload => x_ald q N (pc + 1) 0 L st M
  | .baload => x_ald q N (pc + 1) 1 L st M
  | .faload => x_fld N (pc + 1) L st M
  | .aaload => x_rld N (pc + 1) L st M
  | .iastore => x_ist N (pc + 1) L st M
  | .bastore => x_bst N (pc + 1) L st M
  | .fastore => x_fst N (pc + 1) L st M
  | .arraylength => x_len1 q N (pc + 1) L st M
  | .dup => x_dup N (pc + 1) L st M
  | .dup2 => x_dup2 N (pc + 1) L st M
  | .pop => x_popv N (pc + 1) L st M
  | .invokevirtual _ => x_vir C N (pc + 3) ex L st M
  | .invokestatic _ => x_sta1 C N (pc + 3) ex L st M
  | .ireturn => x_irt rb R st M
  | .freturn => x_frt R st M
  | .return_ => x_vrt R st M
  | _ => False
def x1 (q : Bool) (C : xH) (cd : Nat → Option xE) (rb : Bool) (R : xR) (N : xN) (pc : Nat) (L : xL) (st : List xV) (M : xM) : Prop := match cd pc with
  | none => False
  | some (i, ex, mq) => x1e q C rb R N i ex pc (x_msk mq L) st M
/-- a run comes to its return with R: the least such -/
def XW (q : Bool) (C : xH) (cd : Nat → Option xE) (rb : Bool) (R : xR) (pc : Nat) (L : xL) (st : List xV) (M : xM) : Prop :=
  ∀ P : xN, (∀ pc L st M, x1 q C cd rb R P pc L st M → P pc L st M) → P pc L st M
/-- goes up to the next cuts -/
def x_go (q : Bool) (C : xH) (cd : Nat → Option xE) (rb : Bool) (R : xR) : Nat → Bool → xN
  | 0, _ => XW q C cd rb R
  | n + 1, fst => fun pc L st M => match cd pc with
    | none => False
    | some (i, ex, mq) => (match fst, mq with
      | false, some bs => XW q C cd rb R pc (x_mz bs L) st M
      | _, _ => x1e q C rb R (x_go q C cd rb R n false) i ex pc (x_msk mq L) st M)
def x_mono (C C' : xH) : Prop := ∀ k as M (R R' : xR), (∀ v M, R v M → R' v M) → C k as M R → C' k as M R'
theorem x_br_mono {c A B A' B' : Prop} (ha : A → A') (hb : B → B') (h : x_br c A B) : x_br c A' B' := ⟨fun g => ha (h.1 g), fun g => hb (h.2 g)⟩
theorem x_cmp_mono {c : ClassFile.Cond} {x y : Int} {A B A' B' : Prop} (ha : A → A') (hb : B → B') (h : x_cmp c x y A B) : x_cmp c x y A' B' := by
  cases c
  · exact x_br_mono ha hb h
  · exact x_br_mono hb ha h
  · exact x_br_mono ha hb h
  · exact x_br_mono hb ha h
  · exact x_br_mono ha hb h
  · exact x_br_mono hb ha h
theorem x_sw_mono {P P' : Nat → Prop} {x : Int} {d : Nat} (hP : ∀ t, P t → P' t) : ∀ {l : List (Int × Nat)}, x_sw P x d l → x_sw P' x d l
  | [], h => hP _ h
  | _ :: _, h => x_br_mono (hP _) (x_sw_mono hP) h
theorem x_bg_mono {x : Int} {P P' : Prop} (h : P → P') (a : x_bg x P) : x_bg x P' := by
  unfold x_bg at *
  cases hx : x_isb x
  · rw [hx] at a; exact a
  · rw [hx] at a; exact h a
theorem x_nz_mono {x : Int} {P P' : Prop} (h : P → P') (a : x_nz x P) : x_nz x P' := by
  unfold x_nz at *
  cases hx : x_isz x
  · rw [hx] at a; exact h a
  · rw [hx] at a; exact a
theorem x_bif_mono {b : Bool} {A A' : Prop} (h : A → A') : (bif b then A else False) → (bif b then A' else False) := by cases b <;> first | exact id | exact h
theorem x_ldi_mono {N N' : xN} (hN : ∀ pc L st M, N pc L st M → N' pc L st M) {L : xL} {st : List xV} {M : xM} (pc i : Nat) : x_ldi N pc i L st M → x_ldi N' pc i L st M := by
  unfold x_ldi
  repeat' split
  all_goals first | exact hN _ _ _ _ | exact id | exact And.imp_right (hN _ _ _ _) | exact x_bif_mono (hN _ _ _ _) | exact x_nz_mono (hN _ _ _ _) | exact x_bg_mono (hN _ _ _ _) | exact And.imp_right (x_bg_mono (hN _ _ _ _)) | exact x_cmp_mono (hN _ _ _ _) (hN _ _ _ _) | exact x_sw_mono (fun _ => hN _ _ _ _) | exact x_bif_mono (And.imp_right (hN _ _ _ _)) | (cases Nat.beq _ _ <;> first | exact id | (dsimp only [cond]; repeat' split) <;> first | exact id | exact hN _ _ _ _ | exact x_bg_mono (hN _ _ _ _))
theorem x_ldf_mono {N N' : xN} (hN : ∀ pc L st M, N pc L st M → N' pc L st M) {L : xL} {st : List xV} {M : xM} (pc i : Nat) : x_ldf N pc i L st M → x_ldf N' pc i L st M := by
  unfold x_ldf
  repeat' split
  all_goals first | exact hN _ _ _ _ | exact id | exact And.imp_right (hN _ _ _ _) | exact x_bif_mono (hN _ _ _ _) | exact x_nz_mono (hN _ _ _ _) | exact x_bg_mono (hN _ _ _ _) | exact And.imp_right (x_bg_mono (hN _ _ _ _)) | exact x_cmp_mono (hN _ _ _ _) (hN _ _ _ _) | exact x_sw_mono (fun _ => hN _ _ _ _) | exact x_bif_mono (And.imp_right (hN _ _ _ _)) | (cases Nat.beq _ _ <;> first | exact id | (dsimp only [cond]; repeat' split) <;> first | exact id | exact hN _ _ _ _ | exact x_bg_mono (hN _ _ _ _))
theorem x_lda_mono {N N' : xN} (hN : ∀ pc L st M, N pc L st M → N' pc L st M) {L : xL} {st : List xV} {M : xM} (pc i : Nat) : x_lda N pc i L st M → x_lda N' pc i L st M := by
  unfold x_lda
  repeat' split
  all_goals first | exact hN _ _ _ _ | exact id | exact And.imp_right (hN _ _ _ _) | exact x_bif_mono (hN _ _ _ _) | exact x_nz_mono (hN _ _ _ _) | exact x_bg_mono (hN _ _ _ _) | exact And.imp_right (x_bg_mono (hN _ _ _ _)) | exact x_cmp_mono (hN _ _ _ _) (hN _ _ _ _) | exact x_sw_mono (fun _ => hN _ _ _ _) | exact x_bif_mono (And.imp_right (hN _ _ _ _)) | (cases Nat.beq _ _ <;> first | exact id | (dsimp only [cond]; repeat' split) <;> first | exact id | exact hN _ _ _ _ | exact x_bg_mono (hN _ _ _ _))
theorem x_sti_mono {N N' : xN} (hN : ∀ pc L st M, N pc L st M → N' pc L st M) {L : xL} {st : List xV} {M : xM} (pc i : Nat) : x_sti N pc i L st M → x_sti N' pc i L st M := by
  unfold x_sti
  repeat' split
  all_goals first | exact hN _ _ _ _ | exact id | exact And.imp_right (hN _ _ _ _) | exact x_bif_mono (hN _ _ _ _) | exact x_nz_mono (hN _ _ _ _) | exact x_bg_mono (hN _ _ _ _) | exact And.imp_right (x_bg_mono (hN _ _ _ _)) | exact x_cmp_mono (hN _ _ _ _) (hN _ _ _ _) | exact x_sw_mono (fun _ => hN _ _ _ _) | exact x_bif_mono (And.imp_right (hN _ _ _ _)) | (cases Nat.beq _ _ <;> first | exact id | (dsimp only [cond]; repeat' split) <;> first | exact id | exact hN _ _ _ _ | exact x_bg_mono (hN _ _ _ _))
theorem x_stf_mono {N N' : xN} (hN : ∀ pc L st M, N pc L st M → N' pc L st M) {L : xL} {st : List xV} {M : xM} (pc i : Nat) : x_stf N pc i L st M → x_stf N' pc i L st M := by
  unfold x_stf
  repeat' split
  all_goals first | exact hN _ _ _ _ | exact id | exact And.imp_right (hN _ _ _ _) | exact x_bif_mono (hN _ _ _ _) | exact x_nz_mono (hN _ _ _ _) | exact x_bg_mono (hN _ _ _ _) | exact And.imp_right (x_bg_mono (hN _ _ _ _)) | exact x_cmp_mono (hN _ _ _ _) (hN _ _ _ _) | exact x_sw_mono (fun _ => hN _ _ _ _) | exact x_bif_mono (And.imp_right (hN _ _ _ _)) | (cases Nat.beq _ _ <;> first | exact id | (dsimp only [cond]; repeat' split) <;> first | exact id | exact hN _ _ _ _ | exact x_bg_mono (hN _ _ _ _))
theorem x_sta_mono {N N' : xN} (hN : ∀ pc L st M, N pc L st M → N' pc L st M) {L : xL} {st : List xV} {M : xM} (pc i : Nat) : x_sta N pc i L st M → x_sta N' pc i L st M := by
  unfold x_sta
  repeat' split
  all_goals first | exact hN _ _ _ _ | exact id | exact And.imp_right (hN _ _ _ _) | exact x_bif_mono (hN _ _ _ _) | exact x_nz_mono (hN _ _ _ _) | exact x_bg_mono (hN _ _ _ _) | exact And.imp_right (x_bg_mono (hN _ _ _ _)) | exact x_cmp_mono (hN _ _ _ _) (hN _ _ _ _) | exact x_sw_mono (fun _ => hN _ _ _ _) | exact x_bif_mono (And.imp_right (hN _ _ _ _)) | (cases Nat.beq _ _ <;> first | exact id | (dsimp only [cond]; repeat' split) <;> first | exact id | exact hN _ _ _ _ | exact x_bg_mono (hN _ _ _ _))
theorem x_inc_mono {N N' : xN} (hN : ∀ pc L st M, N pc L st M → N' pc L st M) {L : xL} {st : List xV} {M : xM} (pc i : Nat) (z : Int) : x_inc N pc i z L st M → x_inc N' pc i z L st M := by
  unfold x_inc
  repeat' split
  all_goals first | exact hN _ _ _ _ | exact id | exact And.imp_right (hN _ _ _ _) | exact x_bif_mono (hN _ _ _ _) | exact x_nz_mono (hN _ _ _ _) | exact x_bg_mono (hN _ _ _ _) | exact And.imp_right (x_bg_mono (hN _ _ _ _)) | exact x_cmp_mono (hN _ _ _ _) (hN _ _ _ _) | exact x_sw_mono (fun _ => hN _ _ _ _) | exact x_bif_mono (And.imp_right (hN _ _ _ _)) | (cases Nat.beq _ _ <;> first | exact id | (dsimp only [cond]; repeat' split) <;> first | exact id | exact hN _ _ _ _ | exact x_bg_mono (hN _ _ _ _))
theorem x_ii_mono {N N' : xN} (hN : ∀ pc L st M, N pc L st M → N' pc L st M) {L : xL} {st : List xV} {M : xM} (pc : Nat) (f : Int → Int → Int) : x_ii N pc f L st M → x_ii N' pc f L st M := by
  unfold x_ii
  repeat' split
  all_goals first | exact hN _ _ _ _ | exact id | exact And.imp_right (hN _ _ _ _) | exact x_bif_mono (hN _ _ _ _) | exact x_nz_mono (hN _ _ _ _) | exact x_bg_mono (hN _ _ _ _) | exact And.imp_right (x_bg_mono (hN _ _ _ _)) | exact x_cmp_mono (hN _ _ _ _) (hN _ _ _ _) | exact x_sw_mono (fun _ => hN _ _ _ _) | exact x_bif_mono (And.imp_right (hN _ _ _ _)) | (cases Nat.beq _ _ <;> first | exact id | (dsimp only [cond]; repeat' split) <;> first | exact id | exact hN _ _ _ _ | exact x_bg_mono (hN _ _ _ _))
theorem x_iz_mono {N N' : xN} (hN : ∀ pc L st M, N pc L st M → N' pc L st M) {L : xL} {st : List xV} {M : xM} (pc : Nat) (f : Int → Int → Int) : x_iz N pc f L st M → x_iz N' pc f L st M := by
  unfold x_iz
  repeat' split
  all_goals first | exact hN _ _ _ _ | exact id | exact And.imp_right (hN _ _ _ _) | exact x_bif_mono (hN _ _ _ _) | exact x_nz_mono (hN _ _ _ _) | exact x_bg_mono (hN _ _ _ _) | exact And.imp_right (x_bg_mono (hN _ _ _ _)) | exact x_cmp_mono (hN _ _ _ _) (hN _ _ _ _) | exact x_sw_mono (fun _ => hN _ _ _ _) | exact x_bif_mono (And.imp_right (hN _ _ _ _)) | (cases Nat.beq _ _ <;> first | exact id | (dsimp only [cond]; repeat' split) <;> first | exact id | exact hN _ _ _ _ | exact x_bg_mono (hN _ _ _ _))
theorem x_ff_mono {N N' : xN} (hN : ∀ pc L st M, N pc L st M → N' pc L st M) {L : xL} {st : List xV} {M : xM} (pc : Nat) (f : UInt32 → UInt32 → UInt32) : x_ff N pc f L st M → x_ff N' pc f L st M := by
  unfold x_ff
  repeat' split
  all_goals first | exact hN _ _ _ _ | exact id | exact And.imp_right (hN _ _ _ _) | exact x_bif_mono (hN _ _ _ _) | exact x_nz_mono (hN _ _ _ _) | exact x_bg_mono (hN _ _ _ _) | exact And.imp_right (x_bg_mono (hN _ _ _ _)) | exact x_cmp_mono (hN _ _ _ _) (hN _ _ _ _) | exact x_sw_mono (fun _ => hN _ _ _ _) | exact x_bif_mono (And.imp_right (hN _ _ _ _)) | (cases Nat.beq _ _ <;> first | exact id | (dsimp only [cond]; repeat' split) <;> first | exact id | exact hN _ _ _ _ | exact x_bg_mono (hN _ _ _ _))
theorem x_fl1_mono {N N' : xN} (hN : ∀ pc L st M, N pc L st M → N' pc L st M) {L : xL} {st : List xV} {M : xM} (pc : Nat) (f : UInt32 → xV) : x_fl1 N pc f L st M → x_fl1 N' pc f L st M := by
  unfold x_fl1
  repeat' split
  all_goals first | exact hN _ _ _ _ | exact id | exact And.imp_right (hN _ _ _ _) | exact x_bif_mono (hN _ _ _ _) | exact x_nz_mono (hN _ _ _ _) | exact x_bg_mono (hN _ _ _ _) | exact And.imp_right (x_bg_mono (hN _ _ _ _)) | exact x_cmp_mono (hN _ _ _ _) (hN _ _ _ _) | exact x_sw_mono (fun _ => hN _ _ _ _) | exact x_bif_mono (And.imp_right (hN _ _ _ _)) | (cases Nat.beq _ _ <;> first | exact id | (dsimp only [cond]; repeat' split) <;> first | exact id | exact hN _ _ _ _ | exact x_bg_mono (hN _ _ _ _))
theorem x_in1_mono {N N' : xN} (hN : ∀ pc L st M, N pc L st M → N' pc L st M) {L : xL} {st : List xV} {M : xM} (pc : Nat) (f : Int → xV) : x_in1 N pc f L st M → x_in1 N' pc f L st M := by
  unfold x_in1
  repeat' split
  all_goals first | exact hN _ _ _ _ | exact id | exact And.imp_right (hN _ _ _ _) | exact x_bif_mono (hN _ _ _ _) | exact x_nz_mono (hN _ _ _ _) | exact x_bg_mono (hN _ _ _ _) | exact And.imp_right (x_bg_mono (hN _ _ _ _)) | exact x_cmp_mono (hN _ _ _ _) (hN _ _ _ _) | exact x_sw_mono (fun _ => hN _ _ _ _) | exact x_bif_mono (And.imp_right (hN _ _ _ _)) | (cases Nat.beq _ _ <;> first | exact id | (dsimp only [cond]; repeat' split) <;> first | exact id | exact hN _ _ _ _ | exact x_bg_mono (hN _ _ _ _))
theorem x_fc_mono {N N' : xN} (hN : ∀ pc L st M, N pc L st M → N' pc L st M) {L : xL} {st : List xV} {M : xM} (pc : Nat) (op : CmpOp) : x_fc N pc op L st M → x_fc N' pc op L st M := by
  unfold x_fc
  repeat' split
  all_goals first | exact hN _ _ _ _ | exact id | exact And.imp_right (hN _ _ _ _) | exact x_bif_mono (hN _ _ _ _) | exact x_nz_mono (hN _ _ _ _) | exact x_bg_mono (hN _ _ _ _) | exact And.imp_right (x_bg_mono (hN _ _ _ _)) | exact x_cmp_mono (hN _ _ _ _) (hN _ _ _ _) | exact x_sw_mono (fun _ => hN _ _ _ _) | exact x_bif_mono (And.imp_right (hN _ _ _ _)) | (cases Nat.beq _ _ <;> first | exact id | (dsimp only [cond]; repeat' split) <;> first | exact id | exact hN _ _ _ _ | exact x_bg_mono (hN _ _ _ _))
theorem x_go1_mono {N N' : xN} (hN : ∀ pc L st M, N pc L st M → N' pc L st M) {L : xL} {st : List xV} {M : xM} (ex : List (Int × Nat)) : x_go1 N ex L st M → x_go1 N' ex L st M := by
  unfold x_go1
  repeat' split
  all_goals first | exact hN _ _ _ _ | exact id | exact And.imp_right (hN _ _ _ _) | exact x_bif_mono (hN _ _ _ _) | exact x_nz_mono (hN _ _ _ _) | exact x_bg_mono (hN _ _ _ _) | exact And.imp_right (x_bg_mono (hN _ _ _ _)) | exact x_cmp_mono (hN _ _ _ _) (hN _ _ _ _) | exact x_sw_mono (fun _ => hN _ _ _ _) | exact x_bif_mono (And.imp_right (hN _ _ _ _)) | (cases Nat.beq _ _ <;> first | exact id | (dsimp only [cond]; repeat' split) <;> first | exact id | exact hN _ _ _ _ | exact x_bg_mono (hN _ _ _ _))
theorem x_get_mono {N N' : xN} (hN : ∀ pc L st M, N pc L st M → N' pc L st M) {L : xL} {st : List xV} {M : xM} (pc : Nat) (ex : List (Int × Nat)) : x_get N pc ex L st M → x_get N' pc ex L st M := by
  unfold x_get
  repeat' split
  all_goals first | exact hN _ _ _ _ | exact id | exact And.imp_right (hN _ _ _ _) | exact x_bif_mono (hN _ _ _ _) | exact x_nz_mono (hN _ _ _ _) | exact x_bg_mono (hN _ _ _ _) | exact And.imp_right (x_bg_mono (hN _ _ _ _)) | exact x_cmp_mono (hN _ _ _ _) (hN _ _ _ _) | exact x_sw_mono (fun _ => hN _ _ _ _) | exact x_bif_mono (And.imp_right (hN _ _ _ _)) | (cases Nat.beq _ _ <;> first | exact id | (dsimp only [cond]; repeat' split) <;> first | exact id | exact hN _ _ _ _ | exact x_bg_mono (hN _ _ _ _))
theorem x_put_mono {N N' : xN} (hN : ∀ pc L st M, N pc L st M → N' pc L st M) {L : xL} {st : List xV} {M : xM} (pc : Nat) (ex : List (Int × Nat)) : x_put N pc ex L st M → x_put N' pc ex L st M := by
  unfold x_put
  repeat' split
  all_goals first | exact hN _ _ _ _ | exact id | exact And.imp_right (hN _ _ _ _) | exact x_bif_mono (hN _ _ _ _) | exact x_nz_mono (hN _ _ _ _) | exact x_bg_mono (hN _ _ _ _) | exact And.imp_right (x_bg_mono (hN _ _ _ _)) | exact x_cmp_mono (hN _ _ _ _) (hN _ _ _ _) | exact x_sw_mono (fun _ => hN _ _ _ _) | exact x_bif_mono (And.imp_right (hN _ _ _ _)) | (cases Nat.beq _ _ <;> first | exact id | (dsimp only [cond]; repeat' split) <;> first | exact id | exact hN _ _ _ _ | exact x_bg_mono (hN _ _ _ _))
theorem x_fld_mono {N N' : xN} (hN : ∀ pc L st M, N pc L st M → N' pc L st M) {L : xL} {st : List xV} {M : xM} (pc : Nat) : x_fld N pc L st M → x_fld N' pc L st M := by
  unfold x_fld
  repeat' split
  all_goals first | exact hN _ _ _ _ | exact id | exact And.imp_right (hN _ _ _ _) | exact x_bif_mono (hN _ _ _ _) | exact x_nz_mono (hN _ _ _ _) | exact x_bg_mono (hN _ _ _ _) | exact And.imp_right (x_bg_mono (hN _ _ _ _)) | exact x_cmp_mono (hN _ _ _ _) (hN _ _ _ _) | exact x_sw_mono (fun _ => hN _ _ _ _) | exact x_bif_mono (And.imp_right (hN _ _ _ _)) | (cases Nat.beq _ _ <;> first | exact id | (dsimp only [cond]; repeat' split) <;> first | exact id | exact hN _ _ _ _ | exact x_bg_mono (hN _ _ _ _))
theorem x_rld_mono {N N' : xN} (hN : ∀ pc L st M, N pc L st M → N' pc L st M) {L : xL} {st : List xV} {M : xM} (pc : Nat) : x_rld N pc L st M → x_rld N' pc L st M := by
  unfold x_rld
  repeat' split
  all_goals first | exact hN _ _ _ _ | exact id | exact And.imp_right (hN _ _ _ _) | exact x_bif_mono (hN _ _ _ _) | exact x_nz_mono (hN _ _ _ _) | exact x_bg_mono (hN _ _ _ _) | exact And.imp_right (x_bg_mono (hN _ _ _ _)) | exact x_cmp_mono (hN _ _ _ _) (hN _ _ _ _) | exact x_sw_mono (fun _ => hN _ _ _ _) | exact x_bif_mono (And.imp_right (hN _ _ _ _)) | (cases Nat.beq _ _ <;> first | exact id | (dsimp only [cond]; repeat' split) <;> first | exact id | exact hN _ _ _ _ | exact x_bg_mono (hN _ _ _ _))
theorem x_ist_mono {N N' : xN} (hN : ∀ pc L st M, N pc L st M → N' pc L st M) {L : xL} {st : List xV} {M : xM} (pc : Nat) : x_ist N pc L st M → x_ist N' pc L st M := by
  unfold x_ist
  repeat' split
  all_goals first | exact hN _ _ _ _ | exact id | exact And.imp_right (hN _ _ _ _) | exact x_bif_mono (hN _ _ _ _) | exact x_nz_mono (hN _ _ _ _) | exact x_bg_mono (hN _ _ _ _) | exact And.imp_right (x_bg_mono (hN _ _ _ _)) | exact x_cmp_mono (hN _ _ _ _) (hN _ _ _ _) | exact x_sw_mono (fun _ => hN _ _ _ _) | exact x_bif_mono (And.imp_right (hN _ _ _ _)) | (cases Nat.beq _ _ <;> first | exact id | (dsimp only [cond]; repeat' split) <;> first | exact id | exact hN _ _ _ _ | exact x_bg_mono (hN _ _ _ _))
theorem x_bst_mono {N N' : xN} (hN : ∀ pc L st M, N pc L st M → N' pc L st M) {L : xL} {st : List xV} {M : xM} (pc : Nat) : x_bst N pc L st M → x_bst N' pc L st M := by
  unfold x_bst
  repeat' split
  all_goals first | exact hN _ _ _ _ | exact id | exact And.imp_right (hN _ _ _ _) | exact x_bif_mono (hN _ _ _ _) | exact x_nz_mono (hN _ _ _ _) | exact x_bg_mono (hN _ _ _ _) | exact And.imp_right (x_bg_mono (hN _ _ _ _)) | exact x_cmp_mono (hN _ _ _ _) (hN _ _ _ _) | exact x_sw_mono (fun _ => hN _ _ _ _) | exact x_bif_mono (And.imp_right (hN _ _ _ _)) | (cases Nat.beq _ _ <;> first | exact id | (dsimp only [cond]; repeat' split) <;> first | exact id | exact hN _ _ _ _ | exact x_bg_mono (hN _ _ _ _))
theorem x_fst_mono {N N' : xN} (hN : ∀ pc L st M, N pc L st M → N' pc L st M) {L : xL} {st : List xV} {M : xM} (pc : Nat) : x_fst N pc L st M → x_fst N' pc L st M := by
  unfold x_fst
  repeat' split
  all_goals first | exact hN _ _ _ _ | exact id | exact And.imp_right (hN _ _ _ _) | exact x_bif_mono (hN _ _ _ _) | exact x_nz_mono (hN _ _ _ _) | exact x_bg_mono (hN _ _ _ _) | exact And.imp_right (x_bg_mono (hN _ _ _ _)) | exact x_cmp_mono (hN _ _ _ _) (hN _ _ _ _) | exact x_sw_mono (fun _ => hN _ _ _ _) | exact x_bif_mono (And.imp_right (hN _ _ _ _)) | (cases Nat.beq _ _ <;> first | exact id | (dsimp only [cond]; repeat' split) <;> first | exact id | exact hN _ _ _ _ | exact x_bg_mono (hN _ _ _ _))
theorem x_ldc_mono {N N' : xN} (hN : ∀ pc L st M, N pc L st M → N' pc L st M) {L : xL} {st : List xV} {M : xM} (pc : Nat) (ex : List (Int × Nat)) : x_ldc N pc ex L st M → x_ldc N' pc ex L st M := by
  unfold x_ldc
  repeat' split
  all_goals first | exact hN _ _ _ _ | exact id | exact And.imp_right (hN _ _ _ _) | exact x_bif_mono (hN _ _ _ _) | exact x_nz_mono (hN _ _ _ _) | exact x_bg_mono (hN _ _ _ _) | exact And.imp_right (x_bg_mono (hN _ _ _ _)) | exact x_cmp_mono (hN _ _ _ _) (hN _ _ _ _) | exact x_sw_mono (fun _ => hN _ _ _ _) | exact x_bif_mono (And.imp_right (hN _ _ _ _)) | (cases Nat.beq _ _ <;> first | exact id | (dsimp only [cond]; repeat' split) <;> first | exact id | exact hN _ _ _ _ | exact x_bg_mono (hN _ _ _ _))
theorem x_dup_mono {N N' : xN} (hN : ∀ pc L st M, N pc L st M → N' pc L st M) {L : xL} {st : List xV} {M : xM} (pc : Nat) : x_dup N pc L st M → x_dup N' pc L st M := by
  unfold x_dup
  repeat' split
  all_goals first | exact hN _ _ _ _ | exact id | exact And.imp_right (hN _ _ _ _) | exact x_bif_mono (hN _ _ _ _) | exact x_nz_mono (hN _ _ _ _) | exact x_bg_mono (hN _ _ _ _) | exact And.imp_right (x_bg_mono (hN _ _ _ _)) | exact x_cmp_mono (hN _ _ _ _) (hN _ _ _ _) | exact x_sw_mono (fun _ => hN _ _ _ _) | exact x_bif_mono (And.imp_right (hN _ _ _ _)) | (cases Nat.beq _ _ <;> first | exact id | (dsimp only [cond]; repeat' split) <;> first | exact id | exact hN _ _ _ _ | exact x_bg_mono (hN _ _ _ _))
theorem x_dup2_mono {N N' : xN} (hN : ∀ pc L st M, N pc L st M → N' pc L st M) {L : xL} {st : List xV} {M : xM} (pc : Nat) : x_dup2 N pc L st M → x_dup2 N' pc L st M := by
  unfold x_dup2
  repeat' split
  all_goals first | exact hN _ _ _ _ | exact id | exact And.imp_right (hN _ _ _ _) | exact x_bif_mono (hN _ _ _ _) | exact x_nz_mono (hN _ _ _ _) | exact x_bg_mono (hN _ _ _ _) | exact And.imp_right (x_bg_mono (hN _ _ _ _)) | exact x_cmp_mono (hN _ _ _ _) (hN _ _ _ _) | exact x_sw_mono (fun _ => hN _ _ _ _) | exact x_bif_mono (And.imp_right (hN _ _ _ _)) | (cases Nat.beq _ _ <;> first | exact id | (dsimp only [cond]; repeat' split) <;> first | exact id | exact hN _ _ _ _ | exact x_bg_mono (hN _ _ _ _))
theorem x_popv_mono {N N' : xN} (hN : ∀ pc L st M, N pc L st M → N' pc L st M) {L : xL} {st : List xV} {M : xM} (pc : Nat) : x_popv N pc L st M → x_popv N' pc L st M := by
  unfold x_popv
  repeat' split
  all_goals first | exact hN _ _ _ _ | exact id | exact And.imp_right (hN _ _ _ _) | exact x_bif_mono (hN _ _ _ _) | exact x_nz_mono (hN _ _ _ _) | exact x_bg_mono (hN _ _ _ _) | exact And.imp_right (x_bg_mono (hN _ _ _ _)) | exact x_cmp_mono (hN _ _ _ _) (hN _ _ _ _) | exact x_sw_mono (fun _ => hN _ _ _ _) | exact x_bif_mono (And.imp_right (hN _ _ _ _)) | (cases Nat.beq _ _ <;> first | exact id | (dsimp only [cond]; repeat' split) <;> first | exact id | exact hN _ _ _ _ | exact x_bg_mono (hN _ _ _ _))
theorem x_if1_mono {N N' : xN} (hN : ∀ pc L st M, N pc L st M → N' pc L st M) {L : xL} {st : List xV} {M : xM} (pc : Nat) (c : ClassFile.Cond) (ex : List (Int × Nat)) : x_if1 N pc c ex L st M → x_if1 N' pc c ex L st M := by
  unfold x_if1
  repeat' split
  all_goals first | exact hN _ _ _ _ | exact id | exact And.imp_right (hN _ _ _ _) | exact x_bif_mono (hN _ _ _ _) | exact x_nz_mono (hN _ _ _ _) | exact x_bg_mono (hN _ _ _ _) | exact And.imp_right (x_bg_mono (hN _ _ _ _)) | exact x_cmp_mono (hN _ _ _ _) (hN _ _ _ _) | exact x_sw_mono (fun _ => hN _ _ _ _) | exact x_bif_mono (And.imp_right (hN _ _ _ _)) | (cases Nat.beq _ _ <;> first | exact id | (dsimp only [cond]; repeat' split) <;> first | exact id | exact hN _ _ _ _ | exact x_bg_mono (hN _ _ _ _))
theorem x_if2_mono {N N' : xN} (hN : ∀ pc L st M, N pc L st M → N' pc L st M) {L : xL} {st : List xV} {M : xM} (pc : Nat) (c : ClassFile.Cond) (ex : List (Int × Nat)) : x_if2 N pc c ex L st M → x_if2 N' pc c ex L st M := by
  unfold x_if2
  repeat' split
  all_goals first | exact hN _ _ _ _ | exact id | exact And.imp_right (hN _ _ _ _) | exact x_bif_mono (hN _ _ _ _) | exact x_nz_mono (hN _ _ _ _) | exact x_bg_mono (hN _ _ _ _) | exact And.imp_right (x_bg_mono (hN _ _ _ _)) | exact x_cmp_mono (hN _ _ _ _) (hN _ _ _ _) | exact x_sw_mono (fun _ => hN _ _ _ _) | exact x_bif_mono (And.imp_right (hN _ _ _ _)) | (cases Nat.beq _ _ <;> first | exact id | (dsimp only [cond]; repeat' split) <;> first | exact id | exact hN _ _ _ _ | exact x_bg_mono (hN _ _ _ _))
theorem x_swi_mono {N N' : xN} (hN : ∀ pc L st M, N pc L st M → N' pc L st M) {L : xL} {st : List xV} {M : xM} (ex : List (Int × Nat)) : x_swi N ex L st M → x_swi N' ex L st M := by
  unfold x_swi
  repeat' split
  all_goals first | exact hN _ _ _ _ | exact id | exact And.imp_right (hN _ _ _ _) | exact x_bif_mono (hN _ _ _ _) | exact x_nz_mono (hN _ _ _ _) | exact x_bg_mono (hN _ _ _ _) | exact And.imp_right (x_bg_mono (hN _ _ _ _)) | exact x_cmp_mono (hN _ _ _ _) (hN _ _ _ _) | exact x_sw_mono (fun _ => hN _ _ _ _) | exact x_bif_mono (And.imp_right (hN _ _ _ _)) | (cases Nat.beq _ _ <;> first | exact id | (dsimp only [cond]; repeat' split) <;> first | exact id | exact hN _ _ _ _ | exact x_bg_mono (hN _ _ _ _))
theorem x_ald_mono {N N' : xN} (hN : ∀ pc L st M, N pc L st M → N' pc L st M) {L : xL} {st : List xV} {M : xM} (q : Bool) (pc kd : Nat) : x_ald q N pc kd L st M → x_ald q N' pc kd L st M := by
  unfold x_ald
  repeat' split
  all_goals first | exact hN _ _ _ _ | exact id | exact And.imp_right (hN _ _ _ _) | exact x_bif_mono (hN _ _ _ _) | exact x_nz_mono (hN _ _ _ _) | exact x_bg_mono (hN _ _ _ _) | exact And.imp_right (x_bg_mono (hN _ _ _ _)) | exact x_cmp_mono (hN _ _ _ _) (hN _ _ _ _) | exact x_sw_mono (fun _ => hN _ _ _ _) | exact x_bif_mono (And.imp_right (hN _ _ _ _)) | (cases Nat.beq _ _ <;> first | exact id | (dsimp only [cond]; repeat' split) <;> first | exact id | exact hN _ _ _ _ | exact x_bg_mono (hN _ _ _ _))
theorem x_len1_mono {N N' : xN} (hN : ∀ pc L st M, N pc L st M → N' pc L st M) {L : xL} {st : List xV} {M : xM} (q : Bool) (pc : Nat) : x_len1 q N pc L st M → x_len1 q N' pc L st M := by
  unfold x_len1
  repeat' split
  all_goals first | exact hN _ _ _ _ | exact id | exact And.imp_right (hN _ _ _ _) | exact x_bif_mono (hN _ _ _ _) | exact x_nz_mono (hN _ _ _ _) | exact x_bg_mono (hN _ _ _ _) | exact And.imp_right (x_bg_mono (hN _ _ _ _)) | exact x_cmp_mono (hN _ _ _ _) (hN _ _ _ _) | exact x_sw_mono (fun _ => hN _ _ _ _) | exact x_bif_mono (And.imp_right (hN _ _ _ _)) | (cases Nat.beq _ _ <;> first | exact id | (dsimp only [cond]; repeat' split) <;> first | exact id | exact hN _ _ _ _ | exact x_bg_mono (hN _ _ _ _))
theorem x_vir_mono {C C' : xH} (hC : x_mono C C') {N N' : xN} (hN : ∀ pc L st M, N pc L st M → N' pc L st M) {L : xL} {st : List xV} {M : xM} (pc : Nat) (ex : List (Int × Nat)) : x_vir C N pc ex L st M → x_vir C' N' pc ex L st M := by
  unfold x_vir
  repeat' split
  all_goals first | exact id | exact x_bif_mono (hC _ _ _ _ _ (fun _ _ => hN _ _ _ _))
theorem x_sta1_mono {C C' : xH} (hC : x_mono C C') {N N' : xN} (hN : ∀ pc L st M, N pc L st M → N' pc L st M) {L : xL} {st : List xV} {M : xM} (pc : Nat) (ex : List (Int × Nat)) : x_sta1 C N pc ex L st M → x_sta1 C' N' pc ex L st M := by
  unfold x_sta1
  repeat' split
  all_goals first | exact id | exact x_bif_mono (hC _ _ _ _ _ (fun _ _ => hN _ _ _ _)) | exact x_bif_mono (hN _ _ _ _) | exact x_bif_mono (And.imp_right (hN _ _ _ _))
theorem x_irt_mono {rb : Bool} {R R' : xR} (hR : ∀ v M, R v M → R' v M) {st : List xV} {M : xM} : x_irt rb R st M → x_irt rb R' st M := by
  unfold x_irt
  split
  · cases rb
    · exact hR _ _
    · exact x_bg_mono (hR _ _)
  · exact id
theorem x_frt_mono {R R' : xR} (hR : ∀ v M, R v M → R' v M) {st : List xV} {M : xM} : x_frt R st M → x_frt R' st M := by
  unfold x_frt
  split
  · exact hR _ _
  · exact id
theorem x_vrt_mono {R R' : xR} (hR : ∀ v M, R v M → R' v M) {st : List xV} {M : xM} : x_vrt R st M → x_vrt R' st M := by
  unfold x_vrt
  split
  · exact hR _ _
  · exact id
set_option maxHeartbeats 1000000 in
theorem x1e_mono {q : Bool} {C C' : xH} {rb : Bool} {R R' : xR} {N N' : xN} {i : Instr} {ex : List (Int × Nat)} {pc : Nat} {L : xL} {st : List xV} {M : xM} (hC : x_mono C C') (hR : ∀ v M, R v M → R' v M) (hN : ∀ pc L st M, N pc L st M → N' pc L st M) : x1e q C rb R N i ex pc L st M → x1e q C' rb R' N' i ex pc L st M := by
  cases i
  all_goals first | exact id | exact hN _ _ _ _ | exact x_ldi_mono hN _ _ | exact x_ldf_mono hN _ _ | exact x_lda_mono hN _ _ | exact x_sti_mono hN _ _ | exact x_stf_mono hN _ _ | exact x_sta_mono hN _ _ | exact x_inc_mono hN _ _ _ | exact x_ii_mono hN _ _ | exact x_iz_mono hN _ _ | exact x_ff_mono hN _ _ | exact x_fl1_mono hN _ _ | exact x_in1_mono hN _ _ | exact x_fc_mono hN _ _ | exact x_go1_mono hN _ | exact x_get_mono hN _ _ | exact x_put_mono hN _ _ | exact x_fld_mono hN _ | exact x_rld_mono hN _ | exact x_ist_mono hN _ | exact x_bst_mono hN _ | exact x_fst_mono hN _ | exact x_ldc_mono hN _ _ | exact x_dup_mono hN _ | exact x_dup2_mono hN _ | exact x_popv_mono hN _ | exact x_if1_mono hN _ _ _ | exact x_if2_mono hN _ _ _ | exact x_swi_mono hN _ | exact x_ald_mono hN _ _ _ | exact x_len1_mono hN _ _ | exact x_vir_mono hC hN _ _ | exact x_sta1_mono hC hN _ _ | exact x_irt_mono hR | exact x_frt_mono hR | exact x_vrt_mono hR
theorem x1_mono {q : Bool} {C C' : xH} {cd : Nat → Option xE} {rb : Bool} {R R' : xR} {N N' : xN} {pc : Nat} {L : xL} {st : List xV} {M : xM} (hC : x_mono C C') (hR : ∀ v M, R v M → R' v M) (hN : ∀ pc L st M, N pc L st M → N' pc L st M) : x1 q C cd rb R N pc L st M → x1 q C' cd rb R' N' pc L st M := by
  unfold x1
  split
  · exact id
  · exact x1e_mono hC hR hN
theorem XW.mono {q : Bool} {C C' : xH} {cd : Nat → Option xE} {rb : Bool} {R R' : xR} (hC : x_mono C C') (hR : ∀ v M, R v M → R' v M) {pc : Nat} {L : xL} {st : List xV} {M : xM} (h : XW q C cd rb R pc L st M) : XW q C' cd rb R' pc L st M :=
  fun P hP => h P (fun pc L st M g => hP pc L st M (x1_mono hC hR (fun _ _ _ _ => id) g))
theorem XW.intro {q : Bool} {C : xH} {cd : Nat → Option xE} {rb : Bool} {R : xR} (hC : x_mono C C) {pc : Nat} {L : xL} {st : List xV} {M : xM} (h : x1 q C cd rb R (XW q C cd rb R) pc L st M) : XW q C cd rb R pc L st M :=
  fun P hP => hP pc L st M (x1_mono hC (fun _ _ => id) (fun pc L st M g => g P hP) h)
theorem XW.out {q : Bool} {C : xH} {cd : Nat → Option xE} {rb : Bool} {R : xR} (hC : x_mono C C) {pc : Nat} {L : xL} {st : List xV} {M : xM} (h : XW q C cd rb R pc L st M) : x1 q C cd rb R (XW q C cd rb R) pc L st M :=
  h (x1 q C cd rb R (XW q C cd rb R)) (fun _ _ _ _ g => x1_mono hC (fun _ _ => id) (fun _ _ _ _ g => XW.intro hC g) g)
theorem x_mz_mz : ∀ (bs : List Bool) (L : xL), x_mz bs (x_mz bs L) = x_mz bs L
  | [], _ => rfl
  | true :: _, [] => rfl
  | false :: _, [] => rfl
  | true :: bs, a :: L => congrArg (a :: ·) (x_mz_mz bs L)
  | false :: bs, _ :: L => congrArg (none :: ·) (x_mz_mz bs L)
theorem XW.msk {q : Bool} {C : xH} {cd : Nat → Option xE} {rb : Bool} {R : xR} (hC : x_mono C C) {pc : Nat} {L : xL} {st : List xV} {M : xM} {i : Instr} {ex : List (Int × Nat)} {bs : List Bool} (hc : cd pc = some (i, ex, some bs)) (h : XW q C cd rb R pc (x_mz bs L) st M) : XW q C cd rb R pc L st M := by
  refine XW.intro hC ?_
  have g := XW.out hC h
  unfold x1 at g ⊢
  rw [hc] at g ⊢
  dsimp only [x_msk] at g ⊢
  rw [x_mz_mz] at g
  exact g
theorem XW.go {q : Bool} {C : xH} {cd : Nat → Option xE} {rb : Bool} {R : xR} (hC : x_mono C C) : ∀ (n : Nat) (f : Bool) {pc : Nat} {L : xL} {st : List xV} {M : xM}, x_go q C cd rb R n f pc L st M → XW q C cd rb R pc L st M
  | 0, _, _, _, _, _, h => h
  | n + 1, f, pc, L, st, M, h => by
    unfold x_go at h
    split at h
    · exact h.elim
    · rename_i i ex mq hc
      split at h
      · exact XW.msk hC hc h
      · refine XW.intro hC ?_
        unfold x1
        rw [hc]
        exact x1e_mono hC (fun _ _ => id) (fun _ _ _ _ g => XW.go hC n false g) h
