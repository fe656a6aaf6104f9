/-! ===== the world of the cells: what the small machine's memory is in the heap ===== -/
def x_vb (o : Nat) (u : Option Nat) : Bool := match u with
  | none => Nat.ble o 46 && !(Nat.beq o 9)
  | some u => (Nat.beq o 9 || (Nat.ble 47 o && Nat.ble o 52)) && Nat.blt u 4
def x_vo (t o : Nat) (u : Option Nat) : Bool := match t with
  | 0 => Nat.ble 60 o && Nat.ble o 63 && u.isNone
  | 1 => x_vb o u
  | 2 => x_vb o u
  | 3 => Nat.ble 70 o && Nat.ble o 78 && u.isNone
  | _ => false
def x_vd (E : Nat → Bool) (id : xId) : Prop := E id.1 = true ∧ x_vo id.1 id.2.1 id.2.2 = true
def x_us : List (Option Nat) := [none, some 0, some 1, some 2, some 3]
def x_all : List xId := (List.range 4).flatMap fun t => (List.range 79).flatMap fun o => (x_us.filter (x_vo t o)).map fun u => (t, o, u)
def x_ids (E : Nat → Bool) : List xId := x_all.filter fun id => E id.1
theorem x_vb_lt {o : Nat} {u : Option Nat} (h : x_vb o u = true) : o < 79 ∧ u ∈ x_us := by
  cases u with
  | none =>
    simp only [x_vb, Bool.and_eq_true, Nat.ble_eq] at h
    exact ⟨by omega, by decide⟩
  | some u =>
    simp only [x_vb, Bool.and_eq_true, Bool.or_eq_true, Nat.ble_eq, Nat.beq_eq, Nat.blt_eq] at h
    refine ⟨by omega, ?_⟩
    have h4 : u < 4 := h.2
    have : u = 0 ∨ u = 1 ∨ u = 2 ∨ u = 3 := by omega
    rcases this with rfl | rfl | rfl | rfl <;> decide
theorem x_vo_lt {t o : Nat} {u : Option Nat} (h : x_vo t o u = true) : t < 4 ∧ o < 79 ∧ u ∈ x_us := by
  match t, h with
  | 0, h =>
    simp only [x_vo, Bool.and_eq_true, Nat.ble_eq, Option.isNone_iff_eq_none] at h
    obtain ⟨⟨h1, h2⟩, rfl⟩ := h
    exact ⟨by omega, by omega, by decide⟩
  | 1, h => exact ⟨by omega, x_vb_lt h⟩
  | 2, h => exact ⟨by omega, x_vb_lt h⟩
  | 3, h =>
    simp only [x_vo, Bool.and_eq_true, Nat.ble_eq, Option.isNone_iff_eq_none] at h
    obtain ⟨⟨h1, h2⟩, rfl⟩ := h
    exact ⟨by omega, by omega, by decide⟩
  | n + 4, h => exact absurd h (by simp [x_vo])
theorem x_mem_all {t o : Nat} {u : Option Nat} : (t, o, u) ∈ x_all ↔ x_vo t o u = true := by
  unfold x_all
  constructor
  · intro h
    obtain ⟨t', ht, h⟩ := List.mem_flatMap.mp h
    obtain ⟨o', ho, h⟩ := List.mem_flatMap.mp h
    obtain ⟨u', hu, h⟩ := List.mem_map.mp h
    cases h
    exact (List.mem_filter.mp hu).2
  · intro h
    obtain ⟨h1, h2, h3⟩ := x_vo_lt h
    exact List.mem_flatMap.mpr ⟨t, List.mem_range.mpr h1, List.mem_flatMap.mpr ⟨o, List.mem_range.mpr h2, List.mem_map.mpr ⟨u, List.mem_filter.mpr ⟨h3, h⟩, rfl⟩⟩⟩
theorem x_mem {E : Nat → Bool} {id : xId} : id ∈ x_ids E ↔ x_vd E id := by
  obtain ⟨t, o, u⟩ := id
  unfold x_ids x_vd
  rw [List.mem_filter, x_mem_all]
  exact And.comm
set_option maxRecDepth 100000 in
theorem x_all_nd : x_all.Nodup := by decide +kernel
theorem x_ids_nd (E : Nat → Bool) : (x_ids E).Nodup := List.Pairwise.filter _ x_all_nd
def x_fv (ad : xId → Nat) (M : xM) (t : Nat) (u : Option Nat) (f : Nat × Nat) : Value := match f with
  | (0, g) => .int (Int32.ofInt (x_rd M t g (x_su u)))
  | (1, g) => .int (Int32.ofInt (x_rd M t g (x_su u)))
  | (2, o) => .ref (ad (t, o, u))
  | (3, o) => .ref (ad (1, o, none))
  | (_, o) => .ref (ad (2, o, none))
def x_af (M : xM) (t o : Nat) (u : Option Nat) (n : Nat) : Nat → Int32 := fun i => if i < n then Int32.ofInt (x_rd M t o (x_so u n i)) else 0
def x_cell (ad : xId → Nat) (dA : Nat → ClassId) (M : xM) (id : xId) : va_E := match x_ar id.2.1 with
  | some (3, n) => .inl (dA 3, n, .inr (.inr (.inr (.inr (fun i => some (ad (id.1, 9, some i)))))))
  | some (2, n) => .inl (dA 2, n, .inr (.inr (.inl (fun i => (x_af M id.1 id.2.1 id.2.2 n i).toUInt32))))
  | some (k, n) => .inl (dA k, n, .inl (x_af M id.1 id.2.1 id.2.2 n))
  | none => .inr (x_cn id.2.1, (x_fs id.2.1).map (x_fv ad M id.1 id.2.2))
def x_ws (E : Nat → Bool) (ad : xId → Nat) (dA : Nat → ClassId) (M : xM) : va_W := (x_ids E).map fun id => (ad id, x_cell ad dA M id)
theorem x_ws_at {E : Nat → Bool} {ad : xId → Nat} {dA : Nat → ClassId} {M : xM} {id : xId} (h : x_vd E id) : ∃ q0 : Nat, (x_ids E)[q0]? = some id ∧ (x_ws E ad dA M)[q0]? = some (ad id, x_cell ad dA M id) := by
  obtain ⟨q0, hq⟩ := List.getElem?_of_mem (x_mem.mpr h)
  exact ⟨q0, hq, by unfold x_ws; rw [List.getElem?_map, hq]; rfl⟩
theorem x_ws_set {E : Nat → Bool} {ad : xId → Nat} {dA : Nat → ClassId} {M M' : xM} {id : xId} {q0 : Nat} (hq : (x_ids E)[q0]? = some id) (ho : ∀ id', x_vd E id' → id' ≠ id → x_cell ad dA M' id' = x_cell ad dA M id') : (x_ws E ad dA M).set q0 (ad id, x_cell ad dA M' id) = x_ws E ad dA M' := by
  apply List.ext_getElem?
  intro j
  rw [List.getElem?_set]
  by_cases hj : q0 = j
  · subst hj
    rw [if_pos rfl]
    have hlt : q0 < (x_ws E ad dA M).length := by
      unfold x_ws
      rw [List.length_map]
      exact (List.getElem?_eq_some_iff.mp hq).1
    rw [if_pos hlt]
    unfold x_ws
    rw [List.getElem?_map, hq]
    rfl
  · rw [if_neg hj]
    unfold x_ws
    rw [List.getElem?_map, List.getElem?_map]
    cases hi : (x_ids E)[j]? with
    | none => rfl
    | some id' =>
      have hne : id' ≠ id := by
        intro e
        subst e
        obtain ⟨l1, e1⟩ := List.getElem?_eq_some_iff.mp hq
        obtain ⟨l2, e2⟩ := List.getElem?_eq_some_iff.mp hi
        exact hj ((List.getElem_inj (x_ids_nd E)).mp (e1.trans e2.symm))
      show some (ad id', x_cell ad dA M id') = some (ad id', x_cell ad dA M' id')
      rw [ho id' (x_mem.mp (List.mem_of_getElem? hi)) hne]
/-! numbers -/
def x_in (z : Int) : Prop := -2147483648 ≤ z ∧ z < 2147483648
def x_inM (M : xM) : Prop := ∀ t r i, x_in (x_rd M t r i)
theorem x_toI {z : Int} (h : x_in z) : (Int32.ofInt z).toInt = z := by
  rw [Int32.toInt_ofInt]
  exact xw_id h.1 h.2
theorem x_in_toI (x : Int32) : x_in x.toInt := ⟨Int32.le_toInt x, Int32.toInt_lt x⟩
theorem xw_in (z : Int) : x_in (xw z) := by
  have h := x_in_toI (Int32.ofInt z)
  rw [Int32.toInt_ofInt] at h
  exact h
theorem x_ofw (z : Int) : Int32.ofInt (xw z) = Int32.ofInt z := by
  apply Int32.toInt_inj.mp
  rw [x_toI (xw_in z), Int32.toInt_ofInt]
  rfl
theorem x_ofI {z : Int} {x : Int32} (h : x.toInt = z) : Int32.ofInt z = x := by
  rw [← h]
  exact Int32.ofInt_toInt x
theorem x_eqI {x y : Int} (hx : x_in x) (hy : x_in y) : Int32.ofInt x = Int32.ofInt y ↔ x = y := by
  rw [← Int32.toInt_inj, x_toI hx, x_toI hy]
theorem x_ltI {x y : Int} (hx : x_in x) (hy : x_in y) : Int32.ofInt x < Int32.ofInt y ↔ x < y := by
  rw [Int32.lt_iff_toInt_lt, x_toI hx, x_toI hy]
theorem x_leI {x y : Int} (hx : x_in x) (hy : x_in y) : Int32.ofInt x ≤ Int32.ofInt y ↔ x ≤ y := by
  rw [Int32.le_iff_toInt_le, x_toI hx, x_toI hy]
theorem x_0I : x_in 0 := ⟨by decide, by decide⟩
theorem x_gd_spec {i : Int} {n : Nat} {P : Prop} (h : x_gd i n P) : (0 ≤ i ∧ i < (n : Int)) ∧ P := by
  unfold x_gd x_inb at h
  split at h
  · rename_i k
    cases hk : Nat.blt k n
    · rw [hk] at h; exact h.elim
    · rw [hk] at h
      rw [Nat.blt_eq] at hk
      refine ⟨⟨Int.natCast_nonneg k, ?_⟩, h⟩
      show (k : Int) < n
      omega
  · exact h.elim
theorem x_bg_spec {x : Int} {P : Prop} (h : x_bg x P) : (x = 0 ∨ x = 1) ∧ P := by
  unfold x_bg x_isb at h
  split at h
  · exact ⟨Or.inl rfl, h⟩
  · exact ⟨Or.inr rfl, h⟩
  · exact h.elim
theorem x_nz_spec {x : Int} {P : Prop} (h : x_nz x P) : x ≠ 0 ∧ P := by
  unfold x_nz x_isz at h
  split at h
  · exact h.elim
  · rename_i hne
    exact ⟨fun e => hne (by subst e; rfl), h⟩
theorem x_idx {i : Int} {n : Nat} (h0 : 0 ≤ i) (h1 : i < (n : Int)) (hn : n ≤ 4000) : vp_in (Int32.ofInt i) n ∧ (Int32.ofInt i).toNatClampNeg = i.toNat := by
  have hi : x_in i := ⟨by omega, by omega⟩
  have e : (Int32.ofInt i).toInt = i := x_toI hi
  refine ⟨vp_in_iff.mpr (by rw [e]; exact ⟨h0, h1⟩), ?_⟩
  show (Int32.ofInt i).toInt.toNat = i.toNat
  rw [e]
/-! memory -/
theorem x_rd_wr_eq {M : xM} {t r i : Nat} {v : Int} : x_rd (x_wr M t r i v) t r i = v := by
  rcases t with _ | _ | _ | t <;> simp [x_rd, x_wr, x_up]
theorem x_rd_wr_ne {M : xM} {t r i t' r' i' : Nat} {v : Int} (ht : t < 4) (ht' : t' < 4) (h : ¬ (t' = t ∧ r' = r ∧ i' = i)) : x_rd (x_wr M t r i v) t' r' i' = x_rd M t' r' i' := by
  have a : t = 0 ∨ t = 1 ∨ t = 2 ∨ t = 3 := by omega
  have b : t' = 0 ∨ t' = 1 ∨ t' = 2 ∨ t' = 3 := by omega
  rcases a with rfl | rfl | rfl | rfl <;> rcases b with rfl | rfl | rfl | rfl <;> first | rfl | (simp only [x_rd, x_wr, x_up]; rw [if_neg (fun q => h ⟨rfl, q⟩)])
theorem x_rd_wr_or (M : xM) (t r i : Nat) (v : Int) (t' r' i' : Nat) : x_rd (x_wr M t r i v) t' r' i' = v ∨ x_rd (x_wr M t r i v) t' r' i' = x_rd M t' r' i' := by
  rcases t with _ | _ | _ | t <;> rcases t' with _ | _ | _ | t' <;> first | exact Or.inr rfl | (simp only [x_rd, x_wr, x_up]; split <;> simp)
theorem x_inM_wr {M : xM} (h : x_inM M) {v : Int} (hv : x_in v) (t r i : Nat) : x_inM (x_wr M t r i v) := by
  intro t' r' i'
  rcases x_rd_wr_or M t r i v t' r' i' with e | e
  · rw [e]; exact hv
  · rw [e]; exact h t' r' i'
/-- the regions of an object's fields lie apart from those of the arrays and of other objects -/
theorem x_fs_reg : ∀ o, o < 79 → ∀ k, k < 20 → ∀ g, (x_fk o k = (0, g) ∨ x_fk o k = (1, g)) → g = 100 + 20 * o + k := by
  intro o ho k hk g h
  have key : ∀ o, o < 79 → ∀ k, k < 20 → ((x_fk o k).1 = 0 ∨ (x_fk o k).1 = 1) → (x_fk o k).2 = 100 + 20 * o + k := by decide +kernel
  have h2 := key o ho k hk (by rcases h with h | h <;> rw [h] <;> simp)
  rcases h with h | h <;> rw [h] at h2 <;> exact h2
theorem x_fs_len : ∀ o, o < 79 → (x_fs o).length ≤ 20 := by decide +kernel
theorem x_fn_get : ∀ (l : List (Nat × Nat)) (k : Nat), k < l.length → l[k]? = some (x_fn l k)
  | [], k, h => absurd h (Nat.not_lt_zero k)
  | a :: l, 0, _ => rfl
  | a :: l, k + 1, h => by
    show l[k]? = some (x_fn l k)
    exact x_fn_get l k (Nat.lt_of_succ_lt_succ h)
theorem x_so_inj {u u' : Option Nat} {n i i' t o : Nat} (hv : x_vo t o u = true) (hv' : x_vo t o u' = true) (hi : i < n) (hi' : i' < n) (h : x_so u n i = x_so u' n i') : u = u' ∧ i = i' := by
  have key : ∀ a b : Nat, i + a * n = i' + b * n → a = b ∧ i = i' := by
    intro a b e
    have hn : 0 < n := by omega
    have e1 : (i + a * n) / n = a := by rw [Nat.add_mul_div_right _ _ hn, Nat.div_eq_of_lt hi, Nat.zero_add]
    have e2 : (i' + b * n) / n = b := by rw [Nat.add_mul_div_right _ _ hn, Nat.div_eq_of_lt hi', Nat.zero_add]
    have e3 : a = b := by rw [← e1, ← e2, e]
    subst e3
    exact ⟨rfl, by omega⟩
  have kind : ∀ w : Nat, x_vo t o none = true → x_vo t o (some w) = true → False := by
    intro w h1 h2
    match t, h1, h2 with
    | 0, h1, h2 => simp [x_vo] at h2
    | 1, h1, h2 =>
      simp only [x_vo, x_vb, Bool.and_eq_true, Bool.or_eq_true, Nat.ble_eq, Nat.beq_eq, Nat.blt_eq, Bool.not_eq_true'] at h1 h2
      rcases h2.1 with e | e
      · subst e; simp at h1
      · omega
    | 2, h1, h2 =>
      simp only [x_vo, x_vb, Bool.and_eq_true, Bool.or_eq_true, Nat.ble_eq, Nat.beq_eq, Nat.blt_eq, Bool.not_eq_true'] at h1 h2
      rcases h2.1 with e | e
      · subst e; simp at h1
      · omega
    | 3, h1, h2 => simp [x_vo] at h2
    | n + 4, h1, h2 => simp [x_vo] at h1
  cases u with
  | none =>
    cases u' with
    | none => exact ⟨rfl, h⟩
    | some w => exact (kind w hv hv').elim
  | some w =>
    cases u' with
    | none => exact (kind w hv' hv).elim
    | some w' =>
      obtain ⟨a, b⟩ := key w w' h
      exact ⟨by rw [a], b⟩
