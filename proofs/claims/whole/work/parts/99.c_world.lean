/-! ===== the whole world out of its parts ===== -/
theorem vD_fst {A : Nat → Prop} {ws ws' : va_W} (h : ws'.map Prod.fst = ws.map Prod.fst) (hD : va_D A ws) : va_D A ws' := by
  obtain ⟨d1, d2⟩ := vD_iff.mp hD
  refine vD_iff.mpr ⟨by rw [h]; exact d1, fun q hq => ?_⟩
  have h3 : q.1 ∈ ws'.map Prod.fst := List.mem_map.mpr ⟨q, hq, rfl⟩
  rw [h] at h3
  obtain ⟨z, z1, z2⟩ := List.mem_map.mp h3
  rw [← z2]
  exact d2 z z1
theorem x_cell_c {ad ad' : xId → Nat} {dA : Nat → ClassId} {M M' : xM} {t o : Nat} {u : Option Nat} (h1 : ∀ o u, ad (t, o, u) = ad' (t, o, u)) (h2 : ∀ r i, x_rd M t r i = x_rd M' t r i) (h3 : ∀ f ∈ x_fs o, f.1 ≤ 2) : x_cell ad dA M (t, o, u) = x_cell ad' dA M' (t, o, u) := by
  have ha : ∀ n, x_af M t o u n = x_af M' t o u n := by
    intro n
    funext j
    unfold x_af
    rw [h2]
  have hf : (x_fs o).map (x_fv ad M t u) = (x_fs o).map (x_fv ad' M' t u) := by
    apply List.map_congr_left
    intro f hf
    have h4 := h3 f hf
    match f, h4 with
    | (0, g), _ =>
      show Value.int _ = Value.int _
      rw [h2]
    | (1, g), _ =>
      show Value.int _ = Value.int _
      rw [h2]
    | (2, g), _ =>
      show Value.ref _ = Value.ref _
      rw [h1]
    | (k + 3, g), h => exact absurd (show k + 3 ≤ 2 from h) (by omega)
  unfold x_cell
  dsimp only
  split
  · simp only [h1]
  · rw [ha]
  · rw [ha]
  · rw [hf]
theorem x_fs_2 : ∀ o, o < 79 → o ≠ 60 → (x_fs o).all (fun f => Nat.ble f.1 2) = true := by decide +kernel
abbrev eA : Nat → Bool := fun _ => true
abbrev tIds : List xId := [(0, 60, none), (0, 61, none), (0, 62, none), (0, 63, none)]
set_option maxRecDepth 100000 in
theorem ids_A : x_ids eA = tIds ++ (x_ids (eT 1) ++ (x_ids (eT 2) ++ x_ids (eT 3))) := by decide +kernel
def adA (b h0 : Nat) (a : Nat → Nat) (ad1 ad2 ad3 : xId → Nat) : xId → Nat := fun id => match id.1 with
  | 0 => (match id.2.1 with
    | 60 => h0
    | 61 => a 0
    | 62 => a 1
    | 63 => a 2
    | _ => b)
  | 1 => ad1 id
  | 2 => ad2 id
  | _ => ad3 id
theorem x_vo60 {t : Nat} {u : Option Nat} (ht : t = 1 ∨ t = 2 ∨ t = 3) : x_vo t 60 u = false := by
  rcases ht with rfl | rfl | rfl <;> cases u <;> rfl
theorem x_ws_c {ad ad' : xId → Nat} {dA : Nat → ClassId} {M M' : xM} (t : Nat) (ht : t = 1 ∨ t = 2 ∨ t = 3) (h1 : ∀ o u, ad (t, o, u) = ad' (t, o, u)) (h2 : ∀ r i, x_rd M t r i = x_rd M' t r i) : x_ws (eT t) ad dA M = x_ws (eT t) ad' dA M' := by
  unfold x_ws
  apply List.map_congr_left
  intro id hid
  obtain ⟨t', o, u⟩ := id
  obtain ⟨g1, g2⟩ := x_mem.mp hid
  have e : t' = t := Nat.eq_of_beq_eq_true g1
  subst e
  have g2 : x_vo t' o u = true := g2
  have ho := (x_vo_lt g2).2.1
  have hne : o ≠ 60 := by
    intro z
    subst z
    rw [x_vo60 ht] at g2
    cases g2
  have h3 : ∀ f ∈ x_fs o, f.1 ≤ 2 := fun f hf => Nat.le_of_ble_eq_true (List.all_eq_true.mp (x_fs_2 o ho hne) f hf)
  show (ad (t', o, u), x_cell ad dA M (t', o, u)) = (ad' (t', o, u), x_cell ad' dA M' (t', o, u))
  rw [h1, x_cell_c h1 h2 h3]
theorem asm {D : va_G} {dA : Nat → ClassId} {H : Heap} {A : Nat → Prop} {b h0 : Nat} {a : Nat → Nat} {ad1 ad2 ad3 : xId → Nat} {t0 x y g : xB} (ht1 : t0 1322 0 = 0) (ht2 : ∀ i, t0 62 i = 0) (ht3 : ∀ i, t0 63 i = 0) (hP : va_P D vwCl (tL dA h0 a (ad1 (1, 0, none)) (ad2 (2, 0, none)) ++ (x_ws (eT 1) ad1 dA (bM 1 x) ++ (x_ws (eT 2) ad2 dA (bM 2 y) ++ x_ws (eT 3) ad3 dA (xZ, xZ, xZ, g)))) H) (hD : va_D A (tL dA h0 a (ad1 (1, 0, none)) (ad2 (2, 0, none)) ++ (x_ws (eT 1) ad1 dA (bM 1 x) ++ (x_ws (eT 2) ad2 dA (bM 2 y) ++ x_ws (eT 3) ad3 dA (xZ, xZ, xZ, g))))) : va_P D vwCl (x_ws eA (adA b h0 a ad1 ad2 ad3) dA (t0, x, y, g)) H ∧ va_D A (x_ws eA (adA b h0 a ad1 ad2 ad3) dA (t0, x, y, g)) := by
  have e1 : x_ws (eT 1) (adA b h0 a ad1 ad2 ad3) dA (t0, x, y, g) = x_ws (eT 1) ad1 dA (bM 1 x) := x_ws_c 1 (Or.inl rfl) (fun _ _ => rfl) (fun _ _ => rfl)
  have e2 : x_ws (eT 2) (adA b h0 a ad1 ad2 ad3) dA (t0, x, y, g) = x_ws (eT 2) ad2 dA (bM 2 y) := x_ws_c 2 (Or.inr (Or.inl rfl)) (fun _ _ => rfl) (fun _ _ => rfl)
  have e3 : x_ws (eT 3) (adA b h0 a ad1 ad2 ad3) dA (t0, x, y, g) = x_ws (eT 3) ad3 dA (xZ, xZ, xZ, g) := x_ws_c 3 (Or.inr (Or.inr rfl)) (fun _ _ => rfl) (fun _ _ => rfl)
  have e : x_ws eA (adA b h0 a ad1 ad2 ad3) dA (t0, x, y, g) = tIds.map (fun id => (adA b h0 a ad1 ad2 ad3 id, x_cell (adA b h0 a ad1 ad2 ad3) dA (t0, x, y, g) id)) ++ (x_ws (eT 1) ad1 dA (bM 1 x) ++ (x_ws (eT 2) ad2 dA (bM 2 y) ++ x_ws (eT 3) ad3 dA (xZ, xZ, xZ, g))) := by
    rw [← e1, ← e2, ← e3]
    unfold x_ws
    rw [ids_A, List.map_append, List.map_append, List.map_append]
  rw [e]
  have hf : (tIds.map (fun id => (adA b h0 a ad1 ad2 ad3 id, x_cell (adA b h0 a ad1 ad2 ad3) dA (t0, x, y, g) id))).map Prod.fst = (tL dA h0 a (ad1 (1, 0, none)) (ad2 (2, 0, none))).map Prod.fst := rfl
  constructor
  · refine vP_iff.mpr fun q hq => ?_
    rcases List.mem_append.mp hq with h | h
    · obtain ⟨id, h1, h2⟩ := List.mem_map.mp h
      rw [← h2]
      have c61 : x_cell (adA b h0 a ad1 ad2 ad3) dA (t0, x, y, g) (0, 61, none) = .inr (1, [.ref (a 1), .ref (a 2), .int 0]) := by
        show (Sum.inr (1, [Value.ref (a 1), .ref (a 2), .int (Int32.ofInt (t0 1322 0))]) : va_E) = _
        rw [ht1]
        rfl
      revert id
      have key : ∀ id ∈ tIds, va_at D vwCl (adA b h0 a ad1 ad2 ad3 id, x_cell (adA b h0 a ad1 ad2 ad3) dA (t0, x, y, g) id) H := by
        refine List.forall_mem_cons.mpr ⟨hP 0 _ rfl, ?_⟩
        refine List.forall_mem_cons.mpr ⟨by rw [c61]; exact hP 1 _ rfl, ?_⟩
        refine List.forall_mem_cons.mpr ⟨at_i (fun j hj => ?_) (hP 2 _ rfl), ?_⟩
        · unfold x_af
          rw [if_pos hj]
          show 0 = Int32.ofInt (t0 62 _)
          rw [ht2]
          rfl
        refine List.forall_mem_cons.mpr ⟨at_i (fun j hj => ?_) (hP 3 _ rfl), ?_⟩
        · unfold x_af
          rw [if_pos hj]
          show 0 = Int32.ofInt (t0 63 _)
          rw [ht3]
          rfl
        intro id h
        cases h
      intro id h1 _
      exact key id h1
    · exact vP_iff.mp hP q (List.mem_append_right _ h)
  · refine vD_fst ?_ hD
    rw [List.map_append, List.map_append (l₁ := tL dA h0 a (ad1 (1, 0, none)) (ad2 (2, 0, none))), hf]
theorem kArr {ty : FieldType} {U : State} {args : Array Value} (h : (Cond.arrayClass ty).before args U = true) : ∃ cA, ArrOfT U cA ty ∧ U.vm.findClass ("[" ++ ty.toString) = some cA := by
  obtain ⟨c, k, comp, h1, h2, h3⟩ := Cond.arrayClass_spec h
  exact ⟨c, fun n z => ⟨fun k h => (by cases h), k, h2, comp, h3⟩, h1⟩
theorem kArrQ {C : String} {U : State} (h : va_AO C U) : ∃ cA, ArrOfT U cA (.object C) ∧ va_RA U cA (.object C) := by
  obtain ⟨comp, c, k, h1, h2, h3, h4, h5⟩ := Cond.arrayOver_spec h
  exact ⟨c, fun n z => ⟨fun k h => (by cases h), k, h3, comp, h4⟩, k, comp, h3, h4, h1, h5⟩
theorem law_ok : ∀ pc en, xc_Z_law pc = some en → x_ce R_law code pc en = true := by
  intro pc en hpc
  have key : ∀ a n, x_cr R_law code xc_Z_law a n = true → a ≤ pc → pc < a + n → x_ce R_law code pc en = true := by
    intro a n h h1 h2
    have := List.all_eq_true.mp h (pc - a) (List.mem_range.mpr (by omega))
    rw [show a + (pc - a) = pc by omega, hpc] at this
    exact this
  by_cases h : pc < 1430
  · by_cases h1 : pc < 100
    · exact key 0 100 xk_law_0 (by omega) (by omega)
    by_cases h2 : pc < 200
    · exact key 100 100 xk_law_100 (by omega) (by omega)
    by_cases h3 : pc < 300
    · exact key 200 100 xk_law_200 (by omega) (by omega)
    by_cases h4 : pc < 400
    · exact key 300 100 xk_law_300 (by omega) (by omega)
    by_cases h5 : pc < 500
    · exact key 400 100 xk_law_400 (by omega) (by omega)
    by_cases h6 : pc < 600
    · exact key 500 100 xk_law_500 (by omega) (by omega)
    by_cases h7 : pc < 700
    · exact key 600 100 xk_law_600 (by omega) (by omega)
    by_cases h8 : pc < 800
    · exact key 700 100 xk_law_700 (by omega) (by omega)
    by_cases h9 : pc < 900
    · exact key 800 100 xk_law_800 (by omega) (by omega)
    by_cases h10 : pc < 1000
    · exact key 900 100 xk_law_900 (by omega) (by omega)
    by_cases h11 : pc < 1100
    · exact key 1000 100 xk_law_1000 (by omega) (by omega)
    by_cases h12 : pc < 1200
    · exact key 1100 100 xk_law_1100 (by omega) (by omega)
    by_cases h13 : pc < 1300
    · exact key 1200 100 xk_law_1200 (by omega) (by omega)
    by_cases h14 : pc < 1400
    · exact key 1300 100 xk_law_1300 (by omega) (by omega)
    exact key 1400 30 xk_law_1400 (by omega) (by omega)
  · have hb : Nat.blt pc 1430 = false := by
      cases hb : Nat.blt pc 1430
      · rfl
      · rw [Nat.blt_eq] at hb
        omega
    have : xc_Z_law pc = none := by
      show (bif Nat.blt pc 1430 then _ else none) = none
      rw [hb]
      rfl
    rw [this] at hpc
    cases hpc
