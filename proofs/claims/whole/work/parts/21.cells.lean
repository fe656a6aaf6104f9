/-! ===== a store into one cell is a store into the memory ===== -/
theorem x_so_su (u : Option Nat) : x_so u 1 0 = x_su u := by
  cases u with
  | none => rfl
  | some w =>
    show 0 + w * 1 = w
    omega
theorem x_fk_mem {o k : Nat} (hk : k < (x_fs o).length) : (x_fs o)[k]? = some (x_fk o k) := x_fn_get _ _ hk
section
variable {E : Nat → Bool} {ad : xId → Nat} {dA : Nat → ClassId} {M : xM} {t o n : Nat} {u : Option Nat}
theorem x_fs_keep {t' o' : Nat} {u' : Option Nat} {r i : Nat} {v : Int} (hv' : x_vo t' o' u' = true) (ht : t < 4) (h : ∀ k g, k < (x_fs o').length → (x_fk o' k = (0, g) ∨ x_fk o' k = (1, g)) → ¬ (t' = t ∧ g = r ∧ x_su u' = i)) : (x_fs o').map (x_fv ad (x_wr M t r i v) t' u') = (x_fs o').map (x_fv ad M t' u') := by
  apply List.map_congr_left
  intro f hf
  obtain ⟨k, hk⟩ := List.getElem?_of_mem hf
  have hlt : k < (x_fs o').length := (List.getElem?_eq_some_iff.mp hk).1
  have e : x_fk o' k = f := Option.some.inj ((x_fk_mem hlt).symm.trans hk)
  have h1 := x_vo_lt hv'
  match f, e with
  | (0, g), e =>
    show Value.int _ = Value.int _
    rw [x_rd_wr_ne ht h1.1 (h k g hlt (Or.inl e))]
  | (1, g), e =>
    show Value.int _ = Value.int _
    rw [x_rd_wr_ne ht h1.1 (h k g hlt (Or.inr e))]
  | (2, g), _ => rfl
  | (3, g), _ => rfl
  | (j + 4, g), _ => rfl
theorem x_af_keep {t' o' n' : Nat} {u' : Option Nat} {r i : Nat} {v : Int} (ht : t < 4) (ht' : t' < 4) (h : ∀ j, j < n' → ¬ (t' = t ∧ o' = r ∧ x_so u' n' j = i)) : x_af (x_wr M t r i v) t' o' u' n' = x_af M t' o' u' n' := by
  funext j
  unfold x_af
  split
  · rename_i hj
    rw [x_rd_wr_ne ht ht' (h j hj)]
  · rfl
/-- other cells stay, where an array's place is written -/
theorem x_keepA {kd i : Nat} {v : Int} (hv : x_vo t o u = true) (ha : x_ar o = some (kd, n)) (hi : i < n) {id' : xId} (hv' : x_vd E id') (hne : id' ≠ (t, o, u)) : x_cell ad dA (x_wr M t o (x_so u n i) v) id' = x_cell ad dA M id' := by
  obtain ⟨t', o', u'⟩ := id'
  have h1 := x_vo_lt hv
  have h2 : t' < 4 ∧ o' < 79 ∧ u' ∈ x_us := x_vo_lt hv'.2
  have hf : ∀ k' n', x_ar o' = some (k', n') → x_af (x_wr M t o (x_so u n i) v) t' o' u' n' = x_af M t' o' u' n' := by
    intro k' n' hn
    refine x_af_keep h1.1 h2.1 ?_
    rintro j hj ⟨rfl, rfl, e⟩
    rw [ha] at hn
    cases hn
    obtain ⟨e1, -⟩ := x_so_inj hv'.2 hv hj hi e
    subst e1
    exact hne rfl
  have hg : (x_fs o').map (x_fv ad (x_wr M t o (x_so u n i) v) t' u') = (x_fs o').map (x_fv ad M t' u') := by
    refine x_fs_keep hv'.2 h1.1 ?_
    intro k g hk hg e
    have hl := x_fs_len o' h2.2.1
    have hk : k < (x_fs o').length := hk
    have := x_fs_reg o' h2.2.1 k (by omega) g hg
    have ho := h1.2.1
    omega
  unfold x_cell
  dsimp only
  split
  · rfl
  · rename_i h
    rw [hf _ _ h]
  · rename_i h
    rw [hf _ _ h]
  · rw [hg]
/-- other cells stay, where a field is written -/
theorem x_keepF {k g : Nat} {v : Int} (hv : x_vo t o u = true) (hk : k < (x_fs o).length) (hg : x_fk o k = (0, g) ∨ x_fk o k = (1, g)) {id' : xId} (hv' : x_vd E id') (hne : id' ≠ (t, o, u)) : x_cell ad dA (x_wr M t g (x_su u) v) id' = x_cell ad dA M id' := by
  obtain ⟨t', o', u'⟩ := id'
  have h1 := x_vo_lt hv
  have h2 : t' < 4 ∧ o' < 79 ∧ u' ∈ x_us := x_vo_lt hv'.2
  have hl := x_fs_len o h1.2.1
  have e0 := x_fs_reg o h1.2.1 k (by omega) g hg
  have hf : ∀ n' : Nat, x_af (x_wr M t g (x_su u) v) t' o' u' n' = x_af M t' o' u' n' := by
    intro n'
    refine x_af_keep h1.1 h2.1 ?_
    rintro j hj ⟨-, e, -⟩
    have ho := h2.2.1
    omega
  have hm : (x_fs o').map (x_fv ad (x_wr M t g (x_su u) v) t' u') = (x_fs o').map (x_fv ad M t' u') := by
    refine x_fs_keep hv'.2 h1.1 ?_
    rintro k' g' hk' hg' ⟨et, e, e2⟩
    have hl' := x_fs_len o' h2.2.1
    have hk' : k' < (x_fs o').length := hk'
    have e1 := x_fs_reg o' h2.2.1 k' (by omega) g' hg'
    have eo : o' = o := by omega
    subst eo et
    obtain ⟨e3, -⟩ := x_so_inj (n := 1) (i := 0) (i' := 0) hv'.2 hv (by omega) (by omega) (by rw [x_so_su, x_so_su]; exact e2)
    have e3 : u' = u := e3
    subst e3
    exact hne rfl
  unfold x_cell
  dsimp only
  split
  · rfl
  · rw [hf]
  · rw [hf]
  · rw [hm]
theorem x_af_upd {i : Nat} {v : Int} (hi : i < n) (hv : x_vo t o u = true) : x_af (x_wr M t o (x_so u n i) v) t o u n = upd (x_af M t o u n) i (Int32.ofInt v) := by
  funext j
  have h1 := x_vo_lt hv
  show (if j < n then _ else _) = (if j = i then _ else (if j < n then _ else _))
  by_cases hj : j = i
  · subst hj
    rw [if_pos hi, if_pos rfl, x_rd_wr_eq]
  · rw [if_neg hj]
    by_cases hjn : j < n
    · rw [if_pos hjn, if_pos hjn, x_rd_wr_ne h1.1 h1.1 (fun e => hj (x_so_inj hv hv hjn hi e.2.2).2)]
    · rw [if_neg hjn, if_neg hjn]
theorem x_fs_set {k g : Nat} {v : Int} (hv : x_vo t o u = true) (hk : k < (x_fs o).length) (hg : x_fk o k = (0, g) ∨ x_fk o k = (1, g)) : (x_fs o).map (x_fv ad (x_wr M t g (x_su u) v) t u) = ((x_fs o).map (x_fv ad M t u)).set k (.int (Int32.ofInt v)) := by
  have h1 := x_vo_lt hv
  have hl := x_fs_len o h1.2.1
  have e0 := x_fs_reg o h1.2.1 k (by omega) g hg
  apply List.ext_getElem?
  intro j
  rw [List.getElem?_set, List.getElem?_map, List.getElem?_map, List.length_map]
  by_cases hj : k = j
  · subst hj
    rw [if_pos rfl, if_pos hk, x_fk_mem hk]
    rcases hg with hg | hg
    · rw [hg]
      show some (Value.int _) = some (Value.int _)
      rw [x_rd_wr_eq]
    · rw [hg]
      show some (Value.int _) = some (Value.int _)
      rw [x_rd_wr_eq]
  · rw [if_neg hj]
    cases hf : (x_fs o)[j]? with
    | none => rfl
    | some f =>
      have hlt : j < (x_fs o).length := (List.getElem?_eq_some_iff.mp hf).1
      have e : x_fk o j = f := Option.some.inj ((x_fk_mem hlt).symm.trans hf)
      show some (x_fv ad _ t u f) = some (x_fv ad M t u f)
      match f, e with
      | (0, g'), e =>
        show some (Value.int _) = some (Value.int _)
        have e1 := x_fs_reg o h1.2.1 j (by omega) g' (Or.inl e)
        rw [x_rd_wr_ne h1.1 h1.1 (by omega)]
      | (1, g'), e =>
        show some (Value.int _) = some (Value.int _)
        have e1 := x_fs_reg o h1.2.1 j (by omega) g' (Or.inr e)
        rw [x_rd_wr_ne h1.1 h1.1 (by omega)]
      | (2, g'), _ => rfl
      | (3, g'), _ => rfl
      | (j' + 4, g'), _ => rfl
theorem x_f2f (f : UInt32) : (Int32.ofInt (x_f2i f)).toUInt32 = f := by
  unfold x_f2i
  rw [Int32.ofInt_toInt]
  rfl
end
