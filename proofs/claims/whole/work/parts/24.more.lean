/-! ===== constants of the pool, switches, fields, arrays ===== -/
theorem iX0 : ∀ w ∈ wsX00, w ∈ x_Ts := fun w h => x_Ts_of ((by decide +kernel : ∀ w ∈ wsX00, w ∈ lw_tbl) w h) (List.all_eq_true.mp (by decide +kernel : wsX00.all goodWord = true) w h)
theorem iX1 : ∀ w ∈ wsX10, w ∈ x_Ts := fun w h => x_Ts_of ((by decide +kernel : ∀ w ∈ wsX10, w ∈ lw_tbl) w h) (List.all_eq_true.mp (by decide +kernel : wsX10.all goodWord = true) w h)
theorem iX2 : ∀ w ∈ wsX20, w ∈ x_Ts := fun w h => x_Ts_of ((by decide +kernel : ∀ w ∈ wsX20, w ∈ lw_tbl) w h) (List.all_eq_true.mp (by decide +kernel : wsX20.all goodWord = true) w h)
theorem iX3 : ∀ w ∈ wsX30, w ∈ x_Ts := fun w h => x_Ts_of ((by decide +kernel : ∀ w ∈ wsX30, w ∈ lw_tbl) w h) (List.all_eq_true.mp (by decide +kernel : wsX30.all goodWord = true) w h)
theorem iX4 : ∀ w ∈ wsX40, w ∈ x_Ts := fun w h => x_Ts_of ((by decide +kernel : ∀ w ∈ wsX40, w ∈ lw_tbl) w h) (List.all_eq_true.mp (by decide +kernel : wsX40.all goodWord = true) w h)
theorem iX5 : ∀ w ∈ wsX50, w ∈ x_Ts := fun w h => x_Ts_of ((by decide +kernel : ∀ w ∈ wsX50, w ∈ lw_tbl) w h) (List.all_eq_true.mp (by decide +kernel : wsX50.all goodWord = true) w h)
theorem iX6 : ∀ w ∈ wsX60, w ∈ x_Ts := fun w h => x_Ts_of ((by decide +kernel : ∀ w ∈ wsX60, w ∈ lw_tbl) w h) (List.all_eq_true.mp (by decide +kernel : wsX60.all goodWord = true) w h)
theorem iX7 : ∀ w ∈ wsX70, w ∈ x_Ts := fun w h => x_Ts_of ((by decide +kernel : ∀ w ∈ wsX70, w ∈ lw_tbl) w h) (List.all_eq_true.mp (by decide +kernel : wsX70.all goodWord = true) w h)
theorem iX8 : ∀ w ∈ wsX80, w ∈ x_Ts := fun w h => x_Ts_of ((by decide +kernel : ∀ w ∈ wsX80, w ∈ lw_tbl) w h) (List.all_eq_true.mp (by decide +kernel : wsX80.all goodWord = true) w h)
theorem iX9 : ∀ w ∈ wsX90, w ∈ x_Ts := fun w h => x_Ts_of ((by decide +kernel : ∀ w ∈ wsX90, w ∈ lw_tbl) w h) (List.all_eq_true.mp (by decide +kernel : wsX90.all goodWord = true) w h)
theorem iX10 : ∀ w ∈ wsX100, w ∈ x_Ts := fun w h => x_Ts_of ((by decide +kernel : ∀ w ∈ wsX100, w ∈ lw_tbl) w h) (List.all_eq_true.mp (by decide +kernel : wsX100.all goodWord = true) w h)
theorem iX11 : ∀ w ∈ wsX110, w ∈ x_Ts := fun w h => x_Ts_of ((by decide +kernel : ∀ w ∈ wsX110, w ∈ lw_tbl) w h) (List.all_eq_true.mp (by decide +kernel : wsX110.all goodWord = true) w h)
theorem x_cls_ok : ∀ o, o < 79 → x_cn o < 12 → x_ar o = none ∧ ∃ C T N, vwCl[x_cn o]? = some (C, T, N) ∧ (x_fs o).length = N := by
  have key : ∀ o, o < 79 → x_cn o < 12 → x_ar o = none ∧ (vwCl[x_cn o]?).map (fun q => q.2.2) = some (x_fs o).length := by decide +kernel
  intro o h1 h2
  obtain ⟨a, b⟩ := key o h1 h2
  refine ⟨a, ?_⟩
  cases hq : vwCl[x_cn o]? with
  | none => rw [hq] at b; cases b
  | some z =>
    rw [hq] at b
    obtain ⟨C, T, N⟩ := z
    exact ⟨C, T, N, rfl, (Option.some.inj b).symm⟩
def x_isI (z : Option FieldType) : Bool := match z with
  | some .int => true
  | _ => false
def x_isB (z : Option FieldType) : Bool := match z with
  | some .boolean => true
  | _ => false
theorem x_isI_of {z : Option FieldType} (h : x_isI z = true) : z = some .int := by
  unfold x_isI at h
  split at h
  · rfl
  · cases h
theorem x_isB_of {z : Option FieldType} (h : x_isB z = true) : z = some .boolean := by
  unfold x_isB at h
  split at h
  · rfl
  · cases h
def x_tyq (o k : Nat) : Bool := match vwCl[x_cn o]? with
  | none => true
  | some q => (!(Nat.beq (x_fk o k).1 0) || (x_isI (parseFieldDescriptor (q.2.1 k).2.2.1) && !(q.2.1 k).2.2.2)) && (!(Nat.beq (x_fk o k).1 1) || (x_isB (parseFieldDescriptor (q.2.1 k).2.2.1) && !(q.2.1 k).2.2.2))
theorem x_ty_ok : ∀ o, o < 79 → ∀ k, k < 20 → k < (x_fs o).length → ∀ q : vw_C, vwCl[x_cn o]? = some q → ((x_fk o k).1 = 0 → parseFieldDescriptor (q.2.1 k).2.2.1 = some .int ∧ (q.2.1 k).2.2.2 = false) ∧ ((x_fk o k).1 = 1 → parseFieldDescriptor (q.2.1 k).2.2.1 = some .boolean ∧ (q.2.1 k).2.2.2 = false) := by
  have key : ∀ o, o < 79 → ∀ k, k < 20 → k < (x_fs o).length → x_tyq o k = true := by decide +kernel
  intro o h1 k h2 h3 q hq
  have a := key o h1 k h2 h3
  unfold x_tyq at a
  rw [hq] at a
  simp only [Bool.and_eq_true, Bool.or_eq_true, Bool.not_eq_true'] at a
  obtain ⟨a1, a2⟩ := a
  refine ⟨fun g => ?_, fun g => ?_⟩
  · rw [g] at a1
    rcases a1 with a1 | a1
    · cases a1
    · exact ⟨x_isI_of a1.1, a1.2⟩
  · rw [g] at a2
    rcases a2 with a2 | a2
    · cases a2
    · exact ⟨x_isB_of a2.1, a2.2⟩
theorem x_cl_words : ∀ (ci : Nat) (q : vw_C), vwCl[ci]? = some q → (∀ w ∈ u_ws q.1 q.2.1 q.2.2, w ∈ x_Ts) ∧ (∃ ty0 : Nat → FieldType, ∀ k, k < q.2.2 → parseFieldDescriptor (q.2.1 k).2.2.1 = some (ty0 k)) ∧ (∀ a, a < q.2.2 → ∀ b, b < q.2.2 → a ≠ b → (q.2.1 a).2.1 ≠ (q.2.1 b).2.1) := by
  intro ci q h
  have hlt : ci < 12 := (List.getElem?_eq_some_iff.mp h).1
  have : ci = 0 ∨ ci = 1 ∨ ci = 2 ∨ ci = 3 ∨ ci = 4 ∨ ci = 5 ∨ ci = 6 ∨ ci = 7 ∨ ci = 8 ∨ ci = 9 ∨ ci = 10 ∨ ci = 11 := by omega
  rcases this with rfl | rfl | rfl | rfl | rfl | rfl | rfl | rfl | rfl | rfl | rfl | rfl
  · cases h; exact ⟨iX0, ⟨tyX0, tyX0_ok⟩, nmX0⟩
  · cases h; exact ⟨iX1, ⟨tyX1, tyX1_ok⟩, nmX1⟩
  · cases h; exact ⟨iX2, ⟨tyX2, tyX2_ok⟩, nmX2⟩
  · cases h; exact ⟨iX3, ⟨tyX3, tyX3_ok⟩, nmX3⟩
  · cases h; exact ⟨iX4, ⟨tyX4, tyX4_ok⟩, nmX4⟩
  · cases h; exact ⟨iX5, ⟨tyX5, tyX5_ok⟩, nmX5⟩
  · cases h; exact ⟨iX6, ⟨tyX6, tyX6_ok⟩, nmX6⟩
  · cases h; exact ⟨iX7, ⟨tyX7, tyX7_ok⟩, nmX7⟩
  · cases h; exact ⟨iX8, ⟨tyX8, tyX8_ok⟩, nmX8⟩
  · cases h; exact ⟨iX9, ⟨tyX9, tyX9_ok⟩, nmX9⟩
  · cases h; exact ⟨iX10, ⟨tyX10, tyX10_ok⟩, nmX10⟩
  · cases h; exact ⟨iX11, ⟨tyX11, tyX11_ok⟩, nmX11⟩
theorem x_ref_ok : ∀ o, o < 79 → ∀ k, k < 20 → (x_fk o k).1 = 2 → ∀ t, t < 4 → ∀ u, u ∈ x_us → x_vo t o u = true → x_vo t (x_fk o k).2 u = true := by decide +kernel
theorem x_ref3_ok : ∀ o, o < 79 → ∀ k, k < 20 → ((x_fk o k).1 = 3 ∨ (x_fk o k).1 = 4) → o = 60 ∧ (x_fk o k).2 = 0 := by decide +kernel
theorem x_fk_small : ∀ o, o < 79 → ∀ k, k < 20 → k < (x_fs o).length → (x_fk o k).1 ≤ 4 := by decide +kernel
theorem x_vd_off {E : Nat → Bool} {t o : Nat} {u : Option Nat} (h : x_vd E (t, o, u)) : t < 4 ∧ o < 79 ∧ u ∈ x_us := x_vo_lt h.2
section XJ
variable {p : Program} {l : Launch} {e : Env} {R : Room} {s : State} {m : MethodId} {args : Array Value} {below : List Frame} {meth : Method} {c : Code} {H H0 : Heap} {locs : List Loc} {cells slots : Nat} {Q : State → Prop}
variable {cc : ByteArray} {pc nx nL : Nat} {ls : Array Slot} {own : String} {E : Nat → Bool} {ad : xId → Nat} {dA : Nat → ClassId} {D : va_G} {A : Nat → Prop} {q : Bool} {b Ls : Nat} {xs : Nat → Int32} {sc : xB} {L : xL} {st : List xV} {M : xM} {N : xN}
theorem s_ldcfw {v : UInt32} {ix : Nat} (F : x_fix p s m args c H0 cc nL own E ad dA D A q b Ls xs sc) (hw : Cond.constantFloat own ix v ∈ x_Ts) (hd : decode cc pc = .ok (.ldc_w ix, 3)) {rest : List Value} (k : W p l e R s m args below meth c H locs cells slots Q (F0 m (pc + 3) ls (.float v :: rest))) : W p l e R s m args below meth c H locs cells slots Q (F0 m pc ls rest) := by
  intro T hT X
  obtain ⟨t, a, b'⟩ := k T hT X
  refine ⟨t, ?_, b'⟩
  obtain ⟨k0, cf, hk, hcf, hcp⟩ := Cond.constantFloat_spec F.1.2.2.2.1 (F.1.2.2.2.2 _ hw)
  obtain ⟨k', hk', he⟩ := X.warmed.alike.2.2 _ _ hk
  have hexec := F.1.1
  have hdg : decode c.code pc = .ok (.ldc_w ix, 3) := by rw [F.1.2.1]; exact hd
  jvm_step X.here [hexec, hdg, ldc_w.wp_float (s := T) (f := F0 m pc ls rest) X.here.top hk' (by rw [he]; exact hcf) hcp]
  exact a
theorem s_ldc (F : x_fix p s m args c H0 cc nL own E ad dA D A q b Ls xs sc) (r : x_rel H0 nL E ad dA D A sc L st M H locs ls) (hN : x_K p l e R s m args below meth c cells slots Q H0 nL E ad dA D A sc N) {ix : Nat} {ex : List (Int × Nat)} (hw : ∀ v k, ex.head? = some (v, k) → (k = 0 → x_in v ∧ Cond.constant own ix (Int32.ofInt v) ∈ x_Ts) ∧ (k = 1 → Cond.constantFloat own ix (UInt32.ofNat v.toNat) ∈ x_Ts)) (hd : decode cc pc = .ok (.ldc ix, 2)) (h : x_ldc N (pc + 2) ex L st M) : W p l e R s m args below meth c H locs cells slots Q (F0 m pc ls (st.map (x_cv ad))) := by
  unfold x_ldc at h
  split at h
  · obtain ⟨g1, g2⟩ := (hw _ _ rfl).1 rfl
    exact lv_ldc F.1.1 F.1.2.1 F.1.2.2.2.1 (F.1.2.2.2.2 _ g2) hd (hN _ _ _ _ _ _ _ h (x_relS r (x_push (v := .inl _) g1 r.2.1)))
  · exact lv_ldcf F.1.1 F.1.2.1 F.1.2.2.2.1 (F.1.2.2.2.2 _ ((hw _ _ rfl).2 rfl)) hd (hN _ _ _ _ _ _ _ h (x_relS r (x_push (v := .inr (.inl _)) trivial r.2.1)))
  · exact h.elim
theorem s_ldc_w (F : x_fix p s m args c H0 cc nL own E ad dA D A q b Ls xs sc) (r : x_rel H0 nL E ad dA D A sc L st M H locs ls) (hN : x_K p l e R s m args below meth c cells slots Q H0 nL E ad dA D A sc N) {ix : Nat} {ex : List (Int × Nat)} (hw : ∀ v k, ex.head? = some (v, k) → (k = 0 → x_in v ∧ Cond.constant own ix (Int32.ofInt v) ∈ x_Ts) ∧ (k = 1 → Cond.constantFloat own ix (UInt32.ofNat v.toNat) ∈ x_Ts)) (hd : decode cc pc = .ok (.ldc_w ix, 3)) (h : x_ldc N (pc + 3) ex L st M) : W p l e R s m args below meth c H locs cells slots Q (F0 m pc ls (st.map (x_cv ad))) := by
  unfold x_ldc at h
  split at h
  · obtain ⟨g1, g2⟩ := (hw _ _ rfl).1 rfl
    exact lv_ldcw F.1.1 F.1.2.1 F.1.2.2.2.1 (F.1.2.2.2.2 _ g2) hd (hN _ _ _ _ _ _ _ h (x_relS r (x_push (v := .inl _) g1 r.2.1)))
  · exact s_ldcfw F ((hw _ _ rfl).2 rfl) hd (hN _ _ _ _ _ _ _ h (x_relS r (x_push (v := .inr (.inl _)) trivial r.2.1)))
  · exact h.elim
theorem x_sw_spec {P : Nat → Prop} {x : Int} {d : Nat} : ∀ {ps : List (Int × Nat)}, x_sw P x d ps → (∃ v t, (v, t) ∈ ps ∧ x = v ∧ P t) ∨ ((∀ v t, (v, t) ∈ ps → x ≠ v) ∧ P d)
  | [], h => Or.inr ⟨fun _ _ h => (List.not_mem_nil h).elim, h⟩
  | (v, t) :: ps, h => by
    by_cases hx : x = v
    · exact Or.inl ⟨v, t, List.mem_cons_self, hx, h.1 hx⟩
    · rcases x_sw_spec (ps := ps) (h.2 hx) with ⟨v', t', g1, g2, g3⟩ | ⟨g1, g2⟩
      · exact Or.inl ⟨v', t', List.mem_cons_of_mem _ g1, g2, g3⟩
      · refine Or.inr ⟨fun v' t' hm => ?_, g2⟩
        rcases List.mem_cons.mp hm with e | e
        · cases e; exact hx
        · exact g1 v' t' e
/-- a table switch: every listed value is a place of the table, every place is listed -/
theorem s_table (F : x_fix p s m args c H0 cc nL own E ad dA D A q b Ls xs sc) (r : x_rel H0 nL E ad dA D A sc L st M H locs ls) (hN : x_K p l e R s m args below meth c cells slots Q H0 nL E ad dA D A sc N) {dflt lo hi : Int} {offs : Array Int} {len : Nat} {ex : List (Int × Nat)} (hw : ∀ a d ps, ex = (a, d) :: ps → (pc : Int) + dflt = (d : Int) ∧ (∀ v t, (v, t) ∈ ps → ∃ off, offs[(v - lo).toNat]? = some off ∧ (pc : Int) + off = (t : Int) ∧ lo ≤ v ∧ v ≤ hi) ∧ ∀ v : Int, lo ≤ v → v ≤ hi → ∃ t, (v, t) ∈ ps) (hd : decode cc pc = .ok (.tableswitch dflt lo hi offs, len)) (h : x_swi N ex L st M) : W p l e R s m args below meth c H locs cells slots Q (F0 m pc ls (st.map (x_cv ad))) := by
  unfold x_swi at h
  split at h
  · rename_i a d ps x r'
    obtain ⟨w1, w2, w3⟩ := hw _ _ _ rfl
    obtain ⟨gx, g2⟩ := x_pop1 r.2.1
    have k' := x_relS r g2
    have ex : (Int32.ofInt x).toInt = x := x_toI gx
    rcases x_sw_spec h with ⟨v, t, m1, rfl, m3⟩ | ⟨m1, m2⟩
    · obtain ⟨off, o1, o2, o3, o4⟩ := w2 _ _ m1
      exact lv_tableIn (x := Int32.ofInt x) F.1.1 F.1.2.1 hd (by rw [ex]; omega) (by rw [ex]; omega) (by rw [ex]; exact o1) o2 (hN _ _ _ _ _ _ _ m3 k')
    · refine lv_tableOut (x := Int32.ofInt x) F.1.1 F.1.2.1 hd ?_ w1 (hN _ _ _ _ _ _ _ m2 k')
      rw [ex]
      rcases Int.lt_or_le x lo with q1 | q1
      · exact Or.inl q1
      · rcases Int.lt_or_le hi x with q2 | q2
        · exact Or.inr q2
        · obtain ⟨t, ht⟩ := w3 x q1 q2
          exact absurd rfl (m1 x t ht)
  · exact h.elim
theorem s_lookup (F : x_fix p s m args c H0 cc nL own E ad dA D A q b Ls xs sc) (r : x_rel H0 nL E ad dA D A sc L st M H locs ls) (hN : x_K p l e R s m args below meth c cells slots Q H0 nL E ad dA D A sc N) {dflt : Int} {pr : Array (Int × Int)} {len : Nat} {ex : List (Int × Nat)} (hw : ∀ a d ps, ex = (a, d) :: ps → (pr.toList.zip (pr.toList.drop 1)).all (fun (a, next) => a.1 < next.1) = true ∧ (∀ v t, (v, t) ∈ ps → (pc : Int) + Op.lookupswitch.offset pr.toList dflt v = (t : Int)) ∧ ∀ x : Int, (∀ v t, (v, t) ∈ ps → x ≠ v) → (pc : Int) + Op.lookupswitch.offset pr.toList dflt x = (d : Int)) (hd : decode cc pc = .ok (.lookupswitch dflt pr, len)) (h : x_swi N ex L st M) : W p l e R s m args below meth c H locs cells slots Q (F0 m pc ls (st.map (x_cv ad))) := by
  unfold x_swi at h
  split at h
  · rename_i a d ps x r'
    obtain ⟨w1, w2, w3⟩ := hw _ _ _ rfl
    obtain ⟨gx, g2⟩ := x_pop1 r.2.1
    have k' := x_relS r g2
    have ex : (Int32.ofInt x).toInt = x := x_toI gx
    rcases x_sw_spec h with ⟨v, t, m1, rfl, m3⟩ | ⟨m1, m2⟩
    · exact lv_lookup (x := Int32.ofInt x) F.1.1 F.1.2.1 hd w1 rfl (by rw [ex]; exact w2 _ _ m1) (hN _ _ _ _ _ _ _ m3 k')
    · exact lv_lookup (x := Int32.ofInt x) F.1.1 F.1.2.1 hd w1 rfl (by rw [ex]; exact w3 _ m1) (hN _ _ _ _ _ _ _ m2 k')
  · exact h.elim
theorem x_cell_o {t o : Nat} {u : Option Nat} (ha : x_ar o = none) : x_cell ad dA M (t, o, u) = .inr (x_cn o, (x_fs o).map (x_fv ad M t u)) := by
  unfold x_cell
  dsimp only
  rw [ha]
theorem x_cn64 : x_cn 64 = 99 := rfl
theorem s_get (F : x_fix p s m args c H0 cc nL own E ad dA D A q b Ls xs sc) (r : x_rel H0 nL E ad dA D A sc L st M H locs ls) (hN : x_K p l e R s m args below meth c cells slots Q H0 nL E ad dA D A sc N) {ix : Nat} {ex : List (Int × Nat)} (hw : ∀ a k a' ci ps, ex = (a, k) :: (a', ci) :: ps → ∃ z, vwCl[ci]? = some z ∧ k < z.2.2 ∧ Cond.fieldLink own ix (z.2.1 k).1 (z.2.1 k).2.1 (z.2.1 k).2.2.1 ∈ x_Ts) (hd : decode cc pc = .ok (.getfield ix, 3)) (h : x_get N (pc + 3) ex L st M) : W p l e R s m args below meth c H locs cells slots Q (F0 m pc ls (st.map (x_cv ad))) := by
  unfold x_get at h
  split at h
  · rename_i a k a' ci ps t o u r'
    cases hbq : Nat.beq (x_cn o) ci
    · rw [hbq] at h; exact h.elim
    · rw [hbq] at h
      have eci : x_cn o = ci := Nat.eq_of_beq_eq_true hbq
      subst eci
      obtain ⟨⟨C, T, Nf⟩, hz, hk, hl⟩ := hw _ _ _ _ _ rfl
      obtain ⟨gv, g2⟩ := x_pop1 r.2.1
      have hlt12 : x_cn o < 12 := (List.getElem?_eq_some_iff.mp hz).1
      have hv : x_vd E (t, o, u) := by
        rcases gv with gv | gv
        · exact gv
        · cases gv; exact absurd hlt12 (by decide)
      have hoff := x_vd_off hv
      obtain ⟨har, C', T', N', hz', hlen⟩ := x_cls_ok o hoff.2.1 hlt12
      rw [hz] at hz'
      cases hz'
      have hk' : k < (x_fs o).length := by rw [hlen]; exact hk
      have hl20 := x_fs_len o hoff.2.1
      obtain ⟨q0, hq, hws⟩ := x_ws_at (ad := ad) (dA := dA) (M := M) hv
      rw [x_cell_o har] at hws
      obtain ⟨hwd, -, -⟩ := x_cl_words _ _ hz
      have hfv : ((x_fs o).map (x_fv ad M t u))[k]? = some (x_fv ad M t u (x_fk o k)) := by rw [List.getElem?_map, x_fk_mem hk']; rfl
      have row := fun (kk : W p l e R s m args below meth c H locs cells slots Q (F0 m (pc + 3) ls (x_fv ad M t u (x_fk o k) :: r'.map (x_cv ad)))) => va_get (D := D) (cl := vwCl) (own := own) (rest := r'.map (x_cv ad)) F.1.1 F.1.2.1 F.1.2.2.2.2 hwd F.1.2.2.2.1 F.2.1 r.2.2.1 q0 hws hz k hk (F.1.2.2.2.2 _ hl) (fun _ h9 => h9) hfv hd kk
      refine row ?_
      have hsm := x_fk_small o hoff.2.1 k (by omega) hk'
      dsimp only [cond] at h
      split at h
      · rename_i g hg
        rw [x_rf_eq] at h
        rw [hg]
        exact hN _ _ _ _ _ _ _ h (x_relS r (x_push (v := .inl _) (r.2.2.2.2.1 _ _ _) g2))
      · rename_i g hg
        rw [x_rf_eq] at h
        rw [hg]
        exact hN _ _ _ _ _ _ _ h (x_relS r (x_push (v := .inl _) (r.2.2.2.2.1 _ _ _) g2))
      · rename_i o' hg
        rw [hg]
        have hok := x_ref_ok o hoff.2.1 k (by omega) (by rw [hg]) t hoff.1 u hoff.2.2 hv.2
        rw [hg] at hok
        exact hN _ _ _ _ _ _ _ h (x_relS r (x_push (v := .inr (.inr (t, o', u))) (Or.inl ⟨hv.1, hok⟩) g2))
      · rename_i o' hg
        have h60 := x_ref3_ok o hoff.2.1 k (by omega) (by rw [hg]; exact Or.inl rfl)
        rw [hg] at h60 ⊢
        have e0 : o' = 0 := h60.2
        have e1 : o = 60 := h60.1
        subst e0 e1
        have ht0 : t = 0 := by
          have hv2 := hv.2
          match t, hv2 with
          | 0, _ => rfl
          | 1, hv2 => cases u <;> simp [x_vo, x_vb] at hv2
          | 2, hv2 => cases u <;> simp [x_vo, x_vb] at hv2
          | 3, hv2 => simp [x_vo] at hv2
          | n + 4, hv2 => simp [x_vo] at hv2
        subst ht0
        exact hN _ _ _ _ _ _ _ h (x_relS r (x_push (v := .inr (.inr (1, 0, none))) (Or.inl ⟨(F.2.2.2.2.1 hv.1).1, by decide⟩) g2))
      · rename_i o' hg
        have h60 := x_ref3_ok o hoff.2.1 k (by omega) (by rw [hg]; exact Or.inr rfl)
        rw [hg] at h60 ⊢
        have e0 : o' = 0 := h60.2
        have e1 : o = 60 := h60.1
        subst e0 e1
        have ht0 : t = 0 := by
          have hv2 := hv.2
          match t, hv2 with
          | 0, _ => rfl
          | 1, hv2 => cases u <;> simp [x_vo, x_vb] at hv2
          | 2, hv2 => cases u <;> simp [x_vo, x_vb] at hv2
          | 3, hv2 => simp [x_vo] at hv2
          | n + 4, hv2 => simp [x_vo] at hv2
        subst ht0
        exact hN _ _ _ _ _ _ _ h (x_relS r (x_push (v := .inr (.inr (2, 0, none))) (Or.inl ⟨(F.2.2.2.2.1 hv.1).2, by decide⟩) g2))
      · exact h.elim
  · exact h.elim
end XJ
