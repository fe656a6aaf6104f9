/-! ===== stores into fields; arrays ===== -/
theorem x_scr_wr {sc : xB} {M : xM} {t r i : Nat} {v : Int} (h : x_scr sc M) (ht : t < 4) (h1 : r ≠ 64) (h2 : r ≠ 65) : x_scr sc (x_wr M t r i v) := by
  intro j
  rw [x_rd_wr_ne ht (by omega) (by omega), x_rd_wr_ne ht (by omega) (by omega)]
  exact h j
theorem x_n01 {x : Int} (h : x = 0 ∨ x = 1) : narrow .boolean (.int (Int32.ofInt x)) = .int (Int32.ofInt x) ∧ fits .boolean (.int (Int32.ofInt x)) = true ∧ vp_nar .boolean (Int32.ofInt x) = Int32.ofInt x := by
  rcases h with rfl | rfl <;> exact ⟨by decide +kernel, by decide +kernel, by decide +kernel⟩
theorem x_ar_kind {o k n : Nat} (h : x_ar o = some (k, n)) : k ≤ 3 ∧ (k = 3 → o = 7 ∧ n = 4) ∧ o < 79 := by
  unfold x_ar at h
  split at h <;> first | (simp only [Option.some.injEq, Prod.mk.injEq] at h; omega) | exact absurd h (by simp)
section XP
variable {p : Program} {l : Launch} {e : Env} {R : Room} {s : State} {m : MethodId} {args : Array Value} {below : List Frame} {meth : Method} {c : Code} {H H0 : Heap} {locs : List Loc} {cells slots : Nat} {Q : State → Prop}
variable {cc : ByteArray} {pc nx nL : Nat} {ls : Array Slot} {own : String} {E : Nat → Bool} {ad : xId → Nat} {dA : Nat → ClassId} {D : va_G} {A : Nat → Prop} {q : Bool} {b Ls : Nat} {xs : Nat → Int32} {sc : xB} {L : xL} {st : List xV} {M : xM} {N : xN}
theorem x_vdA {t o k n : Nat} {u : Option Nat} (h : x_gv E (.inr (.inr (t, o, u)))) (ha : x_ar o = some (k, n)) : x_vd E (t, o, u) := by
  rcases h with h | h
  · exact h
  · cases h; cases ha
theorem x_cell_i {t o k n : Nat} {u : Option Nat} (ha : x_ar o = some (k, n)) (hk : k ≤ 1) : x_cell ad dA M (t, o, u) = .inl (dA k, n, .inl (x_af M t o u n)) := by
  unfold x_cell
  dsimp only
  rw [ha]
  have : k = 0 ∨ k = 1 := by omega
  rcases this with rfl | rfl <;> rfl
theorem x_cell_f {t o n : Nat} {u : Option Nat} (ha : x_ar o = some (2, n)) : x_cell ad dA M (t, o, u) = .inl (dA 2, n, .inr (.inr (.inl (fun i => (x_af M t o u n i).toUInt32)))) := by
  unfold x_cell
  dsimp only
  rw [ha]
  rfl
theorem x_cell_q {t o n : Nat} {u : Option Nat} (ha : x_ar o = some (3, n)) : x_cell ad dA M (t, o, u) = .inl (dA 3, n, .inr (.inr (.inr (.inr (fun i => some (ad (t, 9, some i))))))) := by
  unfold x_cell
  dsimp only
  rw [ha]
  rfl
theorem s_put (F : x_fix p s m args c H0 cc nL own E ad dA D A q b Ls xs sc) (r : x_rel H0 nL E ad dA D A sc L st M H locs ls) (hN : x_K p l e R s m args below meth c cells slots Q H0 nL E ad dA D A sc N) {ix : Nat} {ex : List (Int × Nat)} (hw : ∀ a k a' ci ps, ex = (a, k) :: (a', ci) :: ps → ∃ z, vwCl[ci]? = some z ∧ k < z.2.2 ∧ Cond.fieldLink own ix (z.2.1 k).1 (z.2.1 k).2.1 (z.2.1 k).2.2.1 ∈ x_Ts) (hd : decode cc pc = .ok (.putfield ix, 3)) (h : x_put N (pc + 3) ex L st M) : W p l e R s m args below meth c H locs cells slots Q (F0 m pc ls (st.map (x_cv ad))) := by
  unfold x_put at h
  split at h
  · rename_i a k a' ci ps x t o u r'
    cases hbq : Nat.beq (x_cn o) ci
    · rw [hbq] at h; exact h.elim
    · rw [hbq] at h
      have eci : x_cn o = ci := Nat.eq_of_beq_eq_true hbq
      subst eci
      obtain ⟨⟨C, T, Nf⟩, hz, hk, hl⟩ := hw _ _ _ _ _ rfl
      obtain ⟨gx, g1⟩ := x_pop1 r.2.1
      obtain ⟨gv, g2⟩ := x_pop1 g1
      have hlt12 : x_cn o < 12 := (List.getElem?_eq_some_iff.mp hz).1
      have hv : x_vd E (t, o, u) := by
        rcases gv with gv | gv
        · exact gv
        · cases gv; exact absurd hlt12 (by decide)
      have hoff := x_vd_off hv
      obtain ⟨har, C', T', N', hz', hlen⟩ := x_cls_ok o hoff.2.1 hlt12
      rw [hz] at hz'
      cases hz'
      have hk' : k < (x_fs o).length := by rw [hlen]; exact hk
      have hl20 := x_fs_len o hoff.2.1
      obtain ⟨q0, hq, hws⟩ := x_ws_at (ad := ad) (dA := dA) (M := M) hv
      rw [x_cell_o har] at hws
      obtain ⟨hwd, ⟨ty0, hty⟩, hnm⟩ := x_cl_words _ _ hz
      obtain ⟨hI, hB⟩ := x_ty_ok o hoff.2.1 k (by omega) hk' _ hz
      have hset : ∀ g, (x_fk o k = (0, g) ∨ x_fk o k = (1, g)) → (x_ws E ad dA M).set q0 (ad (t, o, u), .inr (x_cn o, ((x_fs o).map (x_fv ad M t u)).set k (.int (Int32.ofInt x)))) = x_ws E ad dA (x_wr M t g (x_su u) x) := by
        intro g hg
        rw [← x_fs_set hv.2 hk' hg, ← x_cell_o har]
        exact x_ws_set hq (fun id' h1 h2 => x_keepF hv.2 hk' hg h1 h2)
      have go : ∀ (ty : FieldType) (g : Nat), (x_fk o k = (0, g) ∨ x_fk o k = (1, g)) → parseFieldDescriptor (T k).2.2.1 = some ty → (T k).2.2.2 = false → narrow ty (.int (Int32.ofInt x)) = .int (Int32.ofInt x) → fits ty (.int (Int32.ofInt x)) = true → N (pc + 3) L r' (x_wr M t g (x_su u) x) → W p l e R s m args below meth c H locs cells slots Q (F0 m pc ls (.int (Int32.ofInt x) :: .ref (ad (t, o, u)) :: r'.map (x_cv ad))) := by
        intro ty g hg h1 h2 h3 h4 h5
        have hreg := x_fs_reg o hoff.2.1 k (by omega) g hg
        refine va_put (D := D) (cl := vwCl) (own := own) (A := A) (H0 := H0) (locs := locs) F.1.1 F.1.2.1 F.1.2.2.2.2 hwd ty0 hty hnm F.1.2.2.2.1 F.2.1 r.2.2.1 (F.2.2.1 M) r.2.2.2.1 q0 hws hz k hk (F.1.2.2.2.2 _ hl) (fun _ h9 => h9) h2 h1 h3 h4 (by rw [List.length_map]; exact hk') hd (fun H1 locs1 p1 _ p3 => ?_)
        rw [hset g hg] at p1
        exact hN _ _ _ _ _ _ _ h5 ⟨r.1, g2, p1, p3, x_inM_wr r.2.2.2.2.1 gx _ _ _, x_scr_wr r.2.2.2.2.2 hoff.1 (by omega) (by omega)⟩
      dsimp only [cond] at h
      split at h
      · rename_i g hg
        rw [x_wf_eq] at h
        have hi := hI (by rw [hg])
        exact go .int g (Or.inl hg) hi.1 hi.2 rfl rfl h
      · rename_i g hg
        obtain ⟨h01, h⟩ := x_bg_spec h
        rw [x_wf_eq] at h
        have hi := hB (by rw [hg])
        obtain ⟨n1, n2, -⟩ := x_n01 h01
        exact go .boolean g (Or.inr hg) hi.1 hi.2 n1 n2 h
      · exact h.elim
  · exact h.elim
theorem x_afv {t o n : Nat} {u : Option Nat} {i : Int} (h0 : 0 ≤ i) (h1 : i < (n : Int)) : x_af M t o u n i.toNat = Int32.ofInt (x_rd M t o (x_so u n i.toNat)) := if_pos (by omega)
/-- ints and booleans out of arrays, or (ints) out of the script -/
theorem s_iald (F : x_fix p s m args c H0 cc nL own E ad dA D A q b Ls xs sc) (r : x_rel H0 nL E ad dA D A sc L st M H locs ls) (hN : x_K p l e R s m args below meth c cells slots Q H0 nL E ad dA D A sc N) (hd : decode cc pc = .ok (.iaload, 1)) (h : x_ald q N (pc + 1) 0 L st M) : W p l e R s m args below meth c H locs cells slots Q (F0 m pc ls (st.map (x_cv ad))) := by
  unfold x_ald at h
  split at h
  · rename_i i t o u r'
    obtain ⟨gi, g1⟩ := x_pop1 r.2.1
    obtain ⟨gv, g2⟩ := x_pop1 g1
    split at h
    · rename_i k n ha
      cases hbq : Nat.beq k 0
      · rw [hbq] at h; exact h.elim
      · rw [hbq] at h
        have ek : k = 0 := Nat.eq_of_beq_eq_true hbq
        subst ek
        obtain ⟨⟨h0, h1⟩, h⟩ := x_gd_spec h
        rw [x_ra_eq] at h
        have hv := x_vdA gv ha
        obtain ⟨q0, hq, hws⟩ := x_ws_at (ad := ad) (dA := dA) (M := M) hv
        rw [x_cell_i ha (by omega)] at hws
        have hn := x_ar_le ha
        obtain ⟨hin, hcl⟩ := x_idx h0 h1 (by omega)
        refine va_iald (D := D) (cl := vwCl) (rest := r'.map (x_cv ad)) F.1.1 F.1.2.1 F.2.1 r.2.2.1 q0 0 hws rfl hin hd ?_
        rw [hcl, x_afv h0 h1]
        exact hN _ _ _ _ _ _ _ h (x_relS r (x_push (v := .inl _) (r.2.2.2.2.1 _ _ _) g2))
    · cases hc : (q && Nat.beq 0 0 && Nat.beq o 64)
      · rw [hc] at h; exact h.elim
      · rw [hc] at h
        simp only [Bool.and_eq_true] at hc
        have ho : o = 64 := Nat.eq_of_beq_eq_true hc.2
        subst ho
        obtain ⟨⟨h0, h1⟩, h⟩ := x_gd_spec h
        rw [x_rdk_eq] at h
        obtain ⟨hX, hbl, hbA, had, hL4, hs65, hs64⟩ := F.2.2.2.2.2 hc.1.1
        have e65 : x_rd M 0 65 0 = (Ls : Int) := by rw [(r.2.2.2.2.2 0).2]; exact hs65
        rw [e65] at h1
        have h1 : i < (Ls : Int) := by omega
        have hid : (t, 64, u) = ((0, 64, none) : xId) := by
          rcases gv with gv | gv
          · exfalso
            have gv2 := gv.2
            match t, gv2 with
            | 0, g => simp [x_vo] at g
            | 1, g => cases u <;> simp [x_vo, x_vb] at g
            | 2, g => cases u <;> simp [x_vo, x_vb] at g
            | 3, g => simp [x_vo] at g
            | n + 4, g => simp [x_vo] at g
          · exact gv
        obtain ⟨hin, hcl⟩ := x_idx h0 h1 hL4
        have row := va_sld (p := p) (l := l) (e := e) (R := R) (m := m) (args := args) (below := below) (meth := meth) (cells := cells) (slots := slots) (Q := Q) (ls := ls) (rest := r'.map (x_cv ad)) F.1.1 F.1.2.1 hX hbl hbA r.2.2.2.1 hin hd
        rw [hcl] at row
        have hval : Int32.ofInt (x_rd M 0 64 i.toNat) = xs i.toNat := by
          rw [(r.2.2.2.2.2 i.toNat).1, hs64 i.toNat (by omega)]
          exact x_ofI rfl
        have kk := hN _ _ _ _ H locs ls h (x_relS r (x_push (v := .inl _) (r.2.2.2.2.1 _ _ _) g2))
        have kk : W p l e R s m args below meth c H locs cells slots Q (F0 m (pc + 1) ls (.int (Int32.ofInt (x_rd M 0 64 i.toNat)) :: r'.map (x_cv ad))) := kk
        rw [hval] at kk
        have fin := row kk
        show W p l e R s m args below meth c H locs cells slots Q (F0 m pc ls (.int (Int32.ofInt i) :: .ref (ad (t, 64, u)) :: r'.map (x_cv ad)))
        rw [hid, had]
        exact fin
  · exact h.elim
theorem s_zald (F : x_fix p s m args c H0 cc nL own E ad dA D A q b Ls xs sc) (r : x_rel H0 nL E ad dA D A sc L st M H locs ls) (hN : x_K p l e R s m args below meth c cells slots Q H0 nL E ad dA D A sc N) (hd : decode cc pc = .ok (.baload, 1)) (h : x_ald q N (pc + 1) 1 L st M) : W p l e R s m args below meth c H locs cells slots Q (F0 m pc ls (st.map (x_cv ad))) := by
  unfold x_ald at h
  split at h
  · rename_i i t o u r'
    obtain ⟨gi, g1⟩ := x_pop1 r.2.1
    obtain ⟨gv, g2⟩ := x_pop1 g1
    split at h
    · rename_i k n ha
      cases hbq : Nat.beq k 1
      · rw [hbq] at h; exact h.elim
      · rw [hbq] at h
        have ek : k = 1 := Nat.eq_of_beq_eq_true hbq
        subst ek
        obtain ⟨⟨h0, h1⟩, h⟩ := x_gd_spec h
        rw [x_ra_eq] at h
        have hv := x_vdA gv ha
        obtain ⟨q0, hq, hws⟩ := x_ws_at (ad := ad) (dA := dA) (M := M) hv
        rw [x_cell_i ha (by omega)] at hws
        have hn := x_ar_le ha
        obtain ⟨hin, hcl⟩ := x_idx h0 h1 (by omega)
        refine va_zald (D := D) (cl := vwCl) (rest := r'.map (x_cv ad)) F.1.1 F.1.2.1 F.2.1 r.2.2.1 q0 1 hws rfl hin hd ?_
        rw [hcl, x_afv h0 h1]
        exact hN _ _ _ _ _ _ _ h (x_relS r (x_push (v := .inl _) (r.2.2.2.2.1 _ _ _) g2))
    · cases hc : (q && Nat.beq 1 0 && Nat.beq o 64)
      · rw [hc] at h; exact h.elim
      · simp at hc
  · exact h.elim
theorem s_fald (F : x_fix p s m args c H0 cc nL own E ad dA D A q b Ls xs sc) (r : x_rel H0 nL E ad dA D A sc L st M H locs ls) (hN : x_K p l e R s m args below meth c cells slots Q H0 nL E ad dA D A sc N) (hd : decode cc pc = .ok (.faload, 1)) (h : x_fld N (pc + 1) L st M) : W p l e R s m args below meth c H locs cells slots Q (F0 m pc ls (st.map (x_cv ad))) := by
  unfold x_fld at h
  split at h
  · rename_i i t o u r'
    obtain ⟨gi, g1⟩ := x_pop1 r.2.1
    obtain ⟨gv, g2⟩ := x_pop1 g1
    split at h
    · rename_i n ha
      obtain ⟨⟨h0, h1⟩, h⟩ := x_gd_spec h
      rw [x_ra_eq] at h
      have hv := x_vdA gv ha
      obtain ⟨q0, hq, hws⟩ := x_ws_at (ad := ad) (dA := dA) (M := M) hv
      rw [x_cell_f ha] at hws
      have hn := x_ar_le ha
      obtain ⟨hin, hcl⟩ := x_idx h0 h1 (by omega)
      refine va_fald (D := D) (cl := vwCl) (rest := r'.map (x_cv ad)) F.1.1 F.1.2.1 F.2.1 r.2.2.1 q0 2 hws rfl hin hd ?_
      rw [hcl, x_afv h0 h1]
      exact hN _ _ _ _ _ _ _ h (x_relS r (x_push (v := .inr (.inl _)) trivial g2))
    · exact h.elim
  · exact h.elim
theorem s_aald (F : x_fix p s m args c H0 cc nL own E ad dA D A q b Ls xs sc) (r : x_rel H0 nL E ad dA D A sc L st M H locs ls) (hN : x_K p l e R s m args below meth c cells slots Q H0 nL E ad dA D A sc N) (hd : decode cc pc = .ok (.aaload, 1)) (h : x_rld N (pc + 1) L st M) : W p l e R s m args below meth c H locs cells slots Q (F0 m pc ls (st.map (x_cv ad))) := by
  unfold x_rld at h
  split at h
  · rename_i i t o u r'
    obtain ⟨gi, g1⟩ := x_pop1 r.2.1
    obtain ⟨gv, g2⟩ := x_pop1 g1
    split at h
    · rename_i n ha
      obtain ⟨⟨h0, h1⟩, hh⟩ := x_gd_spec h
      have hv := x_vdA gv ha
      obtain ⟨q0, hq, hws⟩ := x_ws_at (ad := ad) (dA := dA) (M := M) hv
      rw [x_cell_q ha] at hws
      have hn := x_ar_le ha
      obtain ⟨hin, hcl⟩ := x_idx h0 h1 (by omega)
      obtain ⟨e7, e4⟩ := (x_ar_kind ha).2.1 rfl
      subst e7 e4
      refine va_aldq (D := D) (cl := vwCl) (rest := r'.map (x_cv ad)) F.1.1 F.1.2.1 F.2.1 r.2.2.1 q0 3 hws rfl hin hd ?_
      rw [hcl]
      have hok : x_vd E (t, 9, some i.toNat) := by
        refine ⟨hv.1, ?_⟩
        have hv2 := hv.2
        have h4 : Nat.blt i.toNat 4 = true := by rw [Nat.blt_eq]; omega
        match t, hv2 with
        | 0, g => simp [x_vo] at g
        | 1, _ => exact h4
        | 2, _ => exact h4
        | 3, g => simp [x_vo] at g
        | n + 4, g => simp [x_vo] at g
      exact hN _ _ _ _ _ _ _ hh (x_relS r (x_push (v := .inr (.inr (t, 9, some i.toNat))) (Or.inl hok) g2))
    · exact h.elim
  · exact h.elim
theorem x_setA {t o n k : Nat} {u : Option Nat} {i : Nat} {x : Int} (hv : x_vd E (t, o, u)) (ha : x_ar o = some (k, n)) (hk : k ≤ 1) (hi : i < n) {q0 : Nat} (hq : (x_ids E)[q0]? = some (t, o, u)) : (x_ws E ad dA M).set q0 (ad (t, o, u), .inl (dA k, n, .inl (upd (x_af M t o u n) i (Int32.ofInt x)))) = x_ws E ad dA (x_wr M t o (x_so u n i) x) := by
  rw [← x_af_upd hi hv.2, ← x_cell_i ha hk]
  exact x_ws_set hq (fun id' h1 h2 => x_keepA hv.2 ha hi h1 h2)
theorem x_setAf {t o n : Nat} {u : Option Nat} {i : Nat} {x : UInt32} (hv : x_vd E (t, o, u)) (ha : x_ar o = some (2, n)) (hi : i < n) {q0 : Nat} (hq : (x_ids E)[q0]? = some (t, o, u)) : (x_ws E ad dA M).set q0 (ad (t, o, u), .inl (dA 2, n, .inr (.inr (.inl (vf_upd (fun i => (x_af M t o u n i).toUInt32) i x))))) = x_ws E ad dA (x_wr M t o (x_so u n i) (x_f2i x)) := by
  have e : vf_upd (fun i => (x_af M t o u n i).toUInt32) i x = fun j => (x_af (x_wr M t o (x_so u n i) (x_f2i x)) t o u n j).toUInt32 := by
    funext j
    rw [x_af_upd hi hv.2]
    unfold vf_upd upd
    split
    · rw [x_f2f]
    · rfl
  rw [e, ← x_cell_f ha]
  exact x_ws_set hq (fun id' h1 h2 => x_keepA hv.2 ha hi h1 h2)
theorem x_ar_65 {o k n : Nat} (ha : x_ar o = some (k, n)) : o ≠ 64 ∧ o ≠ 65 := ⟨fun e => (by subst e; cases ha), fun e => (by subst e; cases ha)⟩
theorem s_iast (F : x_fix p s m args c H0 cc nL own E ad dA D A q b Ls xs sc) (r : x_rel H0 nL E ad dA D A sc L st M H locs ls) (hN : x_K p l e R s m args below meth c cells slots Q H0 nL E ad dA D A sc N) (hd : decode cc pc = .ok (.iastore, 1)) (h : x_ist N (pc + 1) L st M) : W p l e R s m args below meth c H locs cells slots Q (F0 m pc ls (st.map (x_cv ad))) := by
  unfold x_ist at h
  split at h
  · rename_i x i t o u r'
    obtain ⟨gx, g0⟩ := x_pop1 r.2.1
    obtain ⟨gi, g1⟩ := x_pop1 g0
    obtain ⟨gv, g2⟩ := x_pop1 g1
    split at h
    · rename_i n ha
      obtain ⟨⟨h0, h1⟩, h⟩ := x_gd_spec h
      rw [x_wa_eq] at h
      have hv := x_vdA gv ha
      obtain ⟨q0, hq, hws⟩ := x_ws_at (ad := ad) (dA := dA) (M := M) hv
      rw [x_cell_i ha (by omega)] at hws
      have hn := x_ar_le ha
      obtain ⟨hin, hcl⟩ := x_idx h0 h1 (by omega)
      refine va_iast (D := D) (cl := vwCl) (A := A) (H0 := H0) (locs := locs) (rest := r'.map (x_cv ad)) F.1.1 F.1.2.1 F.2.1 r.2.2.1 (F.2.2.1 M) r.2.2.2.1 q0 0 hws rfl hin hd (fun H1 locs1 p1 _ p3 => ?_)
      rw [hcl, x_setA hv ha (by omega) (by omega) hq] at p1
      exact hN _ _ _ _ _ _ _ h ⟨r.1, g2, p1, p3, x_inM_wr r.2.2.2.2.1 gx _ _ _, x_scr_wr r.2.2.2.2.2 (x_vd_off hv).1 (x_ar_65 ha).1 (x_ar_65 ha).2⟩
    · exact h.elim
  · exact h.elim
theorem s_zast (F : x_fix p s m args c H0 cc nL own E ad dA D A q b Ls xs sc) (r : x_rel H0 nL E ad dA D A sc L st M H locs ls) (hN : x_K p l e R s m args below meth c cells slots Q H0 nL E ad dA D A sc N) (hd : decode cc pc = .ok (.bastore, 1)) (h : x_bst N (pc + 1) L st M) : W p l e R s m args below meth c H locs cells slots Q (F0 m pc ls (st.map (x_cv ad))) := by
  unfold x_bst at h
  split at h
  · rename_i x i t o u r'
    obtain ⟨gx, g0⟩ := x_pop1 r.2.1
    obtain ⟨gi, g1⟩ := x_pop1 g0
    obtain ⟨gv, g2⟩ := x_pop1 g1
    split at h
    · rename_i n ha
      obtain ⟨⟨h0, h1⟩, h⟩ := x_gd_spec h
      obtain ⟨h01, h⟩ := x_bg_spec h
      rw [x_wa_eq] at h
      have hv := x_vdA gv ha
      obtain ⟨q0, hq, hws⟩ := x_ws_at (ad := ad) (dA := dA) (M := M) hv
      rw [x_cell_i ha (by omega)] at hws
      have hn := x_ar_le ha
      obtain ⟨hin, hcl⟩ := x_idx h0 h1 (by omega)
      refine va_zast (D := D) (cl := vwCl) (A := A) (H0 := H0) (locs := locs) (rest := r'.map (x_cv ad)) F.1.1 F.1.2.1 F.2.1 r.2.2.1 (F.2.2.1 M) r.2.2.2.1 q0 1 hws rfl hin hd (fun H1 locs1 p1 _ p3 => ?_)
      rw [hcl, (x_n01 h01).2.2, x_setA hv ha (by omega) (by omega) hq] at p1
      exact hN _ _ _ _ _ _ _ h ⟨r.1, g2, p1, p3, x_inM_wr r.2.2.2.2.1 gx _ _ _, x_scr_wr r.2.2.2.2.2 (x_vd_off hv).1 (x_ar_65 ha).1 (x_ar_65 ha).2⟩
    · exact h.elim
  · exact h.elim
theorem s_fast (F : x_fix p s m args c H0 cc nL own E ad dA D A q b Ls xs sc) (r : x_rel H0 nL E ad dA D A sc L st M H locs ls) (hN : x_K p l e R s m args below meth c cells slots Q H0 nL E ad dA D A sc N) (hd : decode cc pc = .ok (.fastore, 1)) (h : x_fst N (pc + 1) L st M) : W p l e R s m args below meth c H locs cells slots Q (F0 m pc ls (st.map (x_cv ad))) := by
  unfold x_fst at h
  split at h
  · rename_i x i t o u r'
    obtain ⟨-, g0⟩ := x_pop1 r.2.1
    obtain ⟨gi, g1⟩ := x_pop1 g0
    obtain ⟨gv, g2⟩ := x_pop1 g1
    split at h
    · rename_i n ha
      obtain ⟨⟨h0, h1⟩, h⟩ := x_gd_spec h
      rw [x_wa_eq] at h
      have hv := x_vdA gv ha
      obtain ⟨q0, hq, hws⟩ := x_ws_at (ad := ad) (dA := dA) (M := M) hv
      rw [x_cell_f ha] at hws
      have hn := x_ar_le ha
      obtain ⟨hin, hcl⟩ := x_idx h0 h1 (by omega)
      refine va_fast (D := D) (cl := vwCl) (A := A) (H0 := H0) (locs := locs) (rest := r'.map (x_cv ad)) F.1.1 F.1.2.1 F.2.1 r.2.2.1 (F.2.2.1 M) r.2.2.2.1 q0 2 hws rfl hin hd (fun H1 locs1 p1 _ p3 => ?_)
      rw [hcl, x_setAf hv ha (by omega) hq] at p1
      exact hN _ _ _ _ _ _ _ h ⟨r.1, g2, p1, p3, x_inM_wr r.2.2.2.2.1 (x_in_toI _) _ _ _, x_scr_wr r.2.2.2.2.2 (x_vd_off hv).1 (x_ar_65 ha).1 (x_ar_65 ha).2⟩
    · exact h.elim
  · exact h.elim
theorem s_alen (F : x_fix p s m args c H0 cc nL own E ad dA D A q b Ls xs sc) (r : x_rel H0 nL E ad dA D A sc L st M H locs ls) (hN : x_K p l e R s m args below meth c cells slots Q H0 nL E ad dA D A sc N) (hd : decode cc pc = .ok (.arraylength, 1)) (h : x_len1 q N (pc + 1) L st M) : W p l e R s m args below meth c H locs cells slots Q (F0 m pc ls (st.map (x_cv ad))) := by
  unfold x_len1 at h
  split at h
  · rename_i t o u r'
    obtain ⟨gv, g2⟩ := x_pop1 r.2.1
    split at h
    · rename_i k n ha
      have hv := x_vdA gv ha
      obtain ⟨q0, hq, hws⟩ := x_ws_at (ad := ad) (dA := dA) (M := M) hv
      have hn := x_ar_le ha
      have hin : x_in (n : Int) := ⟨by omega, by omega⟩
      have kk := hN _ _ _ _ H locs ls h (x_relS r (x_push (v := .inl (n : Int)) hin g2))
      have hk := (x_ar_kind ha).1
      have : k = 0 ∨ k = 1 ∨ k = 2 ∨ k = 3 := by omega
      rcases this with rfl | rfl | rfl | rfl
      · rw [x_cell_i ha (by omega)] at hws
        exact va_alen (D := D) (cl := vwCl) F.1.1 F.1.2.1 F.2.1 r.2.2.1 q0 0 hws (ty := .int) rfl (v := Int32.ofInt (n : Int)) Int32.ofInt_eq_ofNat.symm hd kk
      · rw [x_cell_i ha (by omega)] at hws
        exact va_alen (D := D) (cl := vwCl) F.1.1 F.1.2.1 F.2.1 r.2.2.1 q0 1 hws (ty := .boolean) rfl (v := Int32.ofInt (n : Int)) Int32.ofInt_eq_ofNat.symm hd kk
      · rw [x_cell_f ha] at hws
        exact va_alen (D := D) (cl := vwCl) F.1.1 F.1.2.1 F.2.1 r.2.2.1 q0 2 hws (ty := .float) rfl (v := Int32.ofInt (n : Int)) Int32.ofInt_eq_ofNat.symm hd kk
      · rw [x_cell_q ha] at hws
        exact va_alen (D := D) (cl := vwCl) F.1.1 F.1.2.1 F.2.1 r.2.2.1 q0 3 hws (ty := .object "CueBoard$Playback") rfl (v := Int32.ofInt (n : Int)) Int32.ofInt_eq_ofNat.symm hd kk
    · cases hc : (q && Nat.beq o 64)
      · rw [hc] at h; exact h.elim
      · rw [hc] at h
        simp only [Bool.and_eq_true] at hc
        have ho : o = 64 := Nat.eq_of_beq_eq_true hc.2
        subst ho
        dsimp only [cond] at h
        rw [x_rdk_eq] at h
        obtain ⟨hX, hbl, hbA, had, hL4, hs65, hs64⟩ := F.2.2.2.2.2 hc.1
        have e65 : x_rd M 0 65 0 = (Ls : Int) := by rw [(r.2.2.2.2.2 0).2]; exact hs65
        have hid : (t, 64, u) = ((0, 64, none) : xId) := by
          rcases gv with gv | gv
          · exfalso
            have gv2 := gv.2
            match t, gv2 with
            | 0, g => simp [x_vo] at g
            | 1, g => cases u <;> simp [x_vo, x_vb] at g
            | 2, g => cases u <;> simp [x_vo, x_vb] at g
            | 3, g => simp [x_vo] at g
            | n + 4, g => simp [x_vo] at g
          · exact gv
        have kk := hN _ _ _ _ H locs ls h (x_relS r (x_push (v := .inl _) (r.2.2.2.2.1 _ _ _) g2))
        have kk : W p l e R s m args below meth c H locs cells slots Q (F0 m (pc + 1) ls (.int (Int32.ofInt (x_rd M 0 65 0)) :: r'.map (x_cv ad))) := kk
        rw [e65, Int32.ofInt_eq_ofNat] at kk
        show W p l e R s m args below meth c H locs cells slots Q (F0 m pc ls (.ref (ad (t, 64, u)) :: r'.map (x_cv ad)))
        rw [hid, had]
        exact va_slen F.1.1 F.1.2.1 hX hbl hbA r.2.2.2.1 hd kk
  · exact h.elim
end XP
