/-! ===== the instructions one by one ===== -/
section XI
variable {p : Program} {l : Launch} {e : Env} {R : Room} {s : State} {m : MethodId} {args : Array Value} {below : List Frame} {meth : Method} {c : Code} {H H0 : Heap} {locs : List Loc} {cells slots : Nat} {Q : State → Prop}
variable {cc : ByteArray} {pc nx nL : Nat} {ls : Array Slot} {own : String} {E : Nat → Bool} {ad : xId → Nat} {dA : Nat → ClassId} {D : va_G} {A : Nat → Prop} {q : Bool} {b Ls : Nat} {xs : Nat → Int32} {sc : xB} {L : xL} {st : List xV} {M : xM} {N : xN}
theorem x_pop1 {v : xV} {st : List xV} (h : ∀ w ∈ v :: st, x_gv E w) : x_gv E v ∧ ∀ w ∈ st, x_gv E w := ⟨h v List.mem_cons_self, fun w hw => h w (List.mem_cons_of_mem _ hw)⟩
theorem x_8 {n : Int} (h1 : -128 ≤ n) (h2 : n < 128) : (Int8.ofInt n).toInt32 = Int32.ofInt n := by
  apply Int32.toInt_inj.mp
  rw [Int8.toInt_toInt32, Int8.toInt_ofInt_of_le h1 h2, x_toI ⟨by omega, by omega⟩]
theorem x_16 {n : Int} (h1 : -32768 ≤ n) (h2 : n < 32768) : (Int16.ofInt n).toInt32 = Int32.ofInt n := by
  apply Int32.toInt_inj.mp
  rw [Int16.toInt_toInt32, Int16.toInt_ofInt_of_le h1 h2, x_toI ⟨by omega, by omega⟩]
theorem x_tdiv {x y : Int} (hx : x_in x) (hy : x_in y) : Int32.ofInt (x.tdiv y) = Int32.ofInt x / Int32.ofInt y := by
  apply Int32.toInt_inj.mp
  rw [Int32.toInt_div, x_toI hx, x_toI hy, Int32.toInt_ofInt]
theorem x_tmod {x y : Int} (hx : x_in x) (hy : x_in y) : Int32.ofInt (x.tmod y) = Int32.ofInt x - Int32.ofInt x / Int32.ofInt y * Int32.ofInt y := by
  rw [Int.tmod_def, Int.mul_comm, Int32.ofInt_sub, Int32.ofInt_mul, x_tdiv hx hy]
theorem x_tmod_abs (x y : Int) : (x.tmod y).natAbs ≤ x.natAbs ∧ (0 ≤ x → 0 ≤ x.tmod y) ∧ (x ≤ 0 → x.tmod y ≤ 0) := by
  rcases x with a | a <;> rcases y with b | b
  · have := Nat.mod_le a b
    show ((a % b : Nat) : Int).natAbs ≤ (a : Int).natAbs ∧ (_ → 0 ≤ ((a % b : Nat) : Int)) ∧ ((a : Int) ≤ 0 → ((a % b : Nat) : Int) ≤ 0)
    omega
  · have := Nat.mod_le a (b + 1)
    show ((a % (b + 1) : Nat) : Int).natAbs ≤ (a : Int).natAbs ∧ (_ → 0 ≤ ((a % (b + 1) : Nat) : Int)) ∧ ((a : Int) ≤ 0 → ((a % (b + 1) : Nat) : Int) ≤ 0)
    omega
  · have := Nat.mod_le (a + 1) b
    show (-(((a + 1) % b : Nat) : Int)).natAbs ≤ (-((a : Int) + 1)).natAbs ∧ (0 ≤ -((a : Int) + 1) → 0 ≤ -(((a + 1) % b : Nat) : Int)) ∧ (_ → -(((a + 1) % b : Nat) : Int) ≤ 0)
    omega
  · have := Nat.mod_le (a + 1) (b + 1)
    show (-(((a + 1) % (b + 1) : Nat) : Int)).natAbs ≤ (-((a : Int) + 1)).natAbs ∧ (0 ≤ -((a : Int) + 1) → 0 ≤ -(((a + 1) % (b + 1) : Nat) : Int)) ∧ (_ → -(((a + 1) % (b + 1) : Nat) : Int) ≤ 0)
    omega
theorem x_tmod_in {x y : Int} (hx : x_in x) : x_in (x.tmod y) := by
  obtain ⟨h1, h2⟩ := hx
  obtain ⟨a, b, c⟩ := x_tmod_abs x y
  rcases Int.le_total 0 x with h | h
  · have := b h
    exact ⟨by omega, by omega⟩
  · have := c h
    exact ⟨by omega, by omega⟩
theorem s_iload (F : x_fix p s m args c H0 cc nL own E ad dA D A q b Ls xs sc) (r : x_rel H0 nL E ad dA D A sc L st M H locs ls) (hN : x_K p l e R s m args below meth c cells slots Q H0 nL E ad dA D A sc N) {i : Nat} (hd : decode cc pc = .ok (.iload i, 2)) (h : x_ldi N (pc + 2) i L st M) : W p l e R s m args below meth c H locs cells slots Q (F0 m pc ls (st.map (x_cv ad))) := by
  unfold x_ldi at h
  split at h
  · rename_i x hx
    exact lv_iload F.1.1 F.1.2.1 hd (x_loc r.1.1 hx) (hN _ _ _ _ _ _ _ h (x_relS r (x_push (r.1.2.2 _ (x_nth_mem hx)) r.2.1)))
  · exact h.elim
theorem s_iload_n (F : x_fix p s m args c H0 cc nL own E ad dA D A q b Ls xs sc) (r : x_rel H0 nL E ad dA D A sc L st M H locs ls) (hN : x_K p l e R s m args below meth c cells slots Q H0 nL E ad dA D A sc N) {k : Fin 4} (hd : decode cc pc = .ok (.iload_n k, 1)) (h : x_ldi N (pc + 1) k.val L st M) : W p l e R s m args below meth c H locs cells slots Q (F0 m pc ls (st.map (x_cv ad))) := by
  unfold x_ldi at h
  split at h
  · rename_i x hx
    exact lv_iload_n F.1.1 F.1.2.1 hd rfl (x_loc r.1.1 hx) (hN _ _ _ _ _ _ _ h (x_relS r (x_push (r.1.2.2 _ (x_nth_mem hx)) r.2.1)))
  · exact h.elim
theorem s_fload (F : x_fix p s m args c H0 cc nL own E ad dA D A q b Ls xs sc) (r : x_rel H0 nL E ad dA D A sc L st M H locs ls) (hN : x_K p l e R s m args below meth c cells slots Q H0 nL E ad dA D A sc N) {i : Nat} (hd : decode cc pc = .ok (.fload i, 2)) (h : x_ldf N (pc + 2) i L st M) : W p l e R s m args below meth c H locs cells slots Q (F0 m pc ls (st.map (x_cv ad))) := by
  unfold x_ldf at h
  split at h
  · rename_i x hx
    exact lv_fload F.1.1 F.1.2.1 hd (x_loc r.1.1 hx) (hN _ _ _ _ _ _ _ h (x_relS r (x_push (r.1.2.2 _ (x_nth_mem hx)) r.2.1)))
  · exact h.elim
theorem s_fload_n (F : x_fix p s m args c H0 cc nL own E ad dA D A q b Ls xs sc) (r : x_rel H0 nL E ad dA D A sc L st M H locs ls) (hN : x_K p l e R s m args below meth c cells slots Q H0 nL E ad dA D A sc N) {k : Fin 4} (hd : decode cc pc = .ok (.fload_n k, 1)) (h : x_ldf N (pc + 1) k.val L st M) : W p l e R s m args below meth c H locs cells slots Q (F0 m pc ls (st.map (x_cv ad))) := by
  unfold x_ldf at h
  split at h
  · rename_i x hx
    exact lv_fload_n F.1.1 F.1.2.1 hd rfl (x_loc r.1.1 hx) (hN _ _ _ _ _ _ _ h (x_relS r (x_push (r.1.2.2 _ (x_nth_mem hx)) r.2.1)))
  · exact h.elim
theorem s_aload (F : x_fix p s m args c H0 cc nL own E ad dA D A q b Ls xs sc) (r : x_rel H0 nL E ad dA D A sc L st M H locs ls) (hN : x_K p l e R s m args below meth c cells slots Q H0 nL E ad dA D A sc N) {i : Nat} (hd : decode cc pc = .ok (.aload i, 2)) (h : x_lda N (pc + 2) i L st M) : W p l e R s m args below meth c H locs cells slots Q (F0 m pc ls (st.map (x_cv ad))) := by
  unfold x_lda at h
  split at h
  · rename_i x hx
    exact lv_aload F.1.1 F.1.2.1 hd (x_loc r.1.1 hx) (hN _ _ _ _ _ _ _ h (x_relS r (x_push (r.1.2.2 _ (x_nth_mem hx)) r.2.1)))
  · exact h.elim
theorem s_aload_n (F : x_fix p s m args c H0 cc nL own E ad dA D A q b Ls xs sc) (r : x_rel H0 nL E ad dA D A sc L st M H locs ls) (hN : x_K p l e R s m args below meth c cells slots Q H0 nL E ad dA D A sc N) {k : Fin 4} (hd : decode cc pc = .ok (.aload_n k, 1)) (h : x_lda N (pc + 1) k.val L st M) : W p l e R s m args below meth c H locs cells slots Q (F0 m pc ls (st.map (x_cv ad))) := by
  unfold x_lda at h
  split at h
  · rename_i x hx
    exact lv_aload_n F.1.1 F.1.2.1 hd rfl (x_loc r.1.1 hx) (hN _ _ _ _ _ _ _ h (x_relS r (x_push (r.1.2.2 _ (x_nth_mem hx)) r.2.1)))
  · exact h.elim
theorem s_istore (F : x_fix p s m args c H0 cc nL own E ad dA D A q b Ls xs sc) (r : x_rel H0 nL E ad dA D A sc L st M H locs ls) (hN : x_K p l e R s m args below meth c cells slots Q H0 nL E ad dA D A sc N) {i : Nat} (hd : decode cc pc = .ok (.istore i, 2)) (h : x_sti N (pc + 2) i L st M) : W p l e R s m args below meth c H locs cells slots Q (F0 m pc ls (st.map (x_cv ad))) := by
  unfold x_sti at h
  split at h
  · rename_i x r'
    obtain ⟨h1, h2⟩ := x_setk_spec h
    obtain ⟨g1, g2⟩ := x_pop1 r.2.1
    refine lv_istore (x := Int32.ofInt x) F.1.1 F.1.2.1 hd r.1.1 (by rw [← r.1.2.1]; exact h1) rfl (fun ls' hl => ?_)
    exact hN _ _ _ _ _ _ _ h2 (x_relL (v := .inl x) r g1 g2 hl)
  · exact h.elim
theorem s_istore_n (F : x_fix p s m args c H0 cc nL own E ad dA D A q b Ls xs sc) (r : x_rel H0 nL E ad dA D A sc L st M H locs ls) (hN : x_K p l e R s m args below meth c cells slots Q H0 nL E ad dA D A sc N) {k : Fin 4} (hd : decode cc pc = .ok (.istore_n k, 1)) (h : x_sti N (pc + 1) k.val L st M) : W p l e R s m args below meth c H locs cells slots Q (F0 m pc ls (st.map (x_cv ad))) := by
  unfold x_sti at h
  split at h
  · rename_i x r'
    obtain ⟨h1, h2⟩ := x_setk_spec h
    obtain ⟨g1, g2⟩ := x_pop1 r.2.1
    refine lv_istore_n (x := Int32.ofInt x) F.1.1 F.1.2.1 hd rfl r.1.1 (by rw [← r.1.2.1]; exact h1) rfl (fun ls' hl => ?_)
    exact hN _ _ _ _ _ _ _ h2 (x_relL (v := .inl x) r g1 g2 hl)
  · exact h.elim
theorem s_fstore (F : x_fix p s m args c H0 cc nL own E ad dA D A q b Ls xs sc) (r : x_rel H0 nL E ad dA D A sc L st M H locs ls) (hN : x_K p l e R s m args below meth c cells slots Q H0 nL E ad dA D A sc N) {i : Nat} (hd : decode cc pc = .ok (.fstore i, 2)) (h : x_stf N (pc + 2) i L st M) : W p l e R s m args below meth c H locs cells slots Q (F0 m pc ls (st.map (x_cv ad))) := by
  unfold x_stf at h
  split at h
  · rename_i x r'
    obtain ⟨h1, h2⟩ := x_setk_spec h
    obtain ⟨g1, g2⟩ := x_pop1 r.2.1
    refine lv_fstore (x := x) F.1.1 F.1.2.1 hd r.1.1 (by rw [← r.1.2.1]; exact h1) rfl (fun ls' hl => ?_)
    exact hN _ _ _ _ _ _ _ h2 (x_relL (v := .inr (.inl x)) r g1 g2 hl)
  · exact h.elim
theorem s_fstore_n (F : x_fix p s m args c H0 cc nL own E ad dA D A q b Ls xs sc) (r : x_rel H0 nL E ad dA D A sc L st M H locs ls) (hN : x_K p l e R s m args below meth c cells slots Q H0 nL E ad dA D A sc N) {k : Fin 4} (hd : decode cc pc = .ok (.fstore_n k, 1)) (h : x_stf N (pc + 1) k.val L st M) : W p l e R s m args below meth c H locs cells slots Q (F0 m pc ls (st.map (x_cv ad))) := by
  unfold x_stf at h
  split at h
  · rename_i x r'
    obtain ⟨h1, h2⟩ := x_setk_spec h
    obtain ⟨g1, g2⟩ := x_pop1 r.2.1
    refine lv_fstore_n (x := x) F.1.1 F.1.2.1 hd rfl r.1.1 (by rw [← r.1.2.1]; exact h1) rfl (fun ls' hl => ?_)
    exact hN _ _ _ _ _ _ _ h2 (x_relL (v := .inr (.inl x)) r g1 g2 hl)
  · exact h.elim
theorem s_astore (F : x_fix p s m args c H0 cc nL own E ad dA D A q b Ls xs sc) (r : x_rel H0 nL E ad dA D A sc L st M H locs ls) (hN : x_K p l e R s m args below meth c cells slots Q H0 nL E ad dA D A sc N) {i : Nat} (hd : decode cc pc = .ok (.astore i, 2)) (h : x_sta N (pc + 2) i L st M) : W p l e R s m args below meth c H locs cells slots Q (F0 m pc ls (st.map (x_cv ad))) := by
  unfold x_sta at h
  split at h
  · rename_i x r'
    obtain ⟨h1, h2⟩ := x_setk_spec h
    obtain ⟨g1, g2⟩ := x_pop1 r.2.1
    refine lv_astore (x := ad x) F.1.1 F.1.2.1 hd r.1.1 (by rw [← r.1.2.1]; exact h1) rfl (fun ls' hl => ?_)
    exact hN _ _ _ _ _ _ _ h2 (x_relL (v := .inr (.inr x)) r g1 g2 hl)
  · exact h.elim
theorem s_astore_n (F : x_fix p s m args c H0 cc nL own E ad dA D A q b Ls xs sc) (r : x_rel H0 nL E ad dA D A sc L st M H locs ls) (hN : x_K p l e R s m args below meth c cells slots Q H0 nL E ad dA D A sc N) {k : Fin 4} (hd : decode cc pc = .ok (.astore_n k, 1)) (h : x_sta N (pc + 1) k.val L st M) : W p l e R s m args below meth c H locs cells slots Q (F0 m pc ls (st.map (x_cv ad))) := by
  unfold x_sta at h
  split at h
  · rename_i x r'
    obtain ⟨h1, h2⟩ := x_setk_spec h
    obtain ⟨g1, g2⟩ := x_pop1 r.2.1
    refine lv_astore_n (x := ad x) F.1.1 F.1.2.1 hd rfl r.1.1 (by rw [← r.1.2.1]; exact h1) rfl (fun ls' hl => ?_)
    exact hN _ _ _ _ _ _ _ h2 (x_relL (v := .inr (.inr x)) r g1 g2 hl)
  · exact h.elim
theorem s_iinc (F : x_fix p s m args c H0 cc nL own E ad dA D A q b Ls xs sc) (r : x_rel H0 nL E ad dA D A sc L st M H locs ls) (hN : x_K p l e R s m args below meth c cells slots Q H0 nL E ad dA D A sc N) {i : Nat} {z : Int} (hd : decode cc pc = .ok (.iinc i z, 3)) (h : x_inc N (pc + 3) i z L st M) : W p l e R s m args below meth c H locs cells slots Q (F0 m pc ls (st.map (x_cv ad))) := by
  unfold x_inc at h
  split at h
  · rename_i x hx
    obtain ⟨h1, h2⟩ := x_setk_spec h
    have hm := x_lv_nth ad L 0 i _ hx
    rw [Nat.zero_add] at hm
    obtain ⟨k, hk⟩ := List.getElem?_of_mem hm
    refine lv_iinc (k := k) (x := Int32.ofInt x) (v := Int32.ofInt (xw (x + z))) F.1.1 F.1.2.1 hd r.1.1 hk (by rw [x_ofw, Int32.ofInt_add]) (by rw [← r.1.2.1]; exact h1) rfl (fun ls' hl => ?_)
    exact hN _ _ _ _ _ _ _ h2 (x_relL (v := .inl (xw (x + z))) r (xw_in _) r.2.1 hl)
  · exact h.elim
theorem s_iconst (F : x_fix p s m args c H0 cc nL own E ad dA D A q b Ls xs sc) (r : x_rel H0 nL E ad dA D A sc L st M H locs ls) (hN : x_K p l e R s m args below meth c cells slots Q H0 nL E ad dA D A sc N) {v : Int} (hv : x_in v) (hd : decode cc pc = .ok (.iconst v, 1)) (h : N (pc + 1) L (.inl v :: st) M) : W p l e R s m args below meth c H locs cells slots Q (F0 m pc ls (st.map (x_cv ad))) :=
  lv_iconst F.1.1 F.1.2.1 hd rfl (hN _ _ _ _ _ _ _ h (x_relS r (x_push (v := .inl v) hv r.2.1)))
theorem s_bipush (F : x_fix p s m args c H0 cc nL own E ad dA D A q b Ls xs sc) (r : x_rel H0 nL E ad dA D A sc L st M H locs ls) (hN : x_K p l e R s m args below meth c cells slots Q H0 nL E ad dA D A sc N) {v : Int} (hv : -128 ≤ v ∧ v < 128) (hd : decode cc pc = .ok (.bipush v, 2)) (h : N (pc + 2) L (.inl v :: st) M) : W p l e R s m args below meth c H locs cells slots Q (F0 m pc ls (st.map (x_cv ad))) :=
  lv_bipush F.1.1 F.1.2.1 hd (x_8 hv.1 hv.2) (hN _ _ _ _ _ _ _ h (x_relS r (x_push (v := .inl v) ⟨by omega, by omega⟩ r.2.1)))
theorem s_sipush (F : x_fix p s m args c H0 cc nL own E ad dA D A q b Ls xs sc) (r : x_rel H0 nL E ad dA D A sc L st M H locs ls) (hN : x_K p l e R s m args below meth c cells slots Q H0 nL E ad dA D A sc N) {v : Int} (hv : -32768 ≤ v ∧ v < 32768) (hd : decode cc pc = .ok (.sipush v, 3)) (h : N (pc + 3) L (.inl v :: st) M) : W p l e R s m args below meth c H locs cells slots Q (F0 m pc ls (st.map (x_cv ad))) :=
  lv_sipush F.1.1 F.1.2.1 hd (x_16 hv.1 hv.2) (hN _ _ _ _ _ _ _ h (x_relS r (x_push (v := .inl v) ⟨by omega, by omega⟩ r.2.1)))
theorem s_fconst0 (F : x_fix p s m args c H0 cc nL own E ad dA D A q b Ls xs sc) (r : x_rel H0 nL E ad dA D A sc L st M H locs ls) (hN : x_K p l e R s m args below meth c cells slots Q H0 nL E ad dA D A sc N) (hd : decode cc pc = .ok (.fconst 0, 1)) (h : N (pc + 1) L (.inr (.inl FP.fconst0) :: st) M) : W p l e R s m args below meth c H locs cells slots Q (F0 m pc ls (st.map (x_cv ad))) :=
  lv_fconst0 F.1.1 F.1.2.1 hd (hN _ _ _ _ _ _ _ h (x_relS r (x_push (v := .inr (.inl _)) trivial r.2.1)))
theorem s_fconst1 (F : x_fix p s m args c H0 cc nL own E ad dA D A q b Ls xs sc) (r : x_rel H0 nL E ad dA D A sc L st M H locs ls) (hN : x_K p l e R s m args below meth c cells slots Q H0 nL E ad dA D A sc N) (hd : decode cc pc = .ok (.fconst 1, 1)) (h : N (pc + 1) L (.inr (.inl FP.fconst1) :: st) M) : W p l e R s m args below meth c H locs cells slots Q (F0 m pc ls (st.map (x_cv ad))) :=
  lv_fconst1 F.1.1 F.1.2.1 hd (hN _ _ _ _ _ _ _ h (x_relS r (x_push (v := .inr (.inl _)) trivial r.2.1)))
theorem s_fconst2 (F : x_fix p s m args c H0 cc nL own E ad dA D A q b Ls xs sc) (r : x_rel H0 nL E ad dA D A sc L st M H locs ls) (hN : x_K p l e R s m args below meth c cells slots Q H0 nL E ad dA D A sc N) (hd : decode cc pc = .ok (.fconst 2, 1)) (h : N (pc + 1) L (.inr (.inl FP.fconst2) :: st) M) : W p l e R s m args below meth c H locs cells slots Q (F0 m pc ls (st.map (x_cv ad))) :=
  lv_fconst2 F.1.1 F.1.2.1 hd (hN _ _ _ _ _ _ _ h (x_relS r (x_push (v := .inr (.inl _)) trivial r.2.1)))
theorem s_iadd (F : x_fix p s m args c H0 cc nL own E ad dA D A q b Ls xs sc) (r : x_rel H0 nL E ad dA D A sc L st M H locs ls) (hN : x_K p l e R s m args below meth c cells slots Q H0 nL E ad dA D A sc N) (hd : decode cc pc = .ok (.iadd, 1)) (h : x_ii N (pc + 1) (fun x y => xw (x + y)) L st M) : W p l e R s m args below meth c H locs cells slots Q (F0 m pc ls (st.map (x_cv ad))) := by
  unfold x_ii at h
  split at h
  · rename_i y x r'
    obtain ⟨gy, g2⟩ := x_pop1 r.2.1
    obtain ⟨gx, g3⟩ := x_pop1 g2
    have k := hN _ _ _ _ H locs ls h (x_relS r (x_push (v := .inl (xw (x + y))) (xw_in _) g3))
    refine lv_iadd (x := Int32.ofInt x) (y := Int32.ofInt y) F.1.1 F.1.2.1 hd ?_
    rw [← Int32.ofInt_add, ← x_ofw]
    exact k
  · exact h.elim
theorem s_isub (F : x_fix p s m args c H0 cc nL own E ad dA D A q b Ls xs sc) (r : x_rel H0 nL E ad dA D A sc L st M H locs ls) (hN : x_K p l e R s m args below meth c cells slots Q H0 nL E ad dA D A sc N) (hd : decode cc pc = .ok (.isub, 1)) (h : x_ii N (pc + 1) (fun x y => xw (x - y)) L st M) : W p l e R s m args below meth c H locs cells slots Q (F0 m pc ls (st.map (x_cv ad))) := by
  unfold x_ii at h
  split at h
  · rename_i y x r'
    obtain ⟨gy, g2⟩ := x_pop1 r.2.1
    obtain ⟨gx, g3⟩ := x_pop1 g2
    have k := hN _ _ _ _ H locs ls h (x_relS r (x_push (v := .inl (xw (x - y))) (xw_in _) g3))
    refine lv_isub (x := Int32.ofInt x) (y := Int32.ofInt y) F.1.1 F.1.2.1 hd ?_
    rw [← Int32.ofInt_sub, ← x_ofw]
    exact k
  · exact h.elim
theorem s_imul (F : x_fix p s m args c H0 cc nL own E ad dA D A q b Ls xs sc) (r : x_rel H0 nL E ad dA D A sc L st M H locs ls) (hN : x_K p l e R s m args below meth c cells slots Q H0 nL E ad dA D A sc N) (hd : decode cc pc = .ok (.imul, 1)) (h : x_ii N (pc + 1) (fun x y => xw (x * y)) L st M) : W p l e R s m args below meth c H locs cells slots Q (F0 m pc ls (st.map (x_cv ad))) := by
  unfold x_ii at h
  split at h
  · rename_i y x r'
    obtain ⟨gy, g2⟩ := x_pop1 r.2.1
    obtain ⟨gx, g3⟩ := x_pop1 g2
    have k := hN _ _ _ _ H locs ls h (x_relS r (x_push (v := .inl (xw (x * y))) (xw_in _) g3))
    refine lv_imul (x := Int32.ofInt x) (y := Int32.ofInt y) F.1.1 F.1.2.1 hd ?_
    rw [← Int32.ofInt_mul, ← x_ofw]
    exact k
  · exact h.elim
theorem s_iand (F : x_fix p s m args c H0 cc nL own E ad dA D A q b Ls xs sc) (r : x_rel H0 nL E ad dA D A sc L st M H locs ls) (hN : x_K p l e R s m args below meth c cells slots Q H0 nL E ad dA D A sc N) (hd : decode cc pc = .ok (.iand, 1)) (h : x_ii N (pc + 1) x_and L st M) : W p l e R s m args below meth c H locs cells slots Q (F0 m pc ls (st.map (x_cv ad))) := by
  unfold x_ii at h
  split at h
  · rename_i y x r'
    obtain ⟨gy, g2⟩ := x_pop1 r.2.1
    obtain ⟨gx, g3⟩ := x_pop1 g2
    have k := hN _ _ _ _ H locs ls h (x_relS r (x_push (v := .inl (x_and x y)) (x_in_toI _) g3))
    refine lv_iand (x := Int32.ofInt x) (y := Int32.ofInt y) F.1.1 F.1.2.1 hd ?_
    rw [← x_ofI (x := Int32.ofInt x &&& Int32.ofInt y) rfl]
    exact k
  · exact h.elim
theorem s_ior (F : x_fix p s m args c H0 cc nL own E ad dA D A q b Ls xs sc) (r : x_rel H0 nL E ad dA D A sc L st M H locs ls) (hN : x_K p l e R s m args below meth c cells slots Q H0 nL E ad dA D A sc N) (hd : decode cc pc = .ok (.ior, 1)) (h : x_ii N (pc + 1) x_or L st M) : W p l e R s m args below meth c H locs cells slots Q (F0 m pc ls (st.map (x_cv ad))) := by
  unfold x_ii at h
  split at h
  · rename_i y x r'
    obtain ⟨gy, g2⟩ := x_pop1 r.2.1
    obtain ⟨gx, g3⟩ := x_pop1 g2
    have k := hN _ _ _ _ H locs ls h (x_relS r (x_push (v := .inl (x_or x y)) (x_in_toI _) g3))
    refine lv_ior (x := Int32.ofInt x) (y := Int32.ofInt y) F.1.1 F.1.2.1 hd ?_
    rw [← x_ofI (x := Int32.ofInt x ||| Int32.ofInt y) rfl]
    exact k
  · exact h.elim
theorem s_ixor (F : x_fix p s m args c H0 cc nL own E ad dA D A q b Ls xs sc) (r : x_rel H0 nL E ad dA D A sc L st M H locs ls) (hN : x_K p l e R s m args below meth c cells slots Q H0 nL E ad dA D A sc N) (hd : decode cc pc = .ok (.ixor, 1)) (h : x_ii N (pc + 1) x_xor L st M) : W p l e R s m args below meth c H locs cells slots Q (F0 m pc ls (st.map (x_cv ad))) := by
  unfold x_ii at h
  split at h
  · rename_i y x r'
    obtain ⟨gy, g2⟩ := x_pop1 r.2.1
    obtain ⟨gx, g3⟩ := x_pop1 g2
    have k := hN _ _ _ _ H locs ls h (x_relS r (x_push (v := .inl (x_xor x y)) (x_in_toI _) g3))
    refine lv_ixor (x := Int32.ofInt x) (y := Int32.ofInt y) F.1.1 F.1.2.1 hd ?_
    rw [← x_ofI (x := Int32.ofInt x ^^^ Int32.ofInt y) rfl]
    exact k
  · exact h.elim
theorem s_ishl (F : x_fix p s m args c H0 cc nL own E ad dA D A q b Ls xs sc) (r : x_rel H0 nL E ad dA D A sc L st M H locs ls) (hN : x_K p l e R s m args below meth c cells slots Q H0 nL E ad dA D A sc N) (hd : decode cc pc = .ok (.ishl, 1)) (h : x_ii N (pc + 1) x_shl L st M) : W p l e R s m args below meth c H locs cells slots Q (F0 m pc ls (st.map (x_cv ad))) := by
  unfold x_ii at h
  split at h
  · rename_i y x r'
    obtain ⟨gy, g2⟩ := x_pop1 r.2.1
    obtain ⟨gx, g3⟩ := x_pop1 g2
    have k := hN _ _ _ _ H locs ls h (x_relS r (x_push (v := .inl (x_shl x y)) (x_in_toI _) g3))
    refine lv_ishl (x := Int32.ofInt x) (y := Int32.ofInt y) F.1.1 F.1.2.1 hd ?_
    rw [← x_ofI (x := Int32.ofInt x <<< (Int32.ofInt y &&& 31)) rfl]
    exact k
  · exact h.elim
theorem s_iushr (F : x_fix p s m args c H0 cc nL own E ad dA D A q b Ls xs sc) (r : x_rel H0 nL E ad dA D A sc L st M H locs ls) (hN : x_K p l e R s m args below meth c cells slots Q H0 nL E ad dA D A sc N) (hd : decode cc pc = .ok (.iushr, 1)) (h : x_ii N (pc + 1) x_ush L st M) : W p l e R s m args below meth c H locs cells slots Q (F0 m pc ls (st.map (x_cv ad))) := by
  unfold x_ii at h
  split at h
  · rename_i y x r'
    obtain ⟨gy, g2⟩ := x_pop1 r.2.1
    obtain ⟨gx, g3⟩ := x_pop1 g2
    have k := hN _ _ _ _ H locs ls h (x_relS r (x_push (v := .inl (x_ush x y)) (x_in_toI _) g3))
    exact lv_iushr (x := Int32.ofInt x) (y := Int32.ofInt y) F.1.1 F.1.2.1 hd (x_ofI rfl).symm k
  · exact h.elim
theorem s_idiv (F : x_fix p s m args c H0 cc nL own E ad dA D A q b Ls xs sc) (r : x_rel H0 nL E ad dA D A sc L st M H locs ls) (hN : x_K p l e R s m args below meth c cells slots Q H0 nL E ad dA D A sc N) (hd : decode cc pc = .ok (.idiv, 1)) (h : x_iz N (pc + 1) (fun x y => xw (x.tdiv y)) L st M) : W p l e R s m args below meth c H locs cells slots Q (F0 m pc ls (st.map (x_cv ad))) := by
  unfold x_iz at h
  split at h
  · rename_i y x r'
    obtain ⟨gy, g2⟩ := x_pop1 r.2.1
    obtain ⟨gx, g3⟩ := x_pop1 g2
    obtain ⟨hne, h⟩ := x_nz_spec h
    have k := hN _ _ _ _ H locs ls h (x_relS r (x_push (v := .inl (xw (x.tdiv y))) (xw_in _) g3))
    refine lv_idiv (x := Int32.ofInt x) (y := Int32.ofInt y) F.1.1 F.1.2.1 hd (fun g => hne ((x_eqI gy x_0I).mp g)) ?_
    rw [← x_tdiv gx gy, ← x_ofw]
    exact k
  · exact h.elim
theorem s_irem (F : x_fix p s m args c H0 cc nL own E ad dA D A q b Ls xs sc) (r : x_rel H0 nL E ad dA D A sc L st M H locs ls) (hN : x_K p l e R s m args below meth c cells slots Q H0 nL E ad dA D A sc N) (hd : decode cc pc = .ok (.irem, 1)) (h : x_iz N (pc + 1) (fun x y => x.tmod y) L st M) : W p l e R s m args below meth c H locs cells slots Q (F0 m pc ls (st.map (x_cv ad))) := by
  unfold x_iz at h
  split at h
  · rename_i y x r'
    obtain ⟨gy, g2⟩ := x_pop1 r.2.1
    obtain ⟨gx, g3⟩ := x_pop1 g2
    obtain ⟨hne, h⟩ := x_nz_spec h
    have k := hN _ _ _ _ H locs ls h (x_relS r (x_push (v := .inl (x.tmod y)) (x_tmod_in gx) g3))
    refine lv_irem (x := Int32.ofInt x) (y := Int32.ofInt y) F.1.1 F.1.2.1 hd (fun g => hne ((x_eqI gy x_0I).mp g)) ?_
    rw [← x_tmod gx gy]
    exact k
  · exact h.elim
theorem s_fadd (F : x_fix p s m args c H0 cc nL own E ad dA D A q b Ls xs sc) (r : x_rel H0 nL E ad dA D A sc L st M H locs ls) (hN : x_K p l e R s m args below meth c cells slots Q H0 nL E ad dA D A sc N) (hd : decode cc pc = .ok (.fadd, 1)) (h : x_ff N (pc + 1) FP.fadd L st M) : W p l e R s m args below meth c H locs cells slots Q (F0 m pc ls (st.map (x_cv ad))) := by
  unfold x_ff at h
  split at h
  · rename_i y x r'
    obtain ⟨-, g2⟩ := x_pop1 r.2.1
    obtain ⟨-, g3⟩ := x_pop1 g2
    exact lv_fadd F.1.1 F.1.2.1 hd h.1 (hN _ _ _ _ _ _ _ h.2 (x_relS r (x_push (v := .inr (.inl _)) trivial g3)))
  · exact h.elim
theorem s_fsub (F : x_fix p s m args c H0 cc nL own E ad dA D A q b Ls xs sc) (r : x_rel H0 nL E ad dA D A sc L st M H locs ls) (hN : x_K p l e R s m args below meth c cells slots Q H0 nL E ad dA D A sc N) (hd : decode cc pc = .ok (.fsub, 1)) (h : x_ff N (pc + 1) FP.fsub L st M) : W p l e R s m args below meth c H locs cells slots Q (F0 m pc ls (st.map (x_cv ad))) := by
  unfold x_ff at h
  split at h
  · rename_i y x r'
    obtain ⟨-, g2⟩ := x_pop1 r.2.1
    obtain ⟨-, g3⟩ := x_pop1 g2
    exact lv_fsub F.1.1 F.1.2.1 hd h.1 (hN _ _ _ _ _ _ _ h.2 (x_relS r (x_push (v := .inr (.inl _)) trivial g3)))
  · exact h.elim
theorem s_fmul (F : x_fix p s m args c H0 cc nL own E ad dA D A q b Ls xs sc) (r : x_rel H0 nL E ad dA D A sc L st M H locs ls) (hN : x_K p l e R s m args below meth c cells slots Q H0 nL E ad dA D A sc N) (hd : decode cc pc = .ok (.fmul, 1)) (h : x_ff N (pc + 1) FP.fmul L st M) : W p l e R s m args below meth c H locs cells slots Q (F0 m pc ls (st.map (x_cv ad))) := by
  unfold x_ff at h
  split at h
  · rename_i y x r'
    obtain ⟨-, g2⟩ := x_pop1 r.2.1
    obtain ⟨-, g3⟩ := x_pop1 g2
    exact lv_fmul F.1.1 F.1.2.1 hd h.1 (hN _ _ _ _ _ _ _ h.2 (x_relS r (x_push (v := .inr (.inl _)) trivial g3)))
  · exact h.elim
theorem s_fdiv (F : x_fix p s m args c H0 cc nL own E ad dA D A q b Ls xs sc) (r : x_rel H0 nL E ad dA D A sc L st M H locs ls) (hN : x_K p l e R s m args below meth c cells slots Q H0 nL E ad dA D A sc N) (hd : decode cc pc = .ok (.fdiv, 1)) (h : x_ff N (pc + 1) FP.fdiv L st M) : W p l e R s m args below meth c H locs cells slots Q (F0 m pc ls (st.map (x_cv ad))) := by
  unfold x_ff at h
  split at h
  · rename_i y x r'
    obtain ⟨-, g2⟩ := x_pop1 r.2.1
    obtain ⟨-, g3⟩ := x_pop1 g2
    exact lv_fdiv F.1.1 F.1.2.1 hd h.1 (hN _ _ _ _ _ _ _ h.2 (x_relS r (x_push (v := .inr (.inl _)) trivial g3)))
  · exact h.elim
theorem s_fneg (F : x_fix p s m args c H0 cc nL own E ad dA D A q b Ls xs sc) (r : x_rel H0 nL E ad dA D A sc L st M H locs ls) (hN : x_K p l e R s m args below meth c cells slots Q H0 nL E ad dA D A sc N) (hd : decode cc pc = .ok (.fneg, 1)) (h : x_fl1 N (pc + 1) (fun f => .inr (.inl (FP.fneg f))) L st M) : W p l e R s m args below meth c H locs cells slots Q (F0 m pc ls (st.map (x_cv ad))) := by
  unfold x_fl1 at h
  split at h
  · obtain ⟨-, g2⟩ := x_pop1 r.2.1
    exact lv_fneg F.1.1 F.1.2.1 hd (hN _ _ _ _ _ _ _ h (x_relS r (x_push (v := .inr (.inl _)) trivial g2)))
  · exact h.elim
theorem s_f2i (F : x_fix p s m args c H0 cc nL own E ad dA D A q b Ls xs sc) (r : x_rel H0 nL E ad dA D A sc L st M H locs ls) (hN : x_K p l e R s m args below meth c cells slots Q H0 nL E ad dA D A sc N) (hd : decode cc pc = .ok (.f2i, 1)) (h : x_fl1 N (pc + 1) (fun f => .inl (FP.f2i f).toInt) L st M) : W p l e R s m args below meth c H locs cells slots Q (F0 m pc ls (st.map (x_cv ad))) := by
  unfold x_fl1 at h
  split at h
  · rename_i x r'
    obtain ⟨-, g2⟩ := x_pop1 r.2.1
    have k := hN _ _ _ _ H locs ls h (x_relS r (x_push (v := .inl (FP.f2i x).toInt) (x_in_toI _) g2))
    refine lv_f2i (x := x) F.1.1 F.1.2.1 hd ?_
    rw [← x_ofI (x := FP.f2i x) rfl]
    exact k
  · exact h.elim
theorem s_i2f (F : x_fix p s m args c H0 cc nL own E ad dA D A q b Ls xs sc) (r : x_rel H0 nL E ad dA D A sc L st M H locs ls) (hN : x_K p l e R s m args below meth c cells slots Q H0 nL E ad dA D A sc N) (hd : decode cc pc = .ok (.i2f, 1)) (h : x_in1 N (pc + 1) (fun x => .inr (.inl (FP.i2f (Int32.ofInt x)))) L st M) : W p l e R s m args below meth c H locs cells slots Q (F0 m pc ls (st.map (x_cv ad))) := by
  unfold x_in1 at h
  split at h
  · obtain ⟨-, g2⟩ := x_pop1 r.2.1
    exact lv_i2f F.1.1 F.1.2.1 hd (hN _ _ _ _ _ _ _ h (x_relS r (x_push (v := .inr (.inl _)) trivial g2)))
  · exact h.elim
theorem s_fcmp (F : x_fix p s m args c H0 cc nL own E ad dA D A q b Ls xs sc) (r : x_rel H0 nL E ad dA D A sc L st M H locs ls) (hN : x_K p l e R s m args below meth c cells slots Q H0 nL E ad dA D A sc N) {op : CmpOp} (hd : decode cc pc = .ok (.fcmp op, 1)) (h : x_fc N (pc + 1) op L st M) : W p l e R s m args below meth c H locs cells slots Q (F0 m pc ls (st.map (x_cv ad))) := by
  unfold x_fc at h
  split at h
  · rename_i y x r'
    obtain ⟨-, g2⟩ := x_pop1 r.2.1
    obtain ⟨-, g3⟩ := x_pop1 g2
    have k := hN _ _ _ _ H locs ls h (x_relS r (x_push (v := .inl (Op.cmpValue (FP.fcmp x y) op).toInt) (x_in_toI _) g3))
    refine lv_fcmp (x := x) (y := y) F.1.1 F.1.2.1 hd ?_
    rw [← x_ofI (x := Op.cmpValue (FP.fcmp x y) op) rfl]
    exact k
  · exact h.elim
theorem s_dup (F : x_fix p s m args c H0 cc nL own E ad dA D A q b Ls xs sc) (r : x_rel H0 nL E ad dA D A sc L st M H locs ls) (hN : x_K p l e R s m args below meth c cells slots Q H0 nL E ad dA D A sc N) (hd : decode cc pc = .ok (.dup, 1)) (h : x_dup N (pc + 1) L st M) : W p l e R s m args below meth c H locs cells slots Q (F0 m pc ls (st.map (x_cv ad))) := by
  unfold x_dup at h
  split at h
  · obtain ⟨g1, g2⟩ := x_pop1 r.2.1
    exact lv_dup F.1.1 F.1.2.1 hd (x_cv_cat ad _) (hN _ _ _ _ _ _ _ h (x_relS r (x_push g1 r.2.1)))
  · exact h.elim
theorem s_dup2 (F : x_fix p s m args c H0 cc nL own E ad dA D A q b Ls xs sc) (r : x_rel H0 nL E ad dA D A sc L st M H locs ls) (hN : x_K p l e R s m args below meth c cells slots Q H0 nL E ad dA D A sc N) (hd : decode cc pc = .ok (.dup2, 1)) (h : x_dup2 N (pc + 1) L st M) : W p l e R s m args below meth c H locs cells slots Q (F0 m pc ls (st.map (x_cv ad))) := by
  unfold x_dup2 at h
  split at h
  · obtain ⟨g1, g2⟩ := x_pop1 r.2.1
    exact lv_dup2_11 F.1.1 F.1.2.1 hd (x_cv_cat ad _) (x_cv_cat ad _) (hN _ _ _ _ _ _ _ h (x_relS r (x_push g1 (x_push (x_pop1 g2).1 r.2.1))))
  · exact h.elim
theorem s_pop (F : x_fix p s m args c H0 cc nL own E ad dA D A q b Ls xs sc) (r : x_rel H0 nL E ad dA D A sc L st M H locs ls) (hN : x_K p l e R s m args below meth c cells slots Q H0 nL E ad dA D A sc N) (hd : decode cc pc = .ok (.pop, 1)) (h : x_popv N (pc + 1) L st M) : W p l e R s m args below meth c H locs cells slots Q (F0 m pc ls (st.map (x_cv ad))) := by
  unfold x_popv at h
  split at h
  · exact lv_pop F.1.1 F.1.2.1 hd (x_cv_cat ad _) (hN _ _ _ _ _ _ _ h (x_relS r (x_pop1 r.2.1).2))
  · exact h.elim
theorem s_if1 (F : x_fix p s m args c H0 cc nL own E ad dA D A q b Ls xs sc) (r : x_rel H0 nL E ad dA D A sc L st M H locs ls) (hN : x_K p l e R s m args below meth c cells slots Q H0 nL E ad dA D A sc N) {cd : ClassFile.Cond} {off : Int} {ex : List (Int × Nat)} (ht : ∀ a t, ex.head? = some (a, t) → (pc : Int) + off = (t : Int)) (hd : decode cc pc = .ok (.ifCond cd off, 3)) (h : x_if1 N (pc + 3) cd ex L st M) : W p l e R s m args below meth c H locs cells slots Q (F0 m pc ls (st.map (x_cv ad))) := by
  unfold x_if1 at h
  split at h
  · rename_i a t ex' x r'
    obtain ⟨gx, g2⟩ := x_pop1 r.2.1
    have k' := x_relS r g2
    cases cd
    · exact lv_if_eq (x := Int32.ofInt x) F.1.1 F.1.2.1 hd (ht _ _ rfl) (fun g => hN _ _ _ _ _ _ _ (h.1 ((x_eqI gx x_0I).mp g)) k') (fun g => hN _ _ _ _ _ _ _ (h.2 (fun w => g ((x_eqI gx x_0I).mpr w))) k')
    · exact lv_if_ne (x := Int32.ofInt x) F.1.1 F.1.2.1 hd (ht _ _ rfl) (fun g => hN _ _ _ _ _ _ _ (h.2 (fun w => g ((x_eqI gx x_0I).mpr w))) k') (fun g => hN _ _ _ _ _ _ _ (h.1 ((x_eqI gx x_0I).mp g)) k')
    · exact lv_if_lt (x := Int32.ofInt x) F.1.1 F.1.2.1 hd (ht _ _ rfl) (fun g => hN _ _ _ _ _ _ _ (h.1 ((x_ltI gx x_0I).mp g)) k') (fun g => hN _ _ _ _ _ _ _ (h.2 (fun w => g ((x_ltI gx x_0I).mpr w))) k')
    · exact lv_if_ge (x := Int32.ofInt x) F.1.1 F.1.2.1 hd (ht _ _ rfl) (fun g => hN _ _ _ _ _ _ _ (h.2 (Int.not_lt.mpr ((x_leI x_0I gx).mp g))) k') (fun g => hN _ _ _ _ _ _ _ (h.1 (Int.not_le.mp (fun w => g ((x_leI x_0I gx).mpr w)))) k')
    · exact lv_if_gt (x := Int32.ofInt x) F.1.1 F.1.2.1 hd (ht _ _ rfl) (fun g => hN _ _ _ _ _ _ _ (h.1 ((x_ltI x_0I gx).mp g)) k') (fun g => hN _ _ _ _ _ _ _ (h.2 (fun w => g ((x_ltI x_0I gx).mpr w))) k')
    · exact lv_if_le (x := Int32.ofInt x) F.1.1 F.1.2.1 hd (ht _ _ rfl) (fun g => hN _ _ _ _ _ _ _ (h.2 (Int.not_lt.mpr ((x_leI gx x_0I).mp g))) k') (fun g => hN _ _ _ _ _ _ _ (h.1 (Int.not_le.mp (fun w => g ((x_leI gx x_0I).mpr w)))) k')
  · exact h.elim
theorem s_if2 (F : x_fix p s m args c H0 cc nL own E ad dA D A q b Ls xs sc) (r : x_rel H0 nL E ad dA D A sc L st M H locs ls) (hN : x_K p l e R s m args below meth c cells slots Q H0 nL E ad dA D A sc N) {cd : ClassFile.Cond} {off : Int} {ex : List (Int × Nat)} (ht : ∀ a t, ex.head? = some (a, t) → (pc : Int) + off = (t : Int)) (hd : decode cc pc = .ok (.if_icmp cd off, 3)) (h : x_if2 N (pc + 3) cd ex L st M) : W p l e R s m args below meth c H locs cells slots Q (F0 m pc ls (st.map (x_cv ad))) := by
  unfold x_if2 at h
  split at h
  · rename_i a t ex' y x r'
    obtain ⟨gy, g2⟩ := x_pop1 r.2.1
    obtain ⟨gx, g3⟩ := x_pop1 g2
    have k' := x_relS r g3
    cases cd
    · exact lv_icmp_eq (x := Int32.ofInt x) (y := Int32.ofInt y) F.1.1 F.1.2.1 hd (ht _ _ rfl) (fun g => hN _ _ _ _ _ _ _ (h.1 ((x_eqI gx gy).mp g)) k') (fun g => hN _ _ _ _ _ _ _ (h.2 (fun w => g ((x_eqI gx gy).mpr w))) k')
    · exact lv_icmp_ne (x := Int32.ofInt x) (y := Int32.ofInt y) F.1.1 F.1.2.1 hd (ht _ _ rfl) (fun g => hN _ _ _ _ _ _ _ (h.2 (fun w => g ((x_eqI gx gy).mpr w))) k') (fun g => hN _ _ _ _ _ _ _ (h.1 ((x_eqI gx gy).mp g)) k')
    · exact lv_icmp_lt (x := Int32.ofInt x) (y := Int32.ofInt y) F.1.1 F.1.2.1 hd (ht _ _ rfl) (fun g => hN _ _ _ _ _ _ _ (h.1 ((x_ltI gx gy).mp g)) k') (fun g => hN _ _ _ _ _ _ _ (h.2 (fun w => g ((x_ltI gx gy).mpr w))) k')
    · exact lv_icmp_ge (x := Int32.ofInt x) (y := Int32.ofInt y) F.1.1 F.1.2.1 hd (ht _ _ rfl) (fun g => hN _ _ _ _ _ _ _ (h.2 (Int.not_lt.mpr ((x_leI gy gx).mp g))) k') (fun g => hN _ _ _ _ _ _ _ (h.1 (Int.not_le.mp (fun w => g ((x_leI gy gx).mpr w)))) k')
    · exact lv_icmp_gt (x := Int32.ofInt x) (y := Int32.ofInt y) F.1.1 F.1.2.1 hd (ht _ _ rfl) (fun g => hN _ _ _ _ _ _ _ (h.1 ((x_ltI gy gx).mp g)) k') (fun g => hN _ _ _ _ _ _ _ (h.2 (fun w => g ((x_ltI gy gx).mpr w))) k')
    · exact lv_icmp_le (x := Int32.ofInt x) (y := Int32.ofInt y) F.1.1 F.1.2.1 hd (ht _ _ rfl) (fun g => hN _ _ _ _ _ _ _ (h.2 (Int.not_lt.mpr ((x_leI gx gy).mp g))) k') (fun g => hN _ _ _ _ _ _ _ (h.1 (Int.not_le.mp (fun w => g ((x_leI gx gy).mpr w)))) k')
  · exact h.elim
theorem s_goto (F : x_fix p s m args c H0 cc nL own E ad dA D A q b Ls xs sc) (r : x_rel H0 nL E ad dA D A sc L st M H locs ls) (hN : x_K p l e R s m args below meth c cells slots Q H0 nL E ad dA D A sc N) {off : Int} {ex : List (Int × Nat)} (ht : ∀ a t, ex.head? = some (a, t) → (pc : Int) + off = (t : Int)) (hd : decode cc pc = .ok (.goto off, 3)) (h : x_go1 N ex L st M) : W p l e R s m args below meth c H locs cells slots Q (F0 m pc ls (st.map (x_cv ad))) := by
  unfold x_go1 at h
  split at h
  · exact lv_goto F.1.1 F.1.2.1 hd (ht _ _ rfl) (hN _ _ _ _ _ _ _ h r)
  · exact h.elim
end XI
