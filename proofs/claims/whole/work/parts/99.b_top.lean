/-! ===== CueBoard is made (by program) ===== -/
theorem vfree {A0 : Nat → Prop} {ws wc wr : va_W} {H0 H : Heap} {locs : List Loc} (hD : va_D A0 (wc ++ wr)) (hS : va_S A0 H0 H locs) (hA : ∀ q, H0.size ≤ q → A0 q) : ∀ q, va_A wc H.size q → A0 q := by
  intro q hq
  rcases vA_mem.mp hq with h | h
  · obtain ⟨z, z1, z2⟩ := List.mem_map.mp h
    rw [← z2]
    exact (vD_iff.mp hD).2 z (List.mem_append_left _ z1)
  · exact hA q (Nat.le_trans hS.1 h)
theorem vP_l {D : va_G} {cl : List vw_C} {a b : va_W} {H : Heap} (h : va_P D cl (a ++ b) H) : va_P D cl a H := vP_iff.mpr fun q hq => vP_iff.mp h q (List.mem_append_left _ hq)
theorem vD_l {A : Nat → Prop} {a b : va_W} (h : va_D A (a ++ b)) : va_D A a := by
  obtain ⟨h1, h2⟩ := vD_iff.mp h
  rw [List.map_append] at h1
  exact vD_iff.mpr ⟨(List.nodup_append.mp h1).1, fun q hq => h2 q (List.mem_append_left _ hq)⟩
def yI10 : MethodName := ⟨RX10, "<init>", "()V"⟩
abbrev bI10 : ByteArray := prog_1_method_1_code
theorem dI10_0 : decode bI10 0 = .ok (.aload_n 0, 1) := by decide +kernel
theorem dI10_1 : decode bI10 1 = .ok (.invokespecial 3, 3) := by decide +kernel
theorem dI10_4 : decode bI10 4 = .ok (.aload_n 0, 1) := by decide +kernel
theorem dI10_5 : decode bI10 5 = .ok (.new 9, 3) := by decide +kernel
theorem dI10_8 : decode bI10 8 = .ok (.dup, 1) := by decide +kernel
theorem dI10_9 : decode bI10 9 = .ok (.invokespecial 11, 3) := by decide +kernel
theorem dI10_12 : decode bI10 12 = .ok (.putfield 12, 3) := by decide +kernel
theorem dI10_15 : decode bI10 15 = .ok (.aload_n 0, 1) := by decide +kernel
theorem dI10_16 : decode bI10 16 = .ok (.new 16, 3) := by decide +kernel
theorem dI10_19 : decode bI10 19 = .ok (.dup, 1) := by decide +kernel
theorem dI10_20 : decode bI10 20 = .ok (.invokespecial 18, 3) := by decide +kernel
theorem dI10_23 : decode bI10 23 = .ok (.putfield 19, 3) := by decide +kernel
theorem dI10_26 : decode bI10 26 = .ok (.aload_n 0, 1) := by decide +kernel
theorem dI10_27 : decode bI10 27 = .ok (.new 16, 3) := by decide +kernel
theorem dI10_30 : decode bI10 30 = .ok (.dup, 1) := by decide +kernel
theorem dI10_31 : decode bI10 31 = .ok (.invokespecial 18, 3) := by decide +kernel
theorem dI10_34 : decode bI10 34 = .ok (.putfield 23, 3) := by decide +kernel
theorem dI10_37 : decode bI10 37 = .ok (.return_, 1) := by decide +kernel
theorem wd_1 : Cond.initialized RX10 ∈ x_Ts := x_wq_of (i := 90) (by decide +kernel)
theorem wd_2 : Cond.initialized RX1 ∈ x_Ts := x_wq_of (i := 91) (by decide +kernel)
theorem wd_3 : Cond.initialized RX0 ∈ x_Ts := x_wq_of (i := 92) (by decide +kernel)
theorem wd_13 : Cond.initialized RX11 ∈ x_Ts := x_wq_of (i := 102) (by decide +kernel)
theorem wd_17 : Cond.classLink R_law 7 RX10 ∈ x_Ts := x_wq_of (i := 106) (by decide +kernel)
theorem wd_18 : Cond.instantiable RX10 3 ∈ x_Ts := x_wq_of (i := 107) (by decide +kernel)
theorem wd_19 : Cond.methodLink R_law 9 yI10 ∈ x_Ts := x_wq_of (i := 108) (by decide +kernel)
theorem wd_20 : Cond.instanceMethod yI10 ∈ x_Ts := x_wq_of (i := 109) (by decide +kernel)
theorem wd_21 : Cond.code yI10 bI10 1 none ∈ x_Ts := x_wq_of (i := 110) (by decide +kernel)
theorem wd_22 : Cond.methodLink RX10 3 objectInit ∈ x_Ts := x_wq_of (i := 111) (by decide +kernel)
theorem wd_25 : Cond.classLink RX10 9 RX1 ∈ x_Ts := x_wq_of (i := 114) (by decide +kernel)
theorem wd_26 : Cond.instantiable RX1 3 ∈ x_Ts := x_wq_of (i := 115) (by decide +kernel)
theorem wd_27 : Cond.methodLink RX10 11 yI1 ∈ x_Ts := x_wq_of (i := 116) (by decide +kernel)
theorem wd_28 : Cond.instanceMethod yI1 ∈ x_Ts := x_wq_of (i := 117) (by decide +kernel)
theorem wd_45 : Cond.classLink RX10 16 RX0 ∈ x_Ts := x_wq_of (i := 134) (by decide +kernel)
theorem wd_46 : Cond.instantiable RX0 11 ∈ x_Ts := x_wq_of (i := 135) (by decide +kernel)
theorem wd_47 : Cond.methodLink RX10 18 yI0 ∈ x_Ts := x_wq_of (i := 136) (by decide +kernel)
theorem wd_48 : Cond.instanceMethod yI0 ∈ x_Ts := x_wq_of (i := 137) (by decide +kernel)
theorem wd_470 : Cond.fieldLink RX10 12 "CueBoard" "book" "LCueBoard$Book;" ∈ x_Ts := x_wq_of (i := 559) (by decide +kernel)
theorem wd_471 : Cond.fieldLink RX10 19 "CueBoard" "live" "LCueBoard$Board;" ∈ x_Ts := x_wq_of (i := 560) (by decide +kernel)
theorem wd_472 : Cond.fieldLink RX10 23 "CueBoard" "again" "LCueBoard$Board;" ∈ x_Ts := x_wq_of (i := 561) (by decide +kernel)
theorem wd_1060 : Cond.classLink R_law 10 RX11 ∈ x_Ts := x_wq_of (i := 1149) (by decide +kernel)
theorem wd_1061 : Cond.instantiable RX11 13 ∈ x_Ts := x_wq_of (i := 1150) (by decide +kernel)
theorem wd_1062 : Cond.methodLink R_law 12 yI11 ∈ x_Ts := x_wq_of (i := 1151) (by decide +kernel)
theorem wd_1063 : Cond.instanceMethod yI11 ∈ x_Ts := x_wq_of (i := 1152) (by decide +kernel)
abbrev pI10 (h0 : Nat) : va_W := [(h0, .inr (10, [.null, .null, .null]))]
abbrev tL (dA : Nat → ClassId) (h0 : Nat) (a : Nat → Nat) (q1 q2 : Nat) : va_W := [(h0, .inr (10, [.ref (a 0), .ref q1, .ref q2])), (a 0, .inr (1, [.ref (a 1), .ref (a 2), .int 0])), (a 1, aI dA 120), (a 2, aI dA 600)]
abbrev tS : Type := (Nat → Nat) × ((xId → Nat) × xB) × ((xId → Nat) × xB)
abbrev tW (dA : Nat → ClassId) (h0 : Nat) (u : tS) : va_W := tL dA h0 u.1 (u.2.1.1 (1, 0, none)) (u.2.2.1 (2, 0, none)) ++ (x_ws (eT 1) u.2.1.1 dA (bM 1 u.2.1.2) ++ x_ws (eT 2) u.2.2.1 dA (bM 2 u.2.2.2))
def tQ (dA : Nat → ClassId) (D : va_G) (h0 sz : Nat) : Array Value → State → Outcome → State → Prop := va_Qv (fun u : tS => (cB u.2.1.2 ∧ ∀ r i, x_in (u.2.1.2 r i)) ∧ cB u.2.2.2 ∧ ∀ r i, x_in (u.2.2.2 r i)) (fun u U => va_P D vwCl (tW dA h0 u) U.heap ∧ va_K D vwCl (x_tys dA) U ∧ va_D (va_A (pI10 h0) sz) (tW dA h0 u)) (va_A (pI10 h0) sz)
set_option maxHeartbeats 8000000 in
set_option maxRecDepth 100000 in
theorem cI10 (l : Launch) (D : va_G) (dA : Nat → ClassId) (h0 sz : Nat) : Met l yI10 (Cond.code yI10 bI10 1 none :: x_Ts) ({ frames := 6, cells := 151, slots := 9801, locals := 230 }) (va_Pc [.ref h0] (fun U => U.heap.size = sz ∧ va_P D vwCl (pI10 h0) U.heap ∧ va_K D vwCl (x_tys dA) U ∧ va_D (fun _ => True) (pI10 h0) ∧ va_AO "CueBoard$Playback" U)) (tQ dA D h0 sz) 151 9801 (va_A (pI10 h0) sz) := by
  refine Met.ofW (cc := bI10) (maxL := 1) (ret := none) (by decide +kernel) rfl ?_
  intro p e s m args below meth c s₁ B hml hv
  obtain ⟨rfl, hsz, hP, hK, hD0, hAO⟩ := hv
  have hx := B.exec
  have hb := B.bytes
  have hr := B.returns
  have hts0 := atoms_spec (ws := Cond.code yI10 bI10 1 none :: x_Ts) B.pre
  have hts : ∀ w ∈ x_Ts, w.before _ s = true := fun w h => hts0 w (List.mem_cons_of_mem _ h)
  have hown : s.vm.findClass RX10 = some m.cls := findClass_of_methodNamed B.named
  have hlocks := B.notSynchronized
  have hin : meth.name = "<init>" := (name_of_methodNamed B.named B.method).1
  subst hsz
  unfold tQ
  have hD := hD0.self (sz := s.heap.size)
  generalize hAe : va_A (pI10 h0) s.heap.size = A at hD ⊢
  have hA : ∀ q : Nat, s.heap.size ≤ q → A q := fun q h => by rw [← hAe]; exact Or.inr h
  have hS : va_S A s.heap s.heap [] := va_S.rf
  have hl := lv_entry ([.ref h0]) (n := 1) (Nat.le_of_ble_eq_true rfl)
  rw [lg_entry_eq]
  generalize (lg_sl ([.ref h0]) ++ List.replicate (1 - (lg_sl ([.ref h0])).length) Slot.unset).toArray = ls at hl ⊢
  have hl : lv_has ls 1 [(0, .ref h0)] := hl
  refine lv_aload_n hx hb dI10_0 rfl (lv_at hl 0 rfl) ?_
  refine W.objInit hx hb hown (hts _ wd_22) (hts _ wd_23) (hts _ wd_24) rfl (by rw [hml]; exact hl.1) rfl dI10_1 (Nat.le_of_ble_eq_true rfl) (Nat.le_of_ble_eq_true rfl) ?_
  refine W.eq (g2 := F0 m 4 ls []) rfl ?_
  refine lv_aload_n hx hb dI10_4 rfl (lv_at hl 0 rfl) ?_
  refine va_new (ci := 1) (fs := [.null, .null, .int 0]) (C := RX1) (T := TX1) (N := 3) hx hb hts (x_cl_words 1 _ rfl).1 tyX1 tyX1_ok hown (hts _ wd_25) (hts _ wd_26) (hts _ wd_2) hK hP hD hS hA rfl df1 (Nat.le_of_ble_eq_true rfl) (Nat.le_of_ble_eq_true rfl) dI10_5 (fun q1 H hP hD hS => ?_)
  have hP : va_P D vwCl [(h0, .inr (10, [.null, .null, .null])), (q1, .inr (1, [.null, .null, .int 0]))] H := hP
  have hD : va_D A [(h0, .inr (10, [.null, .null, .null])), (q1, .inr (1, [.null, .null, .int 0]))] := hD
  refine W.widen (k := 1) (n := 3) (by decide) (by decide) ?_
  refine lv_dup hx hb dI10_8 rfl ?_
  have hPc := hP.sub (ws' := pI1 q1) [1] rfl
  have hDc := hD.sub (ws' := pI1 q1) [1] (by decide) rfl
  have hFc := va_free (wc := pI1 q1) hD hS hA [1] rfl
  refine va_callv (va_runI (As := []) (rest := [.ref q1, .ref h0]) ⟨hx, hb, hml, hown, hts⟩ (cI1 l D dA q1 H.size) (cwI 0 hts (gdI wd_29) rfl rfl rfl (hts _ wd_2) (hts _ wd_27) (hts _ wd_28) rfl (by decide +kernel) ⟨(Nat.le_of_ble_eq_true rfl), (Nat.le_of_ble_eq_true rfl)⟩) ⟨fun a U g mk q => by obtain ⟨q0, q1, qP, qK, qD⟩ := q; exact ⟨q0, q1, qP, va_K.moved (u := U) (U := U.calling g mk a) (Vm.Alike.refl U.vm) qK, qD⟩, fun U hU hW => ⟨rfl, by rw [hU], by rw [hU]; exact hPc, va_K.moved hW.alike hK, hDc.weaken (fun _ _ _ _ => trivial)⟩⟩ rfl rfl hl.1 rfl (lv_room (Nat.le_of_ble_eq_true rfl)) dI10_9 ⟨(Nat.le_of_ble_eq_true rfl), (Nat.le_of_ble_eq_true rfl)⟩) hS (fun q _ h => hFc q h) hFc (fun u1 t H1 locs ht hvm hw hB hz1 hk1 hS => ?_)
  obtain ⟨hP1, hK1, hD1⟩ := hB
  rw [ht] at hP1
  obtain ⟨hP, hD⟩ := va_join (wr := [(h0, .inr (10, [.null, .null, .null]))]) (w1 := [(q1, .inr (1, [.ref (u1 0), .ref (u1 1), .int 0])), ((u1 0), aI dA 120), ((u1 1), aI dA 600)]) hP hD [1] [0] rfl rfl (by decide) (by decide) hk1 hFc hP1 hD1
  generalize H1 = H at hP hS ⊢
  have hP : va_P D vwCl [(h0, .inr (10, [.null, .null, .null])), (q1, .inr (1, [.ref (u1 0), .ref (u1 1), .int 0])), ((u1 0), aI dA 120), ((u1 1), aI dA 600)] H := hP
  have hD : va_D A [(h0, .inr (10, [.null, .null, .null])), (q1, .inr (1, [.ref (u1 0), .ref (u1 1), .int 0])), ((u1 0), aI dA 120), ((u1 1), aI dA 600)] := hD
  refine W.widen (k := 3) (n := 723) (by decide) (by decide) ?_
  refine va_putF (D := D) (ci := 10) (v := .ref q1) (ty := .object "CueBoard$Book") (C := RX10) (T := TX10) (N := 3) hx hb hts (x_cl_words 10 _ rfl).1 tyX10 tyX10_ok nmX10 hown hK hP hD hS 0 rfl rfl 0 (by decide) (hts _ wd_470) (fun _ h9 => h9) rfl hin rfl (by decide +kernel) rfl rfl (Nat.le_of_ble_eq_true rfl) dI10_12 (fun H locs hP hD hS => ?_)
  have hP : va_P D vwCl [(h0, .inr (10, [.ref q1, .null, .null])), (q1, .inr (1, [.ref (u1 0), .ref (u1 1), .int 0])), ((u1 0), aI dA 120), ((u1 1), aI dA 600)] H := hP
  have hD : va_D A [(h0, .inr (10, [.ref q1, .null, .null])), (q1, .inr (1, [.ref (u1 0), .ref (u1 1), .int 0])), ((u1 0), aI dA 120), ((u1 1), aI dA 600)] := hD
  refine lv_aload_n hx hb dI10_15 rfl (lv_at hl 0 rfl) ?_
  refine va_new (ci := 0) (fs := [.null, .null, .null, .null, .null, .null, .null, .null, .int 0, .int 0, .int 0]) (C := RX0) (T := TX0) (N := 11) hx hb hts (x_cl_words 0 _ rfl).1 tyX0 tyX0_ok hown (hts _ wd_45) (hts _ wd_46) (hts _ wd_3) hK hP hD hS hA rfl df0 (Nat.le_of_ble_eq_true rfl) (Nat.le_of_ble_eq_true rfl) dI10_16 (fun q2 H hP hD hS => ?_)
  have hP : va_P D vwCl [(h0, .inr (10, [.ref q1, .null, .null])), (q1, .inr (1, [.ref (u1 0), .ref (u1 1), .int 0])), ((u1 0), aI dA 120), ((u1 1), aI dA 600), (q2, .inr (0, [.null, .null, .null, .null, .null, .null, .null, .null, .int 0, .int 0, .int 0]))] H := hP
  have hD : va_D A [(h0, .inr (10, [.ref q1, .null, .null])), (q1, .inr (1, [.ref (u1 0), .ref (u1 1), .int 0])), ((u1 0), aI dA 120), ((u1 1), aI dA 600), (q2, .inr (0, [.null, .null, .null, .null, .null, .null, .null, .null, .int 0, .int 0, .int 0]))] := hD
  refine W.widen (k := 4) (n := 734) (by decide) (by decide) ?_
  refine lv_dup hx hb dI10_19 rfl ?_
  have hP := hP.sub (ws' := pI0 q2 ++ [(h0, .inr (10, [.ref q1, .null, .null])), (q1, .inr (1, [.ref (u1 0), .ref (u1 1), .int 0])), ((u1 0), aI dA 120), ((u1 1), aI dA 600)]) [4, 0, 1, 2, 3] rfl
  have hD := hD.sub (ws' := pI0 q2 ++ [(h0, .inr (10, [.ref q1, .null, .null])), (q1, .inr (1, [.ref (u1 0), .ref (u1 1), .int 0])), ((u1 0), aI dA 120), ((u1 1), aI dA 600)]) [4, 0, 1, 2, 3] (by decide) rfl
  have hFc := vfree (ws := []) hD hS hA
  have hPc : va_P D vwCl (pI0 q2) H := vP_l hP
  have hDc : va_D A (pI0 q2) := vD_l hD
  have hM := cI0 l D dA q2 H.size 1 (Or.inl rfl)
  unfold bQ at hM
  refine va_callv (va_runI (As := []) (rest := [.ref q2, .ref h0]) ⟨hx, hb, hml, hown, hts⟩ hM (cwI 0 hts (gdI wd_49) rfl rfl rfl (hts _ wd_3) (hts _ wd_47) (hts _ wd_48) rfl (by decide +kernel) ⟨(Nat.le_of_ble_eq_true rfl), (Nat.le_of_ble_eq_true rfl)⟩) ⟨fun a U g mk q => by obtain ⟨q0, q1, qP, qK, qD, qA⟩ := q; exact ⟨q0, q1, qP, va_K.moved (u := U) (U := U.calling g mk a) (Vm.Alike.refl U.vm) qK, qD, va_AO.moved (u := U) (U := U.calling g mk a) (Vm.Alike.refl U.vm) qA⟩, fun U hU hW => ⟨rfl, by rw [hU], by rw [hU]; exact hPc, va_K.moved hW.alike hK, hDc.weaken (fun _ _ _ _ => trivial), va_AO.moved hW.alike hAO⟩⟩ rfl rfl hl.1 rfl (lv_room (Nat.le_of_ble_eq_true rfl)) dI10_20 ⟨(Nat.le_of_ble_eq_true rfl), (Nat.le_of_ble_eq_true rfl)⟩) hS (fun q _ h => hFc q h) hFc (fun u t H1 locs ht hvm hw hB hz1 hk1 hS => ?_)
  obtain ⟨ad1, x1⟩ := u
  obtain ⟨hP1, hK1, hD1⟩ := hB
  rw [ht] at hP1
  obtain ⟨w1, w1a, w1b⟩ := hw
  obtain ⟨hP, hD⟩ := vjoin (wc := pI0 q2) hP hD hk1 hFc hP1 hD1
  generalize H1 = H at hP hS ⊢
  refine W.widen (k := 77) (n := 5262) (by decide) (by decide) ?_
  have hP : va_P D vwCl ([(h0, .inr (10, [.ref q1, .null, .null])), (q1, .inr (1, [.ref (u1 0), .ref (u1 1), .int 0])), ((u1 0), aI dA 120), ((u1 1), aI dA 600)] ++ x_ws (eT 1) ad1 dA (bM 1 x1)) H := vP_perm List.perm_append_comm hP
  have hD : va_D A ([(h0, .inr (10, [.ref q1, .null, .null])), (q1, .inr (1, [.ref (u1 0), .ref (u1 1), .int 0])), ((u1 0), aI dA 120), ((u1 1), aI dA 600)] ++ x_ws (eT 1) ad1 dA (bM 1 x1)) := vD_perm List.perm_append_comm hD
  refine va_putF (D := D) (ci := 10) (v := .ref q2) (ty := .object "CueBoard$Board") (C := RX10) (T := TX10) (N := 3) hx hb hts (x_cl_words 10 _ rfl).1 tyX10 tyX10_ok nmX10 hown hK hP hD hS 0 rfl rfl 1 (by decide) (hts _ wd_471) (fun _ h9 => h9) rfl hin rfl (by decide +kernel) rfl rfl (Nat.le_of_ble_eq_true rfl) dI10_23 (fun H locs hP hD hS => ?_)
  have hP : va_P D vwCl ([(h0, .inr (10, [.ref q1, .ref q2, .null])), (q1, .inr (1, [.ref (u1 0), .ref (u1 1), .int 0])), ((u1 0), aI dA 120), ((u1 1), aI dA 600)] ++ x_ws (eT 1) ad1 dA (bM 1 x1)) H := hP
  have hD : va_D A ([(h0, .inr (10, [.ref q1, .ref q2, .null])), (q1, .inr (1, [.ref (u1 0), .ref (u1 1), .int 0])), ((u1 0), aI dA 120), ((u1 1), aI dA 600)] ++ x_ws (eT 1) ad1 dA (bM 1 x1)) := hD
  refine lv_aload_n hx hb dI10_26 rfl (lv_at hl 0 rfl) ?_
  refine va_new (ci := 0) (fs := [.null, .null, .null, .null, .null, .null, .null, .null, .int 0, .int 0, .int 0]) (C := RX0) (T := TX0) (N := 11) hx hb hts (x_cl_words 0 _ rfl).1 tyX0 tyX0_ok hown (hts _ wd_45) (hts _ wd_46) (hts _ wd_3) hK hP hD hS hA rfl df0 (Nat.le_of_ble_eq_true rfl) (Nat.le_of_ble_eq_true rfl) dI10_27 (fun q3 H hP hD hS => ?_)
  have hP : va_P D vwCl (pI0 q3 ++ ([(h0, .inr (10, [.ref q1, .ref q2, .null])), (q1, .inr (1, [.ref (u1 0), .ref (u1 1), .int 0])), ((u1 0), aI dA 120), ((u1 1), aI dA 600)] ++ x_ws (eT 1) ad1 dA (bM 1 x1))) H := vP_perm List.perm_append_comm hP
  have hD : va_D A (pI0 q3 ++ ([(h0, .inr (10, [.ref q1, .ref q2, .null])), (q1, .inr (1, [.ref (u1 0), .ref (u1 1), .int 0])), ((u1 0), aI dA 120), ((u1 1), aI dA 600)] ++ x_ws (eT 1) ad1 dA (bM 1 x1))) := vD_perm List.perm_append_comm hD
  refine W.widen (k := 78) (n := 5273) (by decide) (by decide) ?_
  refine lv_dup hx hb dI10_30 rfl ?_
  have hFc := vfree (ws := []) hD hS hA
  have hPc : va_P D vwCl (pI0 q3) H := vP_l hP
  have hDc : va_D A (pI0 q3) := vD_l hD
  have hM := cI0 l D dA q3 H.size 2 (Or.inr rfl)
  unfold bQ at hM
  refine va_callv (va_runI (As := []) (rest := [.ref q3, .ref h0]) ⟨hx, hb, hml, hown, hts⟩ hM (cwI 0 hts (gdI wd_49) rfl rfl rfl (hts _ wd_3) (hts _ wd_47) (hts _ wd_48) rfl (by decide +kernel) ⟨(Nat.le_of_ble_eq_true rfl), (Nat.le_of_ble_eq_true rfl)⟩) ⟨fun a U g mk q => by obtain ⟨q0, q1, qP, qK, qD, qA⟩ := q; exact ⟨q0, q1, qP, va_K.moved (u := U) (U := U.calling g mk a) (Vm.Alike.refl U.vm) qK, qD, va_AO.moved (u := U) (U := U.calling g mk a) (Vm.Alike.refl U.vm) qA⟩, fun U hU hW => ⟨rfl, by rw [hU], by rw [hU]; exact hPc, va_K.moved hW.alike hK, hDc.weaken (fun _ _ _ _ => trivial), va_AO.moved hW.alike hAO⟩⟩ rfl rfl hl.1 rfl (lv_room (Nat.le_of_ble_eq_true rfl)) dI10_31 ⟨(Nat.le_of_ble_eq_true rfl), (Nat.le_of_ble_eq_true rfl)⟩) hS (fun q _ h => hFc q h) hFc (fun u t H1 locs ht hvm hw hB hz1 hk1 hS => ?_)
  obtain ⟨ad2, x2⟩ := u
  obtain ⟨hP1, hK1, hD1⟩ := hB
  rw [ht] at hP1
  obtain ⟨w2, w2a, w2b⟩ := hw
  obtain ⟨hP, hD⟩ := vjoin (wc := pI0 q3) hP hD hk1 hFc hP1 hD1
  generalize H1 = H at hP hS ⊢
  refine W.widen (k := 151) (n := 9801) (by decide) (by decide) ?_
  have hP : va_P D vwCl ([(h0, .inr (10, [.ref q1, .ref q2, .null])), (q1, .inr (1, [.ref (u1 0), .ref (u1 1), .int 0])), ((u1 0), aI dA 120), ((u1 1), aI dA 600)] ++ (x_ws (eT 1) ad1 dA (bM 1 x1) ++ x_ws (eT 2) ad2 dA (bM 2 x2))) H := vP_perm (List.perm_append_comm.trans (by rw [List.append_assoc])) hP
  have hD : va_D A ([(h0, .inr (10, [.ref q1, .ref q2, .null])), (q1, .inr (1, [.ref (u1 0), .ref (u1 1), .int 0])), ((u1 0), aI dA 120), ((u1 1), aI dA 600)] ++ (x_ws (eT 1) ad1 dA (bM 1 x1) ++ x_ws (eT 2) ad2 dA (bM 2 x2))) := vD_perm (List.perm_append_comm.trans (by rw [List.append_assoc])) hD
  refine va_putF (D := D) (ci := 10) (v := .ref q3) (ty := .object "CueBoard$Board") (C := RX10) (T := TX10) (N := 3) hx hb hts (x_cl_words 10 _ rfl).1 tyX10 tyX10_ok nmX10 hown hK hP hD hS 0 rfl rfl 2 (by decide) (hts _ wd_472) (fun _ h9 => h9) rfl hin rfl (by decide +kernel) rfl rfl (Nat.le_of_ble_eq_true rfl) dI10_34 (fun H locs hP hD hS => ?_)
  have hP : va_P D vwCl ([(h0, .inr (10, [.ref q1, .ref q2, .ref q3])), (q1, .inr (1, [.ref (u1 0), .ref (u1 1), .int 0])), ((u1 0), aI dA 120), ((u1 1), aI dA 600)] ++ (x_ws (eT 1) ad1 dA (bM 1 x1) ++ x_ws (eT 2) ad2 dA (bM 2 x2))) H := hP
  have hD : va_D A ([(h0, .inr (10, [.ref q1, .ref q2, .ref q3])), (q1, .inr (1, [.ref (u1 0), .ref (u1 1), .int 0])), ((u1 0), aI dA 120), ((u1 1), aI dA 600)] ++ (x_ws (eT 1) ad1 dA (bM 1 x1) ++ x_ws (eT 2) ad2 dA (bM 2 x2))) := hD
  have w1a : ad1 (1, 0, none) = q2 := w1a
  have w2a : ad2 (2, 0, none) = q3 := w2a
  have hP2 : va_P D vwCl (tL dA h0 (fun k => ([q1, (u1 0), (u1 1)] : List Nat).getD k 0) (ad1 (1, 0, none)) (ad2 (2, 0, none)) ++ (x_ws (eT 1) ad1 dA (bM 1 x1) ++ x_ws (eT 2) ad2 dA (bM 2 x2))) H := by rw [w1a, w2a]; exact hP
  have hD2 : va_D A (tL dA h0 (fun k => ([q1, (u1 0), (u1 1)] : List Nat).getD k 0) (ad1 (1, 0, none)) (ad2 (2, 0, none)) ++ (x_ws (eT 1) ad1 dA (bM 1 x1) ++ x_ws (eT 2) ad2 dA (bM 2 x2))) := by rw [w1a, w2a]; exact hD
  exact W.vret hx hb hr (fun t ht hW => ⟨⟨((fun k => ([q1, (u1 0), (u1 1)] : List Nat).getD k 0), (ad1, x1), (ad2, x2)), rfl, ⟨⟨w1, w1b⟩, w2, w2b⟩, by rw [ht]; exact hP2, va_K.moved hW.alike hK, hD2⟩, hS.F ht⟩) hS.2.2 dI10_37
