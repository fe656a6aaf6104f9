/-! ===== the model is made (by program) ===== -/
abbrev mList (dA : Nat → ClassId) (al : Nat → Nat) : va_W := [(al 70, .inr (11, [.ref (al 71), .ref (al 72), .ref (al 73), .int 0, .int 0, .ref (al 74), .int 0, .int 0, .ref (al 75), .ref (al 76), .ref (al 77), .int 0, .ref (al 78)])), (al 71, aI dA 3779), (al 72, aI dA 3779), (al 73, aI dA 720), (al 74, aI dA 216), (al 75, aI dA 4), (al 76, aI dA 4), (al 77, aI dA 600), (al 78, aI dA 72)]
abbrev mIds : List xId := [(3, 70, none), (3, 71, none), (3, 72, none), (3, 73, none), (3, 74, none), (3, 75, none), (3, 76, none), (3, 77, none), (3, 78, none)]
set_option maxRecDepth 100000 in
theorem mIds_3 : x_ids (eT 3) = mIds := by decide +kernel
set_option maxHeartbeats 4000000 in
set_option maxRecDepth 100000 in
theorem mW {D : va_G} {dA : Nat → ClassId} {H : Heap} {A : Nat → Prop} (al : Nat → Nat) (hP : va_P D vwCl (mList dA al) H) (hD : va_D A (mList dA al)) : va_P D vwCl (x_ws (eT 3) (bAd al) dA (xZ, xZ, xZ, xZ)) H ∧ va_D A (x_ws (eT 3) (bAd al) dA (xZ, xZ, xZ, xZ)) := by
  have hat : ∀ id ∈ mIds, va_at D vwCl (bAd al id, x_cell (bAd al) dA (xZ, xZ, xZ, xZ) id) H := by
    refine List.forall_mem_cons.mpr ⟨hP 0 _ rfl, ?_⟩
    refine List.forall_mem_cons.mpr ⟨at_i (fun j hj => xaf_0 hj) (hP 1 _ rfl), ?_⟩
    refine List.forall_mem_cons.mpr ⟨at_i (fun j hj => xaf_0 hj) (hP 2 _ rfl), ?_⟩
    refine List.forall_mem_cons.mpr ⟨at_i (fun j hj => xaf_0 hj) (hP 3 _ rfl), ?_⟩
    refine List.forall_mem_cons.mpr ⟨at_i (fun j hj => xaf_0 hj) (hP 4 _ rfl), ?_⟩
    refine List.forall_mem_cons.mpr ⟨at_i (fun j hj => xaf_0 hj) (hP 5 _ rfl), ?_⟩
    refine List.forall_mem_cons.mpr ⟨at_i (fun j hj => xaf_0 hj) (hP 6 _ rfl), ?_⟩
    refine List.forall_mem_cons.mpr ⟨at_i (fun j hj => xaf_0 hj) (hP 7 _ rfl), ?_⟩
    refine List.forall_mem_cons.mpr ⟨at_i (fun j hj => xaf_0 hj) (hP 8 _ rfl), ?_⟩
    intro id h
    cases h
  have e : x_ws (eT 3) (bAd al) dA (xZ, xZ, xZ, xZ) = mIds.map (fun id => (bAd al id, x_cell (bAd al) dA (xZ, xZ, xZ, xZ) id)) := by
    unfold x_ws
    rw [mIds_3]
  rw [e]
  constructor
  · refine vP_iff.mpr fun q hq => ?_
    obtain ⟨id, h1, h2⟩ := List.mem_map.mp hq
    rw [← h2]
    exact hat id h1
  · obtain ⟨d1, d2⟩ := vD_iff.mp hD
    have e2 : (mIds.map (fun id => (bAd al id, x_cell (bAd al) dA (xZ, xZ, xZ, xZ) id))).map Prod.fst = (mList dA al).map Prod.fst := by
      rw [List.map_map]
      rfl
    refine vD_iff.mpr ⟨by rw [e2]; exact d1, fun q hq => ?_⟩
    have : q.1 ∈ (mList dA al).map Prod.fst := by
      rw [← e2]
      exact List.mem_map.mpr ⟨q, hq, rfl⟩
    obtain ⟨z, z1, z2⟩ := List.mem_map.mp this
    rw [← z2]
    exact d2 z z1
def xc_M_init : Nat → Option xE := fun pc => bif Nat.beq pc 71 then some (.aload_n 0, 72, [], none) else bif Nat.beq pc 72 then some (.invokevirtual 34, 75, [(1066, 147), (0, 1), (0, 11)], none) else bif Nat.beq pc 75 then some (.return_, 76, [], none) else none
def yI11 : MethodName := ⟨RX11, "<init>", "()V"⟩
abbrev bI11 : ByteArray := prog_13_method_1_code
theorem dI11_0 : decode bI11 0 = .ok (.aload_n 0, 1) := by decide +kernel
theorem dI11_1 : decode bI11 1 = .ok (.invokespecial 1, 3) := by decide +kernel
theorem dI11_4 : decode bI11 4 = .ok (.aload_n 0, 1) := by decide +kernel
theorem dI11_5 : decode bI11 5 = .ok (.sipush 3779, 3) := by decide +kernel
theorem dI11_8 : decode bI11 8 = .ok (.newarray .int, 2) := by decide +kernel
theorem dI11_10 : decode bI11 10 = .ok (.putfield 7, 3) := by decide +kernel
theorem dI11_13 : decode bI11 13 = .ok (.aload_n 0, 1) := by decide +kernel
theorem dI11_14 : decode bI11 14 = .ok (.sipush 3779, 3) := by decide +kernel
theorem dI11_17 : decode bI11 17 = .ok (.newarray .int, 2) := by decide +kernel
theorem dI11_19 : decode bI11 19 = .ok (.putfield 13, 3) := by decide +kernel
theorem dI11_22 : decode bI11 22 = .ok (.aload_n 0, 1) := by decide +kernel
theorem dI11_23 : decode bI11 23 = .ok (.sipush 720, 3) := by decide +kernel
theorem dI11_26 : decode bI11 26 = .ok (.newarray .int, 2) := by decide +kernel
theorem dI11_28 : decode bI11 28 = .ok (.putfield 16, 3) := by decide +kernel
theorem dI11_31 : decode bI11 31 = .ok (.aload_n 0, 1) := by decide +kernel
theorem dI11_32 : decode bI11 32 = .ok (.sipush 216, 3) := by decide +kernel
theorem dI11_35 : decode bI11 35 = .ok (.newarray .int, 2) := by decide +kernel
theorem dI11_37 : decode bI11 37 = .ok (.putfield 19, 3) := by decide +kernel
theorem dI11_40 : decode bI11 40 = .ok (.aload_n 0, 1) := by decide +kernel
theorem dI11_41 : decode bI11 41 = .ok (.iconst 4, 1) := by decide +kernel
theorem dI11_42 : decode bI11 42 = .ok (.newarray .int, 2) := by decide +kernel
theorem dI11_44 : decode bI11 44 = .ok (.putfield 22, 3) := by decide +kernel
theorem dI11_47 : decode bI11 47 = .ok (.aload_n 0, 1) := by decide +kernel
theorem dI11_48 : decode bI11 48 = .ok (.iconst 4, 1) := by decide +kernel
theorem dI11_49 : decode bI11 49 = .ok (.newarray .int, 2) := by decide +kernel
theorem dI11_51 : decode bI11 51 = .ok (.putfield 25, 3) := by decide +kernel
theorem dI11_54 : decode bI11 54 = .ok (.aload_n 0, 1) := by decide +kernel
theorem dI11_55 : decode bI11 55 = .ok (.sipush 600, 3) := by decide +kernel
theorem dI11_58 : decode bI11 58 = .ok (.newarray .int, 2) := by decide +kernel
theorem dI11_60 : decode bI11 60 = .ok (.putfield 28, 3) := by decide +kernel
theorem dI11_63 : decode bI11 63 = .ok (.aload_n 0, 1) := by decide +kernel
theorem dI11_64 : decode bI11 64 = .ok (.bipush 72, 2) := by decide +kernel
theorem dI11_66 : decode bI11 66 = .ok (.newarray .int, 2) := by decide +kernel
theorem dI11_68 : decode bI11 68 = .ok (.putfield 31, 3) := by decide +kernel
theorem wd_1064 : Cond.code yI11 bI11 1 none ∈ x_Ts := x_wq_of (i := 1153) (by decide +kernel)
theorem wd_1065 : Cond.methodLink RX11 1 objectInit ∈ x_Ts := x_wq_of (i := 1154) (by decide +kernel)
theorem wd_1071 : Cond.fieldLink RX11 7 "CueBoardModel" "s" "[I" ∈ x_Ts := x_wq_of (i := 1160) (by decide +kernel)
theorem wd_1072 : Cond.fieldLink RX11 13 "CueBoardModel" "aside" "[I" ∈ x_Ts := x_wq_of (i := 1161) (by decide +kernel)
theorem wd_1073 : Cond.fieldLink RX11 16 "CueBoardModel" "book" "[I" ∈ x_Ts := x_wq_of (i := 1162) (by decide +kernel)
theorem wd_1076 : Cond.fieldLink RX11 19 "CueBoardModel" "members" "[I" ∈ x_Ts := x_wq_of (i := 1165) (by decide +kernel)
theorem wd_1079 : Cond.fieldLink RX11 22 "CueBoardModel" "pile" "[I" ∈ x_Ts := x_wq_of (i := 1168) (by decide +kernel)
theorem wd_1080 : Cond.fieldLink RX11 25 "CueBoardModel" "pileAt" "[I" ∈ x_Ts := x_wq_of (i := 1169) (by decide +kernel)
theorem wd_1081 : Cond.fieldLink RX11 28 "CueBoardModel" "trace" "[I" ∈ x_Ts := x_wq_of (i := 1170) (by decide +kernel)
theorem wd_1083 : Cond.fieldLink RX11 31 "CueBoardModel" "level" "[I" ∈ x_Ts := x_wq_of (i := 1172) (by decide +kernel)
set_option maxRecDepth 100000 in
theorem xc_M_init_ok : ∀ pc en, xc_M_init pc = some en → x_ce RX11 bI11 pc en = true := by
  intro pc en h
  have key : ∀ pc, pc < 76 → (match xc_M_init pc with | none => true | some en => x_ce RX11 bI11 pc en) = true := by decide +kernel
  have hlt : pc < 76 := by
    rcases Nat.lt_or_ge pc 76 with q | q
    · exact q
    · have : xc_M_init pc = none := by
        unfold xc_M_init
        rw [nbf (a := pc) (b := 71) (by omega), nbf (a := pc) (b := 72) (by omega), nbf (a := pc) (b := 75) (by omega)]
        rfl
      rw [this] at h
      cases h
  have := key pc hlt
  rw [h] at this
  exact this
theorem xc_M_init_r : ∀ pc i nx ex mq, xc_M_init pc = some (i, nx, ex, mq) → i = .return_ ∨ (i ≠ .ireturn ∧ i ≠ .freturn) := by
  intro pc i nx ex mq h
  unfold xc_M_init at h
  cases h1 : Nat.beq pc 71
  · rw [h1] at h
    cases h2 : Nat.beq pc 72
    · rw [h2] at h
      cases h3 : Nat.beq pc 75
      · rw [h3] at h
        cases h
      · rw [h3] at h
        cases h
        exact Or.inl rfl
    · rw [h2] at h
      cases h
      exact Or.inr ⟨nofun, nofun⟩
  · rw [h1] at h
    cases h
    exact Or.inr ⟨nofun, nofun⟩
theorem tM (g : xB) (Q : xB → Prop) (h : w_m_begin g Q) : XW false (xcall 1) xc_M_init false (x_qVm xZ xZ xZ Q) 71 [some (.inr (.inr (3, 70, none)))] [] (xZ, xZ, xZ, g) := XW.go (cd := xc_M_init) (rb := false) (xcall_mono _) 4 true (x_cVm (k_m_begin_m 0 _ _ _ _ _ h) (fun b1 h => x_rVm h))
abbrev pI11 (h0 : Nat) : va_W := [(h0, .inr (11, [.null, .null, .null, .int 0, .int 0, .null, .int 0, .int 0, .null, .null, .null, .int 0, .null]))]
def mQ (dA : Nat → ClassId) (D : va_G) (h0 sz : Nat) : Array Value → State → Outcome → State → Prop := va_Qv (fun u : (xId → Nat) × xB => ((∀ r, r ≠ 71 → u.2 r = xZ r) ∧ ∀ i, i < 3779 → u.2 71 i = mI i) ∧ u.1 (3, 70, none) = h0 ∧ (∀ r i, x_in (u.2 r i))) (fun u U => va_P D vwCl (x_ws (eT 3) u.1 dA (xZ, xZ, xZ, u.2)) U.heap ∧ va_K D vwCl (x_tys dA) U ∧ va_D (va_A (pI11 h0) sz) (x_ws (eT 3) u.1 dA (xZ, xZ, xZ, u.2))) (va_A (pI11 h0) sz)
set_option maxHeartbeats 8000000 in
set_option maxRecDepth 100000 in
theorem cI11 (l : Launch) (D : va_G) (dA : Nat → ClassId) (h0 sz : Nat) : Met l yI11 (Cond.code yI11 bI11 1 none :: x_Ts) ({ frames := 2, cells := 8, slots := 9174, locals := 80 }) (va_Pc [.ref h0] (fun U => U.heap.size = sz ∧ va_P D vwCl (pI11 h0) U.heap ∧ va_K D vwCl (x_tys dA) U ∧ va_D (fun _ => True) (pI11 h0))) (mQ dA D h0 sz) 8 9174 (va_A (pI11 h0) sz) := by
  refine Met.ofW (cc := bI11) (maxL := 1) (ret := none) (by decide +kernel) rfl ?_
  intro p e s m args below meth c s₁ B hml hv
  obtain ⟨rfl, hsz, hP, hK, hD0⟩ := hv
  have hx := B.exec
  have hb := B.bytes
  have hr := B.returns
  have hts0 := atoms_spec (ws := Cond.code yI11 bI11 1 none :: x_Ts) B.pre
  have hts : ∀ w ∈ x_Ts, w.before _ s = true := fun w h => hts0 w (List.mem_cons_of_mem _ h)
  have hown : s.vm.findClass RX11 = some m.cls := findClass_of_methodNamed B.named
  have hlocks := B.notSynchronized
  have hin : meth.name = "<init>" := (name_of_methodNamed B.named B.method).1
  subst hsz
  unfold mQ
  have hD := hD0.self (sz := s.heap.size)
  generalize hAe : va_A (pI11 h0) s.heap.size = A at hD ⊢
  have hA : ∀ q : Nat, s.heap.size ≤ q → A q := fun q h => by rw [← hAe]; exact Or.inr h
  have hS : va_S A s.heap s.heap [] := va_S.rf
  have hl := lv_entry ([.ref h0]) (n := 1) (Nat.le_of_ble_eq_true rfl)
  rw [lg_entry_eq]
  generalize (lg_sl ([.ref h0]) ++ List.replicate (1 - (lg_sl ([.ref h0])).length) Slot.unset).toArray = ls at hl ⊢
  have hl : lv_has ls 1 [(0, .ref h0)] := hl
  refine lv_aload_n hx hb dI11_0 rfl (lv_at hl 0 rfl) ?_
  refine W.objInit hx hb hown (hts _ wd_1065) (hts _ wd_23) (hts _ wd_24) rfl (by rw [hml]; exact hl.1) rfl dI11_1 (Nat.le_of_ble_eq_true rfl) (Nat.le_of_ble_eq_true rfl) ?_
  refine W.eq (g2 := F0 m 4 ls []) rfl ?_
  refine lv_aload_n hx hb dI11_4 rfl (lv_at hl 0 rfl) ?_
  refine lv_sipush (v := 3779) hx hb dI11_5 (by decide) ?_
  refine nw_i hx hb (hts _ wd_44) hK hP hD hS hA 3779 (by decide) (by decide) (by decide) (Nat.le_of_ble_eq_true rfl) (Nat.le_of_ble_eq_true rfl) dI11_8 (fun q1 H hP hD hS => ?_)
  have hP : va_P D vwCl [(h0, .inr (11, [.null, .null, .null, .int 0, .int 0, .null, .int 0, .int 0, .null, .null, .null, .int 0, .null])), (q1, aI dA 3779)] H := hP
  have hD : va_D A [(h0, .inr (11, [.null, .null, .null, .int 0, .int 0, .null, .int 0, .int 0, .null, .null, .null, .int 0, .null])), (q1, aI dA 3779)] := hD
  refine W.widen (k := 1) (n := 3779) (by decide) (by decide) ?_
  refine va_putF (D := D) (ci := 11) (v := .ref q1) (ty := .array .int) (C := RX11) (T := TX11) (N := 13) hx hb hts (x_cl_words 11 _ rfl).1 tyX11 tyX11_ok nmX11 hown hK hP hD hS 0 rfl rfl 0 (by decide) (hts _ wd_1071) (fun _ h9 => h9) rfl hin rfl (by decide +kernel) rfl rfl (Nat.le_of_ble_eq_true rfl) dI11_10 (fun H locs hP hD hS => ?_)
  have hP : va_P D vwCl [(h0, .inr (11, [.ref q1, .null, .null, .int 0, .int 0, .null, .int 0, .int 0, .null, .null, .null, .int 0, .null])), (q1, aI dA 3779)] H := hP
  have hD : va_D A [(h0, .inr (11, [.ref q1, .null, .null, .int 0, .int 0, .null, .int 0, .int 0, .null, .null, .null, .int 0, .null])), (q1, aI dA 3779)] := hD
  refine lv_aload_n hx hb dI11_13 rfl (lv_at hl 0 rfl) ?_
  refine lv_sipush (v := 3779) hx hb dI11_14 (by decide) ?_
  refine nw_i hx hb (hts _ wd_44) hK hP hD hS hA 3779 (by decide) (by decide) (by decide) (Nat.le_of_ble_eq_true rfl) (Nat.le_of_ble_eq_true rfl) dI11_17 (fun q2 H hP hD hS => ?_)
  have hP : va_P D vwCl [(h0, .inr (11, [.ref q1, .null, .null, .int 0, .int 0, .null, .int 0, .int 0, .null, .null, .null, .int 0, .null])), (q1, aI dA 3779), (q2, aI dA 3779)] H := hP
  have hD : va_D A [(h0, .inr (11, [.ref q1, .null, .null, .int 0, .int 0, .null, .int 0, .int 0, .null, .null, .null, .int 0, .null])), (q1, aI dA 3779), (q2, aI dA 3779)] := hD
  refine W.widen (k := 2) (n := 7558) (by decide) (by decide) ?_
  refine va_putF (D := D) (ci := 11) (v := .ref q2) (ty := .array .int) (C := RX11) (T := TX11) (N := 13) hx hb hts (x_cl_words 11 _ rfl).1 tyX11 tyX11_ok nmX11 hown hK hP hD hS 0 rfl rfl 1 (by decide) (hts _ wd_1072) (fun _ h9 => h9) rfl hin rfl (by decide +kernel) rfl rfl (Nat.le_of_ble_eq_true rfl) dI11_19 (fun H locs hP hD hS => ?_)
  have hP : va_P D vwCl [(h0, .inr (11, [.ref q1, .ref q2, .null, .int 0, .int 0, .null, .int 0, .int 0, .null, .null, .null, .int 0, .null])), (q1, aI dA 3779), (q2, aI dA 3779)] H := hP
  have hD : va_D A [(h0, .inr (11, [.ref q1, .ref q2, .null, .int 0, .int 0, .null, .int 0, .int 0, .null, .null, .null, .int 0, .null])), (q1, aI dA 3779), (q2, aI dA 3779)] := hD
  refine lv_aload_n hx hb dI11_22 rfl (lv_at hl 0 rfl) ?_
  refine lv_sipush (v := 720) hx hb dI11_23 (by decide) ?_
  refine nw_i hx hb (hts _ wd_44) hK hP hD hS hA 720 (by decide) (by decide) (by decide) (Nat.le_of_ble_eq_true rfl) (Nat.le_of_ble_eq_true rfl) dI11_26 (fun q3 H hP hD hS => ?_)
  have hP : va_P D vwCl [(h0, .inr (11, [.ref q1, .ref q2, .null, .int 0, .int 0, .null, .int 0, .int 0, .null, .null, .null, .int 0, .null])), (q1, aI dA 3779), (q2, aI dA 3779), (q3, aI dA 720)] H := hP
  have hD : va_D A [(h0, .inr (11, [.ref q1, .ref q2, .null, .int 0, .int 0, .null, .int 0, .int 0, .null, .null, .null, .int 0, .null])), (q1, aI dA 3779), (q2, aI dA 3779), (q3, aI dA 720)] := hD
  refine W.widen (k := 3) (n := 8278) (by decide) (by decide) ?_
  refine va_putF (D := D) (ci := 11) (v := .ref q3) (ty := .array .int) (C := RX11) (T := TX11) (N := 13) hx hb hts (x_cl_words 11 _ rfl).1 tyX11 tyX11_ok nmX11 hown hK hP hD hS 0 rfl rfl 2 (by decide) (hts _ wd_1073) (fun _ h9 => h9) rfl hin rfl (by decide +kernel) rfl rfl (Nat.le_of_ble_eq_true rfl) dI11_28 (fun H locs hP hD hS => ?_)
  have hP : va_P D vwCl [(h0, .inr (11, [.ref q1, .ref q2, .ref q3, .int 0, .int 0, .null, .int 0, .int 0, .null, .null, .null, .int 0, .null])), (q1, aI dA 3779), (q2, aI dA 3779), (q3, aI dA 720)] H := hP
  have hD : va_D A [(h0, .inr (11, [.ref q1, .ref q2, .ref q3, .int 0, .int 0, .null, .int 0, .int 0, .null, .null, .null, .int 0, .null])), (q1, aI dA 3779), (q2, aI dA 3779), (q3, aI dA 720)] := hD
  refine lv_aload_n hx hb dI11_31 rfl (lv_at hl 0 rfl) ?_
  refine lv_sipush (v := 216) hx hb dI11_32 (by decide) ?_
  refine nw_i hx hb (hts _ wd_44) hK hP hD hS hA 216 (by decide) (by decide) (by decide) (Nat.le_of_ble_eq_true rfl) (Nat.le_of_ble_eq_true rfl) dI11_35 (fun q4 H hP hD hS => ?_)
  have hP : va_P D vwCl [(h0, .inr (11, [.ref q1, .ref q2, .ref q3, .int 0, .int 0, .null, .int 0, .int 0, .null, .null, .null, .int 0, .null])), (q1, aI dA 3779), (q2, aI dA 3779), (q3, aI dA 720), (q4, aI dA 216)] H := hP
  have hD : va_D A [(h0, .inr (11, [.ref q1, .ref q2, .ref q3, .int 0, .int 0, .null, .int 0, .int 0, .null, .null, .null, .int 0, .null])), (q1, aI dA 3779), (q2, aI dA 3779), (q3, aI dA 720), (q4, aI dA 216)] := hD
  refine W.widen (k := 4) (n := 8494) (by decide) (by decide) ?_
  refine va_putF (D := D) (ci := 11) (v := .ref q4) (ty := .array .int) (C := RX11) (T := TX11) (N := 13) hx hb hts (x_cl_words 11 _ rfl).1 tyX11 tyX11_ok nmX11 hown hK hP hD hS 0 rfl rfl 5 (by decide) (hts _ wd_1076) (fun _ h9 => h9) rfl hin rfl (by decide +kernel) rfl rfl (Nat.le_of_ble_eq_true rfl) dI11_37 (fun H locs hP hD hS => ?_)
  have hP : va_P D vwCl [(h0, .inr (11, [.ref q1, .ref q2, .ref q3, .int 0, .int 0, .ref q4, .int 0, .int 0, .null, .null, .null, .int 0, .null])), (q1, aI dA 3779), (q2, aI dA 3779), (q3, aI dA 720), (q4, aI dA 216)] H := hP
  have hD : va_D A [(h0, .inr (11, [.ref q1, .ref q2, .ref q3, .int 0, .int 0, .ref q4, .int 0, .int 0, .null, .null, .null, .int 0, .null])), (q1, aI dA 3779), (q2, aI dA 3779), (q3, aI dA 720), (q4, aI dA 216)] := hD
  refine lv_aload_n hx hb dI11_40 rfl (lv_at hl 0 rfl) ?_
  refine lv_iconst (v := 4) hx hb dI11_41 (by decide) ?_
  refine nw_i hx hb (hts _ wd_44) hK hP hD hS hA 4 (by decide) (by decide) (by decide) (Nat.le_of_ble_eq_true rfl) (Nat.le_of_ble_eq_true rfl) dI11_42 (fun q5 H hP hD hS => ?_)
  have hP : va_P D vwCl [(h0, .inr (11, [.ref q1, .ref q2, .ref q3, .int 0, .int 0, .ref q4, .int 0, .int 0, .null, .null, .null, .int 0, .null])), (q1, aI dA 3779), (q2, aI dA 3779), (q3, aI dA 720), (q4, aI dA 216), (q5, aI dA 4)] H := hP
  have hD : va_D A [(h0, .inr (11, [.ref q1, .ref q2, .ref q3, .int 0, .int 0, .ref q4, .int 0, .int 0, .null, .null, .null, .int 0, .null])), (q1, aI dA 3779), (q2, aI dA 3779), (q3, aI dA 720), (q4, aI dA 216), (q5, aI dA 4)] := hD
  refine W.widen (k := 5) (n := 8498) (by decide) (by decide) ?_
  refine va_putF (D := D) (ci := 11) (v := .ref q5) (ty := .array .int) (C := RX11) (T := TX11) (N := 13) hx hb hts (x_cl_words 11 _ rfl).1 tyX11 tyX11_ok nmX11 hown hK hP hD hS 0 rfl rfl 8 (by decide) (hts _ wd_1079) (fun _ h9 => h9) rfl hin rfl (by decide +kernel) rfl rfl (Nat.le_of_ble_eq_true rfl) dI11_44 (fun H locs hP hD hS => ?_)
  have hP : va_P D vwCl [(h0, .inr (11, [.ref q1, .ref q2, .ref q3, .int 0, .int 0, .ref q4, .int 0, .int 0, .ref q5, .null, .null, .int 0, .null])), (q1, aI dA 3779), (q2, aI dA 3779), (q3, aI dA 720), (q4, aI dA 216), (q5, aI dA 4)] H := hP
  have hD : va_D A [(h0, .inr (11, [.ref q1, .ref q2, .ref q3, .int 0, .int 0, .ref q4, .int 0, .int 0, .ref q5, .null, .null, .int 0, .null])), (q1, aI dA 3779), (q2, aI dA 3779), (q3, aI dA 720), (q4, aI dA 216), (q5, aI dA 4)] := hD
  refine lv_aload_n hx hb dI11_47 rfl (lv_at hl 0 rfl) ?_
  refine lv_iconst (v := 4) hx hb dI11_48 (by decide) ?_
  refine nw_i hx hb (hts _ wd_44) hK hP hD hS hA 4 (by decide) (by decide) (by decide) (Nat.le_of_ble_eq_true rfl) (Nat.le_of_ble_eq_true rfl) dI11_49 (fun q6 H hP hD hS => ?_)
  have hP : va_P D vwCl [(h0, .inr (11, [.ref q1, .ref q2, .ref q3, .int 0, .int 0, .ref q4, .int 0, .int 0, .ref q5, .null, .null, .int 0, .null])), (q1, aI dA 3779), (q2, aI dA 3779), (q3, aI dA 720), (q4, aI dA 216), (q5, aI dA 4), (q6, aI dA 4)] H := hP
  have hD : va_D A [(h0, .inr (11, [.ref q1, .ref q2, .ref q3, .int 0, .int 0, .ref q4, .int 0, .int 0, .ref q5, .null, .null, .int 0, .null])), (q1, aI dA 3779), (q2, aI dA 3779), (q3, aI dA 720), (q4, aI dA 216), (q5, aI dA 4), (q6, aI dA 4)] := hD
  refine W.widen (k := 6) (n := 8502) (by decide) (by decide) ?_
  refine va_putF (D := D) (ci := 11) (v := .ref q6) (ty := .array .int) (C := RX11) (T := TX11) (N := 13) hx hb hts (x_cl_words 11 _ rfl).1 tyX11 tyX11_ok nmX11 hown hK hP hD hS 0 rfl rfl 9 (by decide) (hts _ wd_1080) (fun _ h9 => h9) rfl hin rfl (by decide +kernel) rfl rfl (Nat.le_of_ble_eq_true rfl) dI11_51 (fun H locs hP hD hS => ?_)
  have hP : va_P D vwCl [(h0, .inr (11, [.ref q1, .ref q2, .ref q3, .int 0, .int 0, .ref q4, .int 0, .int 0, .ref q5, .ref q6, .null, .int 0, .null])), (q1, aI dA 3779), (q2, aI dA 3779), (q3, aI dA 720), (q4, aI dA 216), (q5, aI dA 4), (q6, aI dA 4)] H := hP
  have hD : va_D A [(h0, .inr (11, [.ref q1, .ref q2, .ref q3, .int 0, .int 0, .ref q4, .int 0, .int 0, .ref q5, .ref q6, .null, .int 0, .null])), (q1, aI dA 3779), (q2, aI dA 3779), (q3, aI dA 720), (q4, aI dA 216), (q5, aI dA 4), (q6, aI dA 4)] := hD
  refine lv_aload_n hx hb dI11_54 rfl (lv_at hl 0 rfl) ?_
  refine lv_sipush (v := 600) hx hb dI11_55 (by decide) ?_
  refine nw_i hx hb (hts _ wd_44) hK hP hD hS hA 600 (by decide) (by decide) (by decide) (Nat.le_of_ble_eq_true rfl) (Nat.le_of_ble_eq_true rfl) dI11_58 (fun q7 H hP hD hS => ?_)
  have hP : va_P D vwCl [(h0, .inr (11, [.ref q1, .ref q2, .ref q3, .int 0, .int 0, .ref q4, .int 0, .int 0, .ref q5, .ref q6, .null, .int 0, .null])), (q1, aI dA 3779), (q2, aI dA 3779), (q3, aI dA 720), (q4, aI dA 216), (q5, aI dA 4), (q6, aI dA 4), (q7, aI dA 600)] H := hP
  have hD : va_D A [(h0, .inr (11, [.ref q1, .ref q2, .ref q3, .int 0, .int 0, .ref q4, .int 0, .int 0, .ref q5, .ref q6, .null, .int 0, .null])), (q1, aI dA 3779), (q2, aI dA 3779), (q3, aI dA 720), (q4, aI dA 216), (q5, aI dA 4), (q6, aI dA 4), (q7, aI dA 600)] := hD
  refine W.widen (k := 7) (n := 9102) (by decide) (by decide) ?_
  refine va_putF (D := D) (ci := 11) (v := .ref q7) (ty := .array .int) (C := RX11) (T := TX11) (N := 13) hx hb hts (x_cl_words 11 _ rfl).1 tyX11 tyX11_ok nmX11 hown hK hP hD hS 0 rfl rfl 10 (by decide) (hts _ wd_1081) (fun _ h9 => h9) rfl hin rfl (by decide +kernel) rfl rfl (Nat.le_of_ble_eq_true rfl) dI11_60 (fun H locs hP hD hS => ?_)
  have hP : va_P D vwCl [(h0, .inr (11, [.ref q1, .ref q2, .ref q3, .int 0, .int 0, .ref q4, .int 0, .int 0, .ref q5, .ref q6, .ref q7, .int 0, .null])), (q1, aI dA 3779), (q2, aI dA 3779), (q3, aI dA 720), (q4, aI dA 216), (q5, aI dA 4), (q6, aI dA 4), (q7, aI dA 600)] H := hP
  have hD : va_D A [(h0, .inr (11, [.ref q1, .ref q2, .ref q3, .int 0, .int 0, .ref q4, .int 0, .int 0, .ref q5, .ref q6, .ref q7, .int 0, .null])), (q1, aI dA 3779), (q2, aI dA 3779), (q3, aI dA 720), (q4, aI dA 216), (q5, aI dA 4), (q6, aI dA 4), (q7, aI dA 600)] := hD
  refine lv_aload_n hx hb dI11_63 rfl (lv_at hl 0 rfl) ?_
  refine lv_bipush (v := 72) hx hb dI11_64 (by decide) ?_
  refine nw_i hx hb (hts _ wd_44) hK hP hD hS hA 72 (by decide) (by decide) (by decide) (Nat.le_of_ble_eq_true rfl) (Nat.le_of_ble_eq_true rfl) dI11_66 (fun q8 H hP hD hS => ?_)
  have hP : va_P D vwCl [(h0, .inr (11, [.ref q1, .ref q2, .ref q3, .int 0, .int 0, .ref q4, .int 0, .int 0, .ref q5, .ref q6, .ref q7, .int 0, .null])), (q1, aI dA 3779), (q2, aI dA 3779), (q3, aI dA 720), (q4, aI dA 216), (q5, aI dA 4), (q6, aI dA 4), (q7, aI dA 600), (q8, aI dA 72)] H := hP
  have hD : va_D A [(h0, .inr (11, [.ref q1, .ref q2, .ref q3, .int 0, .int 0, .ref q4, .int 0, .int 0, .ref q5, .ref q6, .ref q7, .int 0, .null])), (q1, aI dA 3779), (q2, aI dA 3779), (q3, aI dA 720), (q4, aI dA 216), (q5, aI dA 4), (q6, aI dA 4), (q7, aI dA 600), (q8, aI dA 72)] := hD
  refine W.widen (k := 8) (n := 9174) (by decide) (by decide) ?_
  refine va_putF (D := D) (ci := 11) (v := .ref q8) (ty := .array .int) (C := RX11) (T := TX11) (N := 13) hx hb hts (x_cl_words 11 _ rfl).1 tyX11 tyX11_ok nmX11 hown hK hP hD hS 0 rfl rfl 12 (by decide) (hts _ wd_1083) (fun _ h9 => h9) rfl hin rfl (by decide +kernel) rfl rfl (Nat.le_of_ble_eq_true rfl) dI11_68 (fun H locs hP hD hS => ?_)
  have hP : va_P D vwCl [(h0, .inr (11, [.ref q1, .ref q2, .ref q3, .int 0, .int 0, .ref q4, .int 0, .int 0, .ref q5, .ref q6, .ref q7, .int 0, .ref q8])), (q1, aI dA 3779), (q2, aI dA 3779), (q3, aI dA 720), (q4, aI dA 216), (q5, aI dA 4), (q6, aI dA 4), (q7, aI dA 600), (q8, aI dA 72)] H := hP
  have hD : va_D A [(h0, .inr (11, [.ref q1, .ref q2, .ref q3, .int 0, .int 0, .ref q4, .int 0, .int 0, .ref q5, .ref q6, .ref q7, .int 0, .ref q8])), (q1, aI dA 3779), (q2, aI dA 3779), (q3, aI dA 720), (q4, aI dA 216), (q5, aI dA 4), (q6, aI dA 4), (q7, aI dA 600), (q8, aI dA 72)] := hD
  obtain ⟨al, hal⟩ : ∃ al : Nat → Nat, al = fun k => ((([(70, h0), (71, q1), (72, q2), (73, q3), (74, q4), (75, q5), (76, q6), (77, q7), (78, q8)] : List (Nat × Nat)).find? (fun z => Nat.beq z.1 k)).map Prod.snd).getD 0 := ⟨_, rfl⟩
  have a0 : al 70 = h0 := by rw [hal]; rfl
  have hPb : va_P D vwCl (mList dA al) H := by
    refine vP_iff.mpr ?_
    refine List.forall_mem_cons.mpr ⟨hP 0 _ (by rw [hal]; rfl), ?_⟩
    refine List.forall_mem_cons.mpr ⟨hP 1 _ (by rw [hal]; rfl), ?_⟩
    refine List.forall_mem_cons.mpr ⟨hP 2 _ (by rw [hal]; rfl), ?_⟩
    refine List.forall_mem_cons.mpr ⟨hP 3 _ (by rw [hal]; rfl), ?_⟩
    refine List.forall_mem_cons.mpr ⟨hP 4 _ (by rw [hal]; rfl), ?_⟩
    refine List.forall_mem_cons.mpr ⟨hP 5 _ (by rw [hal]; rfl), ?_⟩
    refine List.forall_mem_cons.mpr ⟨hP 6 _ (by rw [hal]; rfl), ?_⟩
    refine List.forall_mem_cons.mpr ⟨hP 7 _ (by rw [hal]; rfl), ?_⟩
    refine List.forall_mem_cons.mpr ⟨hP 8 _ (by rw [hal]; rfl), ?_⟩
    intro q h
    cases h
  have hDb : va_D A (mList dA al) := by
    obtain ⟨d1, d2⟩ := vD_iff.mp (hD.sub (ws' := [(h0, .inr (11, [.ref q1, .ref q2, .ref q3, .int 0, .int 0, .ref q4, .int 0, .int 0, .ref q5, .ref q6, .ref q7, .int 0, .ref q8])), (q1, aI dA 3779), (q2, aI dA 3779), (q3, aI dA 720), (q4, aI dA 216), (q5, aI dA 4), (q6, aI dA 4), (q7, aI dA 600), (q8, aI dA 72)]) [0, 1, 2, 3, 4, 5, 6, 7, 8] (by decide) rfl)
    have e2 : (mList dA al).map Prod.fst = [h0, q1, q2, q3, q4, q5, q6, q7, q8] := by rw [hal]; rfl
    refine vD_iff.mpr ⟨by rw [e2]; exact d1, fun q hq => ?_⟩
    have h3 : q.1 ∈ (mList dA al).map Prod.fst := List.mem_map.mpr ⟨q, hq, rfl⟩
    rw [e2] at h3
    obtain ⟨z, z1, z2⟩ := List.mem_map.mp (show q.1 ∈ ([(h0, .inr (11, [.ref q1, .ref q2, .ref q3, .int 0, .int 0, .ref q4, .int 0, .int 0, .ref q5, .ref q6, .ref q7, .int 0, .ref q8])), (q1, aI dA 3779), (q2, aI dA 3779), (q3, aI dA 720), (q4, aI dA 216), (q5, aI dA 4), (q6, aI dA 4), (q7, aI dA 600), (q8, aI dA 72)]).map Prod.fst from h3)
    rw [← z2]
    exact d2 z z1
  clear hal hP hD
  obtain ⟨g', cb1, cb2, cw⟩ := begin_A xZ
  obtain ⟨hPx, hDx⟩ := mW al hPb hDb
  have F : x_fix p s m ([Value.ref h0]).toArray c s.heap bI11 1 RX11 (eT 3) (bAd al) dA D A false 0 0 (fun _ => 0) (x_rd (xZ, xZ, xZ, xZ) 0) := ⟨⟨hx, hb, hml, hown, hts⟩, hK, fun M' => x_D_any hDx M', hA, (fun h => absurd h (by decide)), (fun h => absurd h (by decide))⟩
  have hvd : x_vd (eT 3) (3, 70, none) := ⟨rfl, rfl⟩
  have r : x_rel s.heap 1 (eT 3) (bAd al) dA D A (x_rd (xZ, xZ, xZ, xZ) 0) [some (.inr (.inr (3, 70, none)))] [] (xZ, xZ, xZ, xZ) H locs ls := by
    refine ⟨⟨?_, rfl, ?_⟩, fun v h => (List.not_mem_nil h).elim, hPx, hS, fun t r i => by rw [xrd_0]; exact x_0I, fun i => ⟨rfl, rfl⟩⟩
    · show lv_has ls 1 [(0, .ref (al 70))]
      rw [a0]
      exact hl
    · intro v hv
      rcases List.mem_cons.mp hv with h | h
      · cases h
        exact Or.inl hvd
      · exact absurd h List.not_mem_nil
  refine x_run (q := false) (rb := false) (cd := xc_M_init) (RR := x_qVm xZ xZ xZ (fun b => b = g')) (st := []) F (x_sound (E := eT 3) (ad := bAd al) (dA := dA) (D := D) (fun h => absurd h (by decide)) 1) ⟨Nat.le_of_ble_eq_true rfl, Nat.le_of_ble_eq_true rfl⟩ ⟨Nat.le_of_ble_eq_true rfl, Nat.le_of_ble_eq_true rfl⟩ ?_ xc_M_init_ok (tM xZ _ (cw _ rfl)) r
  refine ⟨?_, ?_, ?_⟩
  · rintro pc L x M' H locs ls ⟨nx, ex, mq, hcd⟩
    rcases xc_M_init_r _ _ _ _ _ hcd with h | h
    · cases h
    · exact absurd rfl h.1
  · rintro pc L x M' H locs ls ⟨nx, ex, mq, hcd⟩
    rcases xc_M_init_r _ _ _ _ _ hcd with h | h
    · cases h
    · exact absurd rfl h.2
  · rintro pc L M' H locs ls ⟨nx, ex, mq, hcd⟩ r hRR hd
    obtain ⟨b2, -, hM, rfl⟩ := hRR
    subst hM
    have hin2 : ∀ r i, x_in (b2 r i) := fun r' i => r.2.2.2.2.1 3 r' i
    exact W.vret hx hb hr (fun t ht hW => ⟨⟨(bAd al, b2), rfl, ⟨⟨cb1, cb2⟩, a0, hin2⟩, by rw [ht]; exact r.2.2.1, va_K.moved hW.alike hK, x_D_any hDx _⟩, r.2.2.2.1.F ht⟩) r.2.2.2.1.2.2 hd hlocks
