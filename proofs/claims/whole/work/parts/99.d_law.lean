/-! THE CLAIM OUT OF ONE WALK OF THE LAW'S BODY. Your part is whole_start (and what it stands on); all else here is the same for every law, but numbers. -/
def lw_P (b : Addr) (xs : List Int32) (args : Array Value) (s : State) : Prop := args = #[.ref b] ∧ s.IntsAt b xs ∧ xs.length ≤ 3072 ∧ (Jvm.Cond.and given_1 narrow_1).before args s = true
/-- what a walk over the start with the record d0 says of its end, said of the start itself -/
theorem lw_closed {s t : State} {o : Outcome} {d0 : Drawn} {L : List Loc} {k n : Nat} (hd0 : s.drawn.sameBut d0 lw_cs) (hv : ∃ v, o = .returned v) (hW : (s.setDrawn d0).WarmedH t.vm) (hs : (s.setDrawn d0).sameButNew ({ t with vm := s.vm } : State) L k n) : State.butDraws s t lw_cs (fun t1 => Framed s o t1 L k n) := by
  have h2 : t.drawn = d0 := congrArg State.drawn hs.1
  refine ⟨⟨hv, hW, State.sameButNew.setDrawn hs s.drawn⟩, ?_, by decide⟩
  rw [h2]
  exact hd0
def lw_Q (_ : Array Value) (s : State) (o : Outcome) (t : State) : Prop := o = .returned (some (.int 1)) ∧ State.butDraws s t lw_cs (fun t1 => Framed s o t1 [] 600000 7302250)
def lw_Z (below : List Frame) (a : Array Value) (s : State) : State → Prop := fun t => ∃ o, t.status = .running ∧ Ended t below o ∧ lw_Q a s o t
/-- the law's own end, with 1 on the stack, nothing written that was there before, its room as the claim has it; d0: the record of draws at this point (at the entry s.drawn: begin with 'refine W.base ?_' and 'have hd0 := Drawn.sameBut.refl s.drawn lw_cs') -/
theorem lw_ret {p : Program} {l : Launch} {e : Env} {s : State} {m : MethodId} {below : List Frame} {meth : Method} {c : Code} {b : Nat} {d0 : Drawn} (hd0 : s.drawn.sameBut d0 lw_cs) (hx : p.tables.exec = Jvm.exec) (hb : c.code = code) (hr : meth.sig.returnType = ret) (hlocks : meth.locks = false) {pc : Nat} {H : Heap} {ls : Array Slot} (hdg : decode code pc = .ok (.ireturn, 1)) : W p l e room_1 (s.setDrawn d0) m #[Value.ref b] below meth c H [] 600000 7302250 (lw_Z below #[Value.ref b] s) (F0 m pc ls [.int 1]) := by
  intro T hT X
  obtain ⟨fs, hret, hrun, hended, hW, hframe⟩ := X.leave (v := some (.int 1)) (hlocks := hlocks) (fun h => by rw [hr] at h; cases h)
  have hmeth' : T.vm.method? m = some meth := X.method'
  refine ⟨T.setFrames fs, ?_, .returned (some (.int 1)), hrun, hended, rfl, lw_closed hd0 ⟨_, rfl⟩ hW hframe⟩
  jvm_step X.here [X.here.top, hx, hb, hdg, hmeth', hr, ret, narrow_b1]
  (try refine ⟨rfl, ?_⟩); (try refine ⟨rfl, ?_⟩)
  first | (intro acts; rw [hret _ acts rfl rfl rfl]) | rw [hret _ _ rfl rfl rfl]
  exact Steps.refl _
/-- what holds at the law's entry: the machine, the code, the tables' words (any of lw_tbl by 'hts w (by decide +kernel)'), the script of L ints xs at the cell b, what the Statement gives of the start (any of its parts by flat_of_before) -/
def lw_At (p : Program) (s : State) (m : MethodId) (meth : Method) (c : Code) (b L : Nat) (xs : Nat → Int32) : Prop :=
  p.tables.exec = Jvm.exec ∧ c.code = code ∧ meth.sig.returnType = ret ∧ c.maxLocals = 4 ∧ s.vm.findClass R_law = some m.cls ∧ (∀ w ∈ lw_tbl, w.before #[Value.ref b] s = true) ∧ va_X b L xs s s.heap ∧ b < s.heap.size ∧ meth.locks = false ∧ (Jvm.Cond.and given_1 narrow_1).before #[Value.ref b] s = true
theorem dL_0 : decode code 0 = .ok (.new 7, 3) := by decide +kernel
theorem dL_3 : decode code 3 = .ok (.dup, 1) := by decide +kernel
theorem dL_4 : decode code 4 = .ok (.invokespecial 9, 3) := by decide +kernel
theorem dL_7 : decode code 7 = .ok (.astore_n 1, 1) := by decide +kernel
theorem dL_8 : decode code 8 = .ok (.new 10, 3) := by decide +kernel
theorem dL_11 : decode code 11 = .ok (.dup, 1) := by decide +kernel
theorem dL_12 : decode code 12 = .ok (.invokespecial 12, 3) := by decide +kernel
theorem dL_15 : decode code 15 = .ok (.astore_n 2, 1) := by decide +kernel
theorem ao_tbl : Cond.arrayOver (.object "CueBoard$Playback") ∈ lw_tbl := List.mem_of_getElem? (i := 347) (by decide +kernel)
/-- the top's memory at the start: the script -/
def t0F (xs : Nat → Int32) (L : Nat) : xB := fun r i => if r = 64 then (xs i).toInt else if r = 65 then (L : Int) else 0
theorem t0F_in (xs : Nat → Int32) {L : Nat} (hL : L ≤ 3072) (r i : Nat) : x_in (t0F xs L r i) := by
  unfold t0F
  split
  · exact x_in_toI _
  · split
    · exact ⟨by omega, by omega⟩
    · exact x_0I
theorem rS_start {xs : Nat → Int32} {L : Nat} {x g : xB} (hx : cB x) (h1 : ∀ r, r ≠ 71 → g r = xZ r) (h2 : ∀ i, i < 3779 → g 71 i = mI i) : rS 0 (t0F xs L) x g := by
  have e108 : x 108 0 = 0 := hx.2.2.2.2.2.2.2.2.2.2.2.2.1
  have e172 : x 172 0 = 0 := hx.2.2.1.2.2.1
  have t1 : t0F xs L 1322 0 = 0 := rfl
  have g1 : g 1503 0 = 0 := by rw [h1 1503 (by omega)]
  have g2 : g 1504 0 = 0 := by rw [h1 1504 (by omega)]
  have g3 : g 1511 0 = 0 := by rw [h1 1511 (by omega)]
  refine ⟨rB_0 hx h2, ⟨by rw [t1, g1], by omega, by omega, g2, fun i _ hi => by omega, fun _ => ?_⟩, by rw [e172, g3], by omega, by omega, fun i hi => by omega⟩
  rw [t1, e108]
  rfl
set_option maxHeartbeats 8000000 in
set_option maxRecDepth 100000 in
theorem whole_start {p : Program} {e : Env} {s : State} {m : MethodId} {below : List Frame} {meth : Method} {c : Code} (l : Launch) {b L : Nat} {xs : Nat → Int32} (hL : L ≤ 3072) (C0 : lw_At p s m meth c b L xs) : W p l e room_1 s m #[Value.ref b] below meth c s.heap [] 0 0 (lw_Z below #[Value.ref b] s) (entryFrame m ([Value.ref b] : List Value).toArray 4) := by
  obtain ⟨hx, hb, hr, hml, hown, hts0, hX, hbl, hlocks, hgv⟩ := id C0
  have hd0 := Drawn.sameBut.refl s.drawn lw_cs
  refine W.base ?_
  have htl := dr_words hts0 s.drawn
  have hts : ∀ w ∈ x_Ts, w.before #[Value.ref b] (s.setDrawn s.drawn) = true := fun w h => htl w (List.mem_filter.mp h).1
  have hAO : va_AO "CueBoard$Playback" (s.setDrawn s.drawn) := va_AO.of (htl _ ao_tbl)
  obtain ⟨A, hAe⟩ : ∃ A : Nat → Prop, A = fun q : Nat => s.heap.size ≤ q := ⟨_, rfl⟩
  have hA : ∀ q : Nat, s.heap.size ≤ q → A q := fun q h => by rw [hAe]; exact h
  have hA2 : ∀ q : Nat, A q → s.heap.size ≤ q := fun q h => by rw [hAe] at h; exact h
  have hbA : ¬ A b := fun h => absurd (hA2 b h) (Nat.not_le.mpr hbl)
  obtain ⟨c0, iS0, hKn0⟩ := u_known (s := s.setDrawn s.drawn) (C := RX0) (T := TX0) (N := 11) (n := 11) hts (x_cl_words 0 _ rfl).1 (hts _ wd_46)
  obtain ⟨c1, iS1, hKn1⟩ := u_known (s := s.setDrawn s.drawn) (C := RX1) (T := TX1) (N := 3) (n := 3) hts (x_cl_words 1 _ rfl).1 (hts _ wd_26)
  obtain ⟨c2, iS2, hKn2⟩ := u_known (s := s.setDrawn s.drawn) (C := RX2) (T := TX2) (N := 9) (n := 9) hts (x_cl_words 2 _ rfl).1 (hts _ wd_219)
  obtain ⟨c3, iS3, hKn3⟩ := u_known (s := s.setDrawn s.drawn) (C := RX3) (T := TX3) (N := 7) (n := 7) hts (x_cl_words 3 _ rfl).1 (hts _ wd_190)
  obtain ⟨c4, iS4, hKn4⟩ := u_known (s := s.setDrawn s.drawn) (C := RX4) (T := TX4) (N := 1) (n := 1) hts (x_cl_words 4 _ rfl).1 (hts _ wd_52)
  obtain ⟨c5, iS5, hKn5⟩ := u_known (s := s.setDrawn s.drawn) (C := RX5) (T := TX5) (N := 7) (n := 7) hts (x_cl_words 5 _ rfl).1 (hts _ wd_62)
  obtain ⟨c6, iS6, hKn6⟩ := u_known (s := s.setDrawn s.drawn) (C := RX6) (T := TX6) (N := 13) (n := 13) hts (x_cl_words 6 _ rfl).1 (hts _ wd_260)
  obtain ⟨c7, iS7, hKn7⟩ := u_known (s := s.setDrawn s.drawn) (C := RX7) (T := TX7) (N := 7) (n := 7) hts (x_cl_words 7 _ rfl).1 (hts _ wd_153)
  obtain ⟨c8, iS8, hKn8⟩ := u_known (s := s.setDrawn s.drawn) (C := RX8) (T := TX8) (N := 15) (n := 15) hts (x_cl_words 8 _ rfl).1 (hts _ wd_308)
  obtain ⟨c9, iS9, hKn9⟩ := u_known (s := s.setDrawn s.drawn) (C := RX9) (T := TX9) (N := 14) (n := 14) hts (x_cl_words 9 _ rfl).1 (hts _ wd_98)
  obtain ⟨c10, iS10, hKn10⟩ := u_known (s := s.setDrawn s.drawn) (C := RX10) (T := TX10) (N := 3) (n := 3) hts (x_cl_words 10 _ rfl).1 (hts _ wd_18)
  obtain ⟨c11, iS11, hKn11⟩ := u_known (s := s.setDrawn s.drawn) (C := RX11) (T := TX11) (N := 13) (n := 13) hts (x_cl_words 11 _ rfl).1 (hts _ wd_1061)
  obtain ⟨D, hDe⟩ : ∃ D : va_G, D = (fun k => ([c0, c1, c2, c3, c4, c5, c6, c7, c8, c9, c10, c11] : List ClassId).getD k c0, fun k => ([iS0, iS1, iS2, iS3, iS4, iS5, iS6, iS7, iS8, iS9, iS10, iS11] : List (Nat → Nat)).getD k iS0) := ⟨_, rfl⟩
  have hKc : ∀ (k : Nat) (q : vw_C), vwCl[k]? = some q → u_Kn (s.setDrawn s.drawn) q.1 q.2.1 q.2.2 (D.1 k) (D.2 k) := by
    rw [hDe]
    intro k q hq
    match k, hq with
    | 0, hq => cases hq; exact hKn0
    | 1, hq => cases hq; exact hKn1
    | 2, hq => cases hq; exact hKn2
    | 3, hq => cases hq; exact hKn3
    | 4, hq => cases hq; exact hKn4
    | 5, hq => cases hq; exact hKn5
    | 6, hq => cases hq; exact hKn6
    | 7, hq => cases hq; exact hKn7
    | 8, hq => cases hq; exact hKn8
    | 9, hq => cases hq; exact hKn9
    | 10, hq => cases hq; exact hKn10
    | 11, hq => cases hq; exact hKn11
    | k + 12, hq => simp [vwCl] at hq
  obtain ⟨cA0, k0a, k0b⟩ := kArr (hts _ wd_44)
  obtain ⟨cA1, k1a, k1b⟩ := kArr (hts _ wd_96)
  obtain ⟨cA2, k2a, k2b⟩ := kArr (hts _ wd_217)
  obtain ⟨cA3, k3a, k3b⟩ := kArrQ hAO
  obtain ⟨dA, hdA⟩ : ∃ dA : Nat → ClassId, dA = fun k => ([cA0, cA1, cA2, cA3] : List ClassId).getD k cA0 := ⟨_, rfl⟩
  have hK : va_K D vwCl (x_tys dA) (s.setDrawn s.drawn) := by
    refine ⟨hKc, fun k q h => ?_⟩
    rw [hdA] at h
    match k, h with
    | 0, h => cases h; exact ⟨k0a, k0b⟩
    | 1, h => cases h; exact ⟨k1a, k1b⟩
    | 2, h => cases h; exact ⟨k2a, k2b⟩
    | 3, h => cases h; exact ⟨k3a, k3b⟩
    | k + 4, h => simp [x_tys] at h
  clear hKc hDe hdA
  have hS : va_S A s.heap s.heap [] := va_S.rf
  have hP : va_P D vwCl [] s.heap := fun k q h => by simp at h
  have hD : va_D A [] := ⟨fun i j p q h => by simp at h, fun k q h => by simp at h⟩
  have hl := lv_entry ([.ref b]) (n := 4) (Nat.le_of_ble_eq_true rfl)
  rw [lg_entry_eq]
  generalize (lg_sl ([.ref b]) ++ List.replicate (4 - (lg_sl ([.ref b])).length) Slot.unset).toArray = ls at hl ⊢
  have hl : lv_has ls 4 [(0, .ref b)] := hl
  refine va_new (ci := 10) (fs := [.null, .null, .null]) (C := RX10) (T := TX10) (N := 3) hx hb hts (x_cl_words 10 _ rfl).1 tyX10 tyX10_ok hown (hts _ wd_17) (hts _ wd_18) (hts _ wd_1) hK hP hD hS hA rfl df10 (Nat.le_of_ble_eq_true rfl) (Nat.le_of_ble_eq_true rfl) dL_0 (fun q1 H hP hD hS => ?_)
  have hP : va_P D vwCl (pI10 q1 ++ []) H := hP
  have hD : va_D A (pI10 q1 ++ []) := hD
  refine W.widen (k := 1) (n := 3) (by decide) (by decide) ?_
  refine lv_dup hx hb dL_3 rfl ?_
  have hFc := vfree (ws := []) hD hS hA
  have hPc : va_P D vwCl (pI10 q1) H := vP_l hP
  have hDc : va_D A (pI10 q1) := vD_l hD
  have hM := cI10 l D dA q1 H.size
  unfold tQ at hM
  refine va_callv (va_runI (As := []) (rest := [.ref q1]) ⟨hx, hb, hml, hown, hts⟩ hM (cwI 0 hts (gdI wd_21) rfl rfl rfl (hts _ wd_1) (hts _ wd_19) (hts _ wd_20) rfl (by decide +kernel) ⟨(Nat.le_of_ble_eq_true rfl), (Nat.le_of_ble_eq_true rfl)⟩) ⟨fun a U g mk q => by obtain ⟨q0, q1, qP, qK, qD, qA⟩ := q; exact ⟨q0, q1, qP, va_K.moved (u := U) (U := U.calling g mk a) (Vm.Alike.refl U.vm) qK, qD, va_AO.moved (u := U) (U := U.calling g mk a) (Vm.Alike.refl U.vm) qA⟩, fun U hU hW => ⟨rfl, by rw [hU], by rw [hU]; exact hPc, va_K.moved hW.alike hK, hDc.weaken (fun _ _ _ _ => trivial), va_AO.moved hW.alike hAO⟩⟩ rfl rfl hl.1 rfl (lv_room (Nat.le_of_ble_eq_true rfl)) dL_4 ⟨(Nat.le_of_ble_eq_true rfl), (Nat.le_of_ble_eq_true rfl)⟩) hS (fun q _ h => hFc q h) hFc (fun u t H1 locs ht hvm hw hB hz1 hk1 hS => ?_)
  obtain ⟨a, ⟨ad1, x⟩, ⟨ad2, y⟩⟩ := u
  obtain ⟨hP1, hK1, hD1⟩ := hB
  rw [ht] at hP1
  obtain ⟨⟨cx, ix⟩, cy, iy⟩ := hw
  obtain ⟨hP, hD⟩ := vjoin (wc := pI10 q1) hP hD hk1 hFc hP1 hD1
  rw [List.append_nil] at hP hD
  generalize H1 = H at hP hS ⊢
  refine W.widen (k := 152) (n := 9804) (by decide) (by decide) ?_
  refine lv_astore_n (lv' := [(1, .ref q1), (0, .ref b)]) hx hb dL_7 rfl hl (by decide) rfl (fun ls hl => ?_)
  refine va_new (ci := 11) (fs := [.null, .null, .null, .int 0, .int 0, .null, .int 0, .int 0, .null, .null, .null, .int 0, .null]) (C := RX11) (T := TX11) (N := 13) hx hb hts (x_cl_words 11 _ rfl).1 tyX11 tyX11_ok hown (hts _ wd_1060) (hts _ wd_1061) (hts _ wd_13) hK hP hD hS hA rfl df11 (Nat.le_of_ble_eq_true rfl) (Nat.le_of_ble_eq_true rfl) dL_8 (fun q2 H hP hD hS => ?_)
  have hP : va_P D vwCl (pI11 q2 ++ tW dA q1 (a, (ad1, x), (ad2, y))) H := vP_perm List.perm_append_comm hP
  have hD : va_D A (pI11 q2 ++ tW dA q1 (a, (ad1, x), (ad2, y))) := vD_perm List.perm_append_comm hD
  refine W.widen (k := 153) (n := 9817) (by decide) (by decide) ?_
  refine lv_dup hx hb dL_11 rfl ?_
  have hFc := vfree (ws := []) hD hS hA
  have hPc : va_P D vwCl (pI11 q2) H := vP_l hP
  have hDc : va_D A (pI11 q2) := vD_l hD
  have hM := cI11 l D dA q2 H.size
  unfold mQ at hM
  refine va_callv (va_runI (As := []) (rest := [.ref q2]) ⟨hx, hb, hml, hown, hts⟩ hM (cwI 0 hts (gdI wd_1064) rfl rfl rfl (hts _ wd_13) (hts _ wd_1062) (hts _ wd_1063) rfl (by decide +kernel) ⟨(Nat.le_of_ble_eq_true rfl), (Nat.le_of_ble_eq_true rfl)⟩) ⟨fun a U g mk q => by obtain ⟨q0, q1, qP, qK, qD⟩ := q; exact ⟨q0, q1, qP, va_K.moved (u := U) (U := U.calling g mk a) (Vm.Alike.refl U.vm) qK, qD⟩, fun U hU hW => ⟨rfl, by rw [hU], by rw [hU]; exact hPc, va_K.moved hW.alike hK, hDc.weaken (fun _ _ _ _ => trivial)⟩⟩ rfl rfl hl.1 rfl (lv_room (Nat.le_of_ble_eq_true rfl)) dL_12 ⟨(Nat.le_of_ble_eq_true rfl), (Nat.le_of_ble_eq_true rfl)⟩) hS (fun q _ h => hFc q h) hFc (fun u t H1 locs ht hvm hw hB hz1 hk1 hS => ?_)
  obtain ⟨ad3, g⟩ := u
  obtain ⟨hP1, hK1, hD1⟩ := hB
  rw [ht] at hP1
  obtain ⟨⟨g1, g2⟩, a3, ig⟩ := hw
  have a3 : ad3 (3, 70, none) = q2 := a3
  obtain ⟨hP, hD⟩ := vjoin (wc := pI11 q2) hP hD hk1 hFc hP1 hD1
  generalize H1 = H at hP hS ⊢
  refine W.widen (k := 161) (n := 18991) (by decide) (by decide) ?_
  refine lv_astore_n (lv' := [(2, .ref q2), (1, .ref q1), (0, .ref b)]) hx hb dL_15 rfl hl (by decide) rfl (fun ls hl => ?_)
  have hP : va_P D vwCl (tL dA q1 a (ad1 (1, 0, none)) (ad2 (2, 0, none)) ++ (x_ws (eT 1) ad1 dA (bM 1 x) ++ (x_ws (eT 2) ad2 dA (bM 2 y) ++ x_ws (eT 3) ad3 dA (xZ, xZ, xZ, g)))) H := vP_perm (List.perm_append_comm.trans (by rw [List.append_assoc, List.append_assoc])) hP
  have hD : va_D A (tL dA q1 a (ad1 (1, 0, none)) (ad2 (2, 0, none)) ++ (x_ws (eT 1) ad1 dA (bM 1 x) ++ (x_ws (eT 2) ad2 dA (bM 2 y) ++ x_ws (eT 3) ad3 dA (xZ, xZ, xZ, g)))) := vD_perm (List.perm_append_comm.trans (by rw [List.append_assoc, List.append_assoc])) hD
  obtain ⟨hPx, hDx⟩ := asm (b := b) (t0 := t0F xs L) rfl (fun _ => rfl) (fun _ => rfl) hP hD
  have hMin : x_inM (t0F xs L, x, y, g) := by
    intro t r i
    rcases t with _ | _ | _ | t
    · exact t0F_in xs hL r i
    · exact ix r i
    · exact iy r i
    · exact ig r i
  have F : x_fix p (s.setDrawn s.drawn) m #[Value.ref b] c s.heap code 4 R_law eA (adA b q1 a ad1 ad2 ad3) dA D A true b L xs (x_rd (t0F xs L, x, y, g) 0) := ⟨⟨hx, hb, hml, hown, hts⟩, hK, fun M' => x_D_any hDx M', hA, (fun _ => ⟨rfl, rfl⟩), (fun _ => ⟨hX, hbl, hbA, rfl, by omega, rfl, fun j hj => rfl⟩)⟩
  have r : x_rel s.heap 4 eA (adA b q1 a ad1 ad2 ad3) dA D A (x_rd (t0F xs L, x, y, g) 0) [some (.inr (.inr (0, 64, none))), some (.inr (.inr (0, 60, none))), some (.inr (.inr (3, 70, none))), none] [] (t0F xs L, x, y, g) H locs ls := by
    refine ⟨⟨?_, rfl, ?_⟩, fun v h => (List.not_mem_nil h).elim, hPx, hS, hMin, fun i => ⟨rfl, rfl⟩⟩
    · show lv_has ls 4 [(0, .ref b), (1, .ref q1), (2, .ref (ad3 (3, 70, none)))]
      rw [a3]
      exact lv_sub hl [2, 1, 0] rfl
    · intro v hv
      rcases List.mem_cons.mp hv with h | h
      · cases h
        exact Or.inr rfl
      rcases List.mem_cons.mp h with h | h
      · cases h
        exact Or.inl ⟨rfl, rfl⟩
      rcases List.mem_cons.mp h with h | h
      · cases h
        exact Or.inl ⟨rfl, rfl⟩
      rcases List.mem_cons.mp h with h | h
      · cases h
      · exact absurd h List.not_mem_nil
  have hlaw := law_A (Q := fun r _ _ _ _ => r = 1) (y := y) (fun _ _ _ _ => rfl) (show zX (t0F xs L) L from ⟨rfl, hL, fun i _ => x_in_toI _⟩) (rS_start cx g1 g2)
  refine x_run (q := true) (rb := true) (cd := xc_Z_law) (RR := x_qIz (fun r _ _ _ _ => r = 1)) (st := []) F (x_sound (E := eA) (ad := adA b q1 a ad1 ad2 ad3) (dA := dA) (D := D) (fun _ => ⟨rfl, rfl⟩) 11) ⟨(Nat.le_of_ble_eq_true rfl), (Nat.le_of_ble_eq_true rfl)⟩ ⟨(Nat.le_of_ble_eq_true rfl), (Nat.le_of_ble_eq_true rfl)⟩ ?_ law_ok (k_Z_law 0 _ _ _ _ _ hlaw) r
  refine ⟨?_, ?_, ?_⟩
  · rintro pc L2 z M' H locs ls _ r _ hRR hd
    obtain ⟨r1, _, _, _, _, e1, _, e2⟩ := hRR
    cases e1
    have e2 : z = 1 := e2
    subst e2
    refine va_forget (fun q hq => hA2 _ (r.2.2.2.1.2.2 q hq)) ?_
    refine W.widen (k := 600000) (n := 7302250) (Nat.le_of_ble_eq_true rfl) (Nat.le_of_ble_eq_true rfl) ?_
    exact lw_ret hd0 hx hb hr hlocks hd
  · rintro pc L2 z M' H locs ls _ r hRR hd
    obtain ⟨r1, _, _, _, _, e1, _, e2⟩ := hRR
    cases e1
  · rintro pc L2 M' H locs ls _ r hRR hd
    obtain ⟨r1, _, _, _, _, e1, _, e2⟩ := hRR
    cases e1
set_option maxHeartbeats 4000000 in
theorem lw_walk (l : Launch) (b : Addr) (xs : List Int32) : MetFree l x (headSpec (Jvm.Cond.code x code maxLocals ret :: tables_1) room_1) (lw_P b xs) (fun _ _ _ _ _ => True) lw_Q := by
  refine MetFree.of_bodyS (code := code) (maxLocals := maxLocals) (ret := ret) (by decide) ?_ ?_
  · intro args s m h hn
    obtain ⟨meth, c, h1, h2, h3, h4, h5, h6, -, -⟩ := Cond.code_spec hn (atoms_spec (ws := Jvm.Cond.code x code maxLocals ret :: tables_1) h _ List.mem_cons_self)
    exact ⟨meth, c, h1, h2, h3, h4, h5, h6⟩
  · intro p e s m args below meth c s₁ B hml0 hP _
    obtain ⟨rfl, hx, hbd, hgv⟩ := hP
    obtain ⟨scr, harrAt, hlist, hof, hsmall⟩ := hx
    obtain ⟨hcb, hkn, -, -⟩ := State.arrayAt?_spec harrAt
    have hown : s.vm.findClass R_law = some m.cls := findClass_of_methodNamed B.named
    have hts0 : ∀ c ∈ (Jvm.Cond.code x code maxLocals ret :: tables_1), c.before #[Value.ref b] s = true := atoms_spec (ws := Jvm.Cond.code x code maxLocals ret :: tables_1) B.pre
    have hts : ∀ w ∈ lw_tbl, w.before #[Value.ref b] s = true := k2_hts_sels lw_privs (fun w hw => hts0 w (List.mem_cons_of_mem _ hw)) lw_privs_ok
    have hml : c.maxLocals = 4 := B.maxLocals_eq (hts0 _ List.mem_cons_self)
    have X₀ : Stand p l e room_1 s m #[Value.ref b] below meth c s₁ [] 0 0 := Stand.of_body B
    have hh0 : s₁.heap = s.heap := by rw [B.state]; rfl
    have hsz : scr.slots.size = xs.length := by rw [← Array.length_toList, hlist, List.length_map]
    have hval : ∀ j : Nat, j < xs.length → scr.slots[j]? = some (.int (xs.getD j 0)) := fun j hj => by
      rw [← Array.getElem?_toList, hlist]
      simp [hj]
    have hbl : b < s.heap.size := (Array.getElem?_eq_some_iff.mp hcb).1
    have hX : va_X b xs.length (fun j => xs.getD j 0) s s.heap := ⟨scr, hcb, hof, hkn, hsz, hval⟩
    have K : W p l e room_1 s m #[Value.ref b] below meth c s₁.heap [] 0 0 (lw_Z below #[Value.ref b] s) (entryFrame m ([Value.ref b] : List Value).toArray 4) := by
      rw [hh0]
      exact whole_start l hbd ⟨B.exec, B.bytes, B.returns, hml, hown, hts, hX, hbl, B.notSynchronized, hgv⟩
    obtain ⟨t, a1, o, b1, b2, b3⟩ := K s₁ rfl X₀
    exact ⟨t, o, a1, b1, b2, b3⟩
theorem lw_pre_spec {args : Array Value} {s : State} (h : (Jvm.Cond.and given_1 narrow_1).before args s = true) (hr : rest_1_c.before args s = true) : ∃ (b : Addr) (xs : List Int32), lw_P b xs args s := by
  have hs := flat_of_before _ h
  have hq := flat_of_before _ hr
  have hc : (Cond.count 1).before args s = true := hs _ (by decide +kernel)
  have harr : (Cond.arrayOf (.arg 0) .int).before args s = true := hs _ (by decide +kernel)
  have hle : (Cond.le (.length (.arg 0)) (.int 3072)).before args s = true := hs _ (by decide +kernel)
  have hlen : (Cond.isInt (.length (.arg 0))).before args s = true := hq _ (by decide +kernel)
  have hall : (Cond.all (.arg 0) (.isInt (.elem (.arg 0) (.index 0)))).before args s = true := hq _ (by decide +kernel)
  obtain ⟨b, xs, hb, hx⟩ := State.ints_of_pre rfl harr hlen hall
  have hsm : xs.length < 2 ^ 31 := hx.choose_spec.2.2.2
  have hev : (Term.length (.arg 0)).eval args s none [] s = some (.int xs.length.toInt32) := hx.length_eval hb
  have hv := Cond.le_ints hev (show (Term.int 3072).eval args s none [] s = some (.int 3072) from rfl)
  have hd : xs.length.toInt32 ≤ 3072 := by
    simpa [Cond.before, Cond.holds, hv] using hle
  have hN : xs.length ≤ 3072 := (Int32.ofNat_le_ofNat hsm (by decide)).mp (show Int32.ofNat xs.length ≤ Int32.ofNat 3072 from hd)
  exact ⟨b, xs, Cond.one_arg hc (show args[0]? = some (.ref b) from hb), hx, hN, h⟩
theorem lw_comes (l : Launch) : Comes l x (Jvm.Cond.code x code maxLocals ret :: tables_1) room_1 (fun tb e args s => Calls_1 tb e args s ∧ rest_1 tb e args s ∧ Pre_1 tb e args s)
    (fun _ _ args s o t => lw_Q args s o t) := by
  intro p e ha hc hk s m args below hf hfit hheap happ hpre
  obtain ⟨b, xs, hP⟩ := lw_pre_spec hpre.2.2 hpre.2.1
  obtain ⟨k, o, h1, h2, h3, hQ⟩ := lw_walk l b xs p e ha hc hk s m args below hf ((Spec.applies_iff_loose hf).mp happ).1 hP trivial
  exact ⟨k, o, h1, h2, h3, hQ⟩
theorem lw_frame {s t : State} {o : Outcome} {args : Array Value} (h : State.butDraws s t lw_cs (fun t1 => Framed s o t1 [] 600000 7302250)) :
    State.butDraws s t [Jvm.Choice.named "NaN.bits", Jvm.Choice.named "NaN.copy"] (fun t1 => Framed s o t1 (fieldLocs frame_1_writes args s ++ arrayLocs frame_1_arrays args s ++ staticLocs frame_1_statics s) 600000 7302250) := h
theorem lw_limb (L : Cond) (hL : ∀ (args : Array Value) (s t : State), L.after args s (.returned (some (.int 1))) t = true) :
    ArmFor flags0 classFile x code maxLocals ret World_1 tables_1 room_1 Calls_1 rest_1 Pre_1
      (fun tb e a s o t => postC L tb e a s o t ∧ State.butDraws s t [Jvm.Choice.named "NaN.bits", Jvm.Choice.named "NaN.copy"] (fun t1 => Framed s o t1 (fieldLocs frame_1_writes a s ++ arrayLocs frame_1_arrays a s ++ staticLocs frame_1_statics s) 600000 7302250)) := by
  intro l _ _ _ p e ha hc hk s m args below hf hfit hheap happ hpre
  obtain ⟨k, o, h1, h2, h3, rfl, hF⟩ := lw_comes l p e ha hc hk s m args below hf hfit hheap happ hpre
  exact ⟨k, _, h1, h2, h3, hL args s _, lw_frame hF⟩
theorem i_vc : Claimed_1_1 ∧ Claimed_1_2 := ⟨lw_limb limb_1_1 (fun args s t => by simp [limb_1_1, Cond.after, Cond.holds, Cond.value]), lw_limb limb_1_2 (fun args s t => Cond.after_iff.mpr (by
  first | (rw [show limb_1_2 = Cond.eq .result (.int 1) from rfl, Cond.eq_ints (x := 1) (y := 1) rfl rfl]; simp; done) | (simp [limb_1_2, Cond.value, Term.eval]; done)))⟩
