/-! ===== every method by its contract ===== -/
theorem x_ws_get {E : Nat → Bool} {ad : xId → Nat} {dA : Nat → ClassId} {M : xM} {i : Nat} {z : Nat × va_E} (h : (x_ws E ad dA M)[i]? = some z) : ∃ id, (x_ids E)[i]? = some id ∧ z.1 = ad id := by
  unfold x_ws at h
  rw [List.getElem?_map] at h
  cases hi : (x_ids E)[i]? with
  | none => rw [hi] at h; cases h
  | some id =>
    rw [hi] at h
    cases h
    exact ⟨id, rfl, rfl⟩
theorem x_ws_put {E : Nat → Bool} {ad : xId → Nat} {dA : Nat → ClassId} (M : xM) {i : Nat} {id : xId} (h : (x_ids E)[i]? = some id) : (x_ws E ad dA M)[i]? = some (ad id, x_cell ad dA M id) := by
  unfold x_ws
  rw [List.getElem?_map, h]
  rfl
theorem x_D_any {E : Nat → Bool} {ad : xId → Nat} {dA : Nat → ClassId} {M : xM} {A : Nat → Prop} (h : va_D A (x_ws E ad dA M)) (M' : xM) : va_D A (x_ws E ad dA M') := by
  refine ⟨?_, ?_⟩
  · intro i j z w hz hw e
    obtain ⟨id, h1, h2⟩ := x_ws_get hz
    obtain ⟨id', h3, h4⟩ := x_ws_get hw
    exact h.1 i j _ _ (x_ws_put M h1) (x_ws_put M h3) (by rw [← h2, ← h4]; exact e)
  · intro k z hz
    obtain ⟨id, h1, h2⟩ := x_ws_get hz
    have := h.2 k _ (x_ws_put M h1)
    rw [h2]
    exact this
theorem x_lg_len (ad : xId → Nat) : ∀ as : List xV, (lg_sl (as.map (x_cv ad))).length = as.length
  | [] => rfl
  | v :: as => by
    have := x_lg_len ad as
    unfold lg_sl at this ⊢
    rw [List.map_cons, List.flatMap_cons, List.length_append, this, if_neg (by rw [x_cv_cat]; decide)]
    rw [List.length_cons, List.length_cons, List.length_nil]
    omega
theorem x_ent_nth : ∀ {n : Nat} {as : List xV} {j : Nat} {v : xV}, x_nth (x_ent n as) j = some v → as[j]? = some v
  | 0, _, _, _, h => by cases h
  | n + 1, [], 0, _, h => by cases h
  | n + 1, [], j + 1, v, h => by
    have := x_ent_nth (n := n) (as := []) (j := j) h
    cases this
  | n + 1, a :: as, 0, _, h => h
  | n + 1, a :: as, j + 1, v, h => x_ent_nth (n := n) (as := as) (j := j) h
theorem x_ent_len : ∀ (n : Nat) (as : List xV), (x_ent n as).length = n
  | 0, _ => rfl
  | n + 1, [] => congrArg (· + 1) (x_ent_len n [])
  | n + 1, _ :: as => congrArg (· + 1) (x_ent_len n as)
theorem x_args_at (ad : xId → Nat) : ∀ (as : List xV) (k j : Nat) (v : xV), as[j]? = some v → (k + j, x_cv ad v) ∈ lv_args k (as.map (x_cv ad))
  | [], _, _, _, h => by cases h
  | a :: as, k, 0, v, h => by
    cases h
    exact List.mem_cons_self
  | a :: as, k, j + 1, v, h => by
    have := x_args_at ad as (k + 1) j v h
    show (k + (j + 1), x_cv ad v) ∈ (k, x_cv ad a) :: lv_args (if (x_cv ad a).category = 2 then k + 2 else k + 1) (as.map (x_cv ad))
    rw [if_neg (by rw [x_cv_cat]; decide), show k + (j + 1) = k + 1 + j by omega]
    exact List.mem_cons_of_mem _ this
theorem x_entry {ad : xId → Nat} {ls : Array Slot} {n : Nat} {as : List xV} (h : lv_has ls n (lv_args 0 (as.map (x_cv ad)))) : lv_has ls n (x_lv ad 0 (x_ent n as)) := by
  refine lv_fewer h ?_
  intro z hz
  obtain ⟨j, w, h1, h2⟩ := x_lv_mem ad _ 0 z hz
  rw [h2]
  exact x_args_at ad as 0 j w (x_ent_nth h1)
theorem x_isFl_of {z : Option FieldType} (h : x_isFl z = true) : z = some .float := by
  unfold x_isFl at h
  split at h
  · rfl
  · cases h
/-- a body walked, of a method that no native stands for -/
theorem x_ofW {l : Launch} {y : MethodName} {ws ws' : List Cond} {rm : Room} {Pc : Array Value → State → Prop} {Qc : Array Value → State → Outcome → State → Prop} {mc ms : Nat} {free : Addr → Prop} {cc : ByteArray} {maxL : Nat} {ret : Option FieldType}
    (hy : Jvm.plainFor y = true) (hw : ws = Cond.code y cc maxL ret :: ws')
    (body : ∀ p e s m args below meth c s₁, BodyLoose p l y (headSpec ws rm) cc maxL ret e s m args below meth c s₁ → c.maxLocals = maxL → Pc args s →
      W p l e (headSpec ws rm).room s m args below meth c s.heap [] 0 0 (MQ below Qc args s mc ms free) (entryFrame m args maxL)) : Met l y ws rm Pc Qc mc ms free := by
  refine MetFree.of_bodySF (code := cc) (maxLocals := maxL) (ret := ret) hy ?_ ?_
  · intro args s m h hn
    obtain ⟨meth, c, h1, h2, h3, h4, h5, h6, -, -⟩ := Cond.code_spec hn (atoms_spec (ws := ws) h _ (by rw [hw]; exact List.mem_cons_self))
    exact ⟨meth, c, h1, h2, h3, h4, h5, h6⟩
  · intro p e s m args below meth c s₁ B hml hP _
    have hh0 : s₁.heap = s.heap := by rw [B.state]; rfl
    obtain ⟨t, a1, o, b1, b2, b3⟩ := body p e s m args below meth c s₁ B hml hP s₁ hh0 (Stand.of_body B)
    exact ⟨t, o, a1, b1, b2, ⟨b3.1, b3.2⟩⟩
set_option maxHeartbeats 1000000 in
/-- **A CALL of the small machine is a contract of the machine's** -/
theorem x_sound {l : Launch} {E : Nat → Bool} {ad : xId → Nat} {dA : Nat → ClassId} {D : va_G} (hE : E 0 = true → E 1 = true ∧ E 2 = true) : ∀ d, x_Hok l E ad dA D (xcall d) d
  | 0 => fun _ _ _ _ _ _ h => h.elim
  | d + 1 => by
    intro k as M RR z hz h hM has hlen sz
    have h : XW false (xcall d) (x_mt k).1 (x_mt k).2.1 RR 0 (x_ent (x_mt k).2.2 as) [] M := h
    have hmem := x_mg_mem hz
    obtain ⟨f1, f2, f3, f4, f5, f6, f7, f8, f9, f10⟩ := x_mfacts hmem
    have hcode := fun pc en => x_mcode (z := z) hmem (pc := pc) (en := en)
    unfold x_mt at h
    rw [hz] at h
    obtain ⟨y, bt, n, rt, st, np, nb, cd⟩ := z
    dsimp only at h hcode f5 f9
    refine x_ofW (cc := bt) (maxL := n) (ret := rt) f5 rfl ?_
    intro p e s m args below meth c s₁ B hml hv
    obtain ⟨rfl, hsz, ⟨hP, hK⟩, hD0⟩ := hv
    have hts := atoms_spec (ws := x_wm (y, bt, n, rt, st, np, nb, cd)) B.pre
    have hown : s.vm.findClass y.cls = some m.cls := findClass_of_methodNamed B.named
    subst hsz
    have hD := hD0.self (sz := s.heap.size)
    have hA : ∀ z : Nat, s.heap.size ≤ z → va_A (x_ws E ad dA M) s.heap.size z := fun z h => Or.inr h
    have hS : va_S (va_A (x_ws E ad dA M) s.heap.size) s.heap s.heap [] := va_S.rf
    have hlocks := B.notSynchronized
    have hl := lv_entry (as.map (x_cv ad)) (n := n) (by rw [x_lg_len, hlen]; exact f9)
    rw [lg_entry_eq]
    generalize (lg_sl (as.map (x_cv ad)) ++ List.replicate (n - (lg_sl (as.map (x_cv ad))).length) Slot.unset).toArray = ls at hl ⊢
    have hl := x_entry hl
    have r : x_rel s.heap n E ad dA D (va_A (x_ws E ad dA M) s.heap.size) (x_rd M 0) (x_ent n as) [] M s.heap [] ls := by
      refine ⟨⟨hl, x_ent_len n as, ?_⟩, fun v h => (List.not_mem_nil h).elim, hP, hS, hM, fun i => ⟨rfl, rfl⟩⟩
      intro v hv
      obtain ⟨j, hj⟩ := x_mem_nth hv
      exact has v (List.mem_of_getElem? (x_ent_nth hj))
    have F : x_fix p s m (as.map (x_cv ad)).toArray c s.heap bt n y.cls E ad dA D (va_A (x_ws E ad dA M) s.heap.size) false 0 0 (fun _ => 0) (x_rd M 0) := ⟨⟨B.exec, B.bytes, hml, hown, fun w hw => hts w (List.mem_cons_of_mem _ hw)⟩, hK, fun M' => x_D_any hD M', hA, hE, fun h => by cases h⟩
    refine x_run (q := false) (R := x_rm (d + 1)) (st := []) F (x_sound hE d) ⟨Nat.le_refl _, by show 31 + 40 * d ≤ 40 * (d + 1); omega⟩ ⟨Nat.zero_le _, Nat.zero_le _⟩ ?_ (fun pc en h => (hcode pc en h).1) h r
    refine ⟨?_, ?_, ?_⟩
    · rintro pc L x M' H locs ls ⟨nx, ex, mq, hcd⟩ r h01 hRR hd
      have hrt := (hcode pc _ hcd).2
      have hrt : (x_isI rt || x_isB rt) = true := hrt
      have gx : x_in x := r.2.1 _ List.mem_cons_self
      rw [Bool.or_eq_true] at hrt
      rcases hrt with hrt | hrt
      · have hrt := x_isI_of hrt
        subst hrt
        exact W.iret (v := Int32.ofInt x) B.exec B.bytes B.returns (fun t ht hW => ⟨⟨Int32.ofInt x, (x, M'), rfl, ⟨rfl, gx, hRR, r.2.2.2.2.1, r.2.2.2.2.2⟩, by rw [ht]; exact r.2.2.1, va_K.moved hW.alike hK⟩, r.2.2.2.1.F ht⟩) r.2.2.2.1.2.2 hd hlocks
      · have hrt := x_isB_of hrt
        subst hrt
        exact W.zret (v := Int32.ofInt x) B.exec B.bytes B.returns (x_n01 (h01 rfl)).1 (fun t ht hW => ⟨⟨Int32.ofInt x, (x, M'), rfl, ⟨rfl, gx, hRR, r.2.2.2.2.1, r.2.2.2.2.2⟩, by rw [ht]; exact r.2.2.1, va_K.moved hW.alike hK⟩, r.2.2.2.1.F ht⟩) r.2.2.2.1.2.2 hd hlocks
    · rintro pc L x M' H locs ls ⟨nx, ex, mq, hcd⟩ r hRR hd
      have hrt := x_isFl_of (hcode pc _ hcd).2
      subst hrt
      exact W.fret (v := x) B.exec B.bytes B.returns (fun t ht hW => ⟨⟨x, M', rfl, ⟨hRR, r.2.2.2.2.1, r.2.2.2.2.2⟩, by rw [ht]; exact r.2.2.1, va_K.moved hW.alike hK⟩, r.2.2.2.1.F ht⟩) r.2.2.2.1.2.2 hd hlocks
    · rintro pc L M' H locs ls ⟨nx, ex, mq, hcd⟩ r hRR hd
      have hrt := Option.isNone_iff_eq_none.mp (hcode pc _ hcd).2
      have hrt : rt = none := hrt
      subst hrt
      exact W.vret B.exec B.bytes B.returns (fun t ht hW => ⟨⟨M', rfl, ⟨hRR, r.2.2.2.2.1, r.2.2.2.2.2⟩, by rw [ht]; exact r.2.2.1, va_K.moved hW.alike hK⟩, r.2.2.2.1.F ht⟩) r.2.2.2.1.2.2 hd hlocks
