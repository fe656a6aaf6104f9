/-! ===== worlds that grow ===== -/
section MW
variable {D : va_G} {cl : List vw_C} {ws ws' wc wr w1 : va_W} {H H1 : Heap} {A A0 : Nat → Prop}
theorem vP_iff : va_P D cl ws H ↔ ∀ q ∈ ws, va_at D cl q H := by
  constructor
  · intro h q hq
    obtain ⟨k, hk⟩ := List.getElem?_of_mem hq
    exact h k q hk
  · intro h k q hq
    exact h q (List.mem_of_getElem? hq)
theorem vD_iff : va_D A ws ↔ (ws.map Prod.fst).Nodup ∧ ∀ q ∈ ws, A q.1 := by
  constructor
  · intro h
    refine ⟨?_, fun q hq => ?_⟩
    · unfold List.Nodup
      rw [List.pairwise_iff_getElem]
      intro i j hi hj hij e
      rw [List.getElem_map, List.getElem_map] at e
      rw [List.length_map] at hi hj
      have := h.1 i j _ _ (List.getElem?_eq_getElem hi) (List.getElem?_eq_getElem hj) e
      omega
    · obtain ⟨k, hk⟩ := List.getElem?_of_mem hq
      exact h.2 k q hk
  · intro h
    refine ⟨fun i j p q hp hq e => ?_, fun k q hk => h.2 q (List.mem_of_getElem? hk)⟩
    obtain ⟨hi, ei⟩ := List.getElem?_eq_some_iff.mp hp
    obtain ⟨hj, ej⟩ := List.getElem?_eq_some_iff.mp hq
    have hn := h.1
    unfold List.Nodup at hn
    rw [List.pairwise_iff_getElem] at hn
    rcases Nat.lt_trichotomy i j with g | g | g
    · exact absurd (by rw [List.getElem_map, List.getElem_map, ei, ej]; exact e) (hn i j (by rw [List.length_map]; exact hi) (by rw [List.length_map]; exact hj) g)
    · exact g
    · exact absurd (by rw [List.getElem_map, List.getElem_map, ei, ej]; exact e.symm) (hn j i (by rw [List.length_map]; exact hj) (by rw [List.length_map]; exact hi) g)
theorem vP_perm (h : ws.Perm ws') (hP : va_P D cl ws H) : va_P D cl ws' H := vP_iff.mpr fun q hq => vP_iff.mp hP q (h.mem_iff.mpr hq)
theorem vD_perm (h : ws.Perm ws') (hD : va_D A ws) : va_D A ws' := by
  obtain ⟨h1, h2⟩ := vD_iff.mp hD
  exact vD_iff.mpr ⟨(h.map Prod.fst).nodup_iff.mp h1, fun q hq => h2 q (h.mem_iff.mpr hq)⟩
theorem vA_mem {sz q : Nat} : va_A ws sz q ↔ q ∈ ws.map Prod.fst ∨ sz ≤ q := by
  constructor
  · rintro (⟨k, e, h⟩ | h)
    · exact Or.inl (List.mem_map.mpr ⟨_, List.mem_of_getElem? h, rfl⟩)
    · exact Or.inr h
  · rintro (h | h)
    · obtain ⟨z, hz, e⟩ := List.mem_map.mp h
      obtain ⟨k, hk⟩ := List.getElem?_of_mem hz
      exact Or.inl ⟨k, z.2, by rw [hk, ← e]⟩
    · exact Or.inr h
theorem vjoin (hP : va_P D cl (wc ++ wr) H) (hD : va_D A0 (wc ++ wr)) (hk : ∀ q : Nat, q < H.size → ¬ va_A wc H.size q → H1[q]? = H[q]?) (hF : ∀ q, va_A wc H.size q → A0 q) (hP1 : va_P D cl w1 H1) (hD1 : va_D (va_A wc H.size) w1) : va_P D cl (w1 ++ wr) H1 ∧ va_D A0 (w1 ++ wr) := by
  obtain ⟨d1, d2⟩ := vD_iff.mp hD
  obtain ⟨e1, e2⟩ := vD_iff.mp hD1
  rw [List.map_append] at d1
  obtain ⟨d3, d4, d5⟩ := List.nodup_append.mp d1
  have apart : ∀ q ∈ wr, q.1 < H.size ∧ ¬ va_A wc H.size q.1 := by
    intro q hq
    have hlt := (vP_iff.mp hP q (List.mem_append_right _ hq)).lt
    refine ⟨hlt, fun h => ?_⟩
    rcases vA_mem.mp h with h | h
    · exact d5 _ h _ (List.mem_map.mpr ⟨q, hq, rfl⟩) rfl
    · omega
  constructor
  · refine vP_iff.mpr fun q hq => ?_
    rcases List.mem_append.mp hq with h | h
    · exact vP_iff.mp hP1 q h
    · obtain ⟨a1, a2⟩ := apart q h
      exact (vP_iff.mp hP q (List.mem_append_right _ h)).kept (hk q.1 a1 a2)
  · refine vD_iff.mpr ⟨?_, fun q hq => ?_⟩
    · rw [List.map_append]
      refine List.nodup_append.mpr ⟨e1, d4, ?_⟩
      intro a ha b hb e
      obtain ⟨z, hz, ez⟩ := List.mem_map.mp ha
      obtain ⟨w, hw, ew⟩ := List.mem_map.mp hb
      have h1 := e2 z hz
      rw [ez, e, ← ew] at h1
      exact (apart w hw).2 h1
    · rcases List.mem_append.mp hq with h | h
      · exact hF _ (e2 q h)
      · exact d2 q (List.mem_append_right _ h)
end MW
theorem gdI {w : Cond} (h : w ∈ x_Ts) : GoodIn x_Ts (w :: x_Ts) := by
  intro v hv
  rcases List.mem_cons.mp hv with e | e
  · subst e
    exact x_Ts_good _ h
  · exact x_Ts_good _ e
section MR
variable {p : Program} {l : Launch} {e : Env} {R : Room} {s : State} {m : MethodId} {args : Array Value} {below : List Frame} {meth : Method} {c : Code} {H H0 : Heap} {locs : List Loc} {cells slots : Nat} {Q : State → Prop}
variable {cc : ByteArray} {pc : Nat} {ls : Array Slot} {rest : List Value} {D : va_G} {A : Nat → Prop} {ws : va_W} {dA : Nat → ClassId}
theorem tyK_i {U : State} {cA : ClassId} (h : va_K D vwCl (x_tys dA ++ [(cA, .int)]) U) : cA = dA 0 := by
  have h1 : U.vm.findClass ("[" ++ FieldType.int.toString) = some cA := (h.2 4 (cA, .int) rfl).2
  have h2 : U.vm.findClass ("[" ++ FieldType.int.toString) = some (dA 0) := (h.2 0 (dA 0, .int) rfl).2
  exact Option.some.inj (h1.symm.trans h2)
theorem tyK_z {U : State} {cA : ClassId} (h : va_K D vwCl (x_tys dA ++ [(cA, .boolean)]) U) : cA = dA 1 := by
  have h1 : U.vm.findClass ("[" ++ FieldType.boolean.toString) = some cA := (h.2 4 (cA, .boolean) rfl).2
  have h2 : U.vm.findClass ("[" ++ FieldType.boolean.toString) = some (dA 1) := (h.2 1 (dA 1, .boolean) rfl).2
  exact Option.some.inj (h1.symm.trans h2)
theorem tyK_f {U : State} {cA : ClassId} (h : va_K D vwCl (x_tys dA ++ [(cA, .float)]) U) : cA = dA 2 := by
  have h1 : U.vm.findClass ("[" ++ FieldType.float.toString) = some cA := (h.2 4 (cA, .float) rfl).2
  have h2 : U.vm.findClass ("[" ++ FieldType.float.toString) = some (dA 2) := (h.2 2 (dA 2, .float) rfl).2
  exact Option.some.inj (h1.symm.trans h2)
theorem tyK_q {U : State} {cA : ClassId} (h : va_K D vwCl (x_tys dA ++ [(cA, .object "CueBoard$Playback")]) U) : cA = dA 3 := by
  obtain ⟨_, _, _, _, _, h1⟩ := (h.2 4 (cA, .object "CueBoard$Playback") rfl).2
  obtain ⟨_, _, _, _, _, h2⟩ := (h.2 3 (dA 3, .object "CueBoard$Playback") rfl).2
  exact Option.some.inj (h1.symm.trans h2)
abbrev zI : Nat → Int32 := fun _ => 0
abbrev aI (dA : Nat → ClassId) (n : Nat) : va_E := .inl (dA 0, n, .inl zI)
abbrev aZ (dA : Nat → ClassId) (n : Nat) : va_E := .inl (dA 1, n, .inl zI)
abbrev aF (dA : Nat → ClassId) (n : Nat) : va_E := .inl (dA 2, n, .inr (.inr (.inl (fun _ => 0))))
abbrev aQ (dA : Nat → ClassId) (f : Nat → Option Nat) : va_E := .inl (dA 3, 4, .inr (.inr (.inr (.inr f))))
theorem nw_i (hexec : p.tables.exec = Jvm.exec) (hb : c.code = cc) (harr : (Cond.arrayClass .int).before args s = true) (hK : va_K D vwCl (x_tys dA) s) (hP : va_P D vwCl ws H) (hD : va_D A ws) (hS : va_S A H0 H locs) (hA : ∀ q, H0.size ≤ q → A q)
    {n : Int32} (N' : Nat) (hn : ¬ n < 0) (hN : n.toNatClampNeg = N') (hbytes : N' * componentBytes .int ≤ 536870912) (hcells : cells + 1 ≤ R.cells) (hslots : slots + N' ≤ R.slots) (hdg : decode cc pc = .ok (.newarray .int, 2))
    (kk : ∀ (q : Nat) (H1 : Heap), va_P D vwCl (ws ++ [(q, aI dA N')]) H1 → va_D A (ws ++ [(q, aI dA N')]) → va_S A H0 H1 locs →
      W p l e R s m args below meth c H1 locs (cells + 1) (slots + N') Q (F0 m (pc + 2) ls (.ref q :: rest))) : W p l e R s m args below meth c H locs cells slots Q (F0 m pc ls (.int n :: rest)) :=
  va_newa (atype := .int) (ty := .int) (a0 := (N', .inl zI)) hexec hb harr rfl hK hP hD hS hA (fun _ => rfl) hn hN hbytes hcells hslots hdg (fun q cA H1 hK1 h1 h2 h3 => by
    have e9 := tyK_i hK1
    subst e9
    exact kk q H1 h1 h2 h3)
theorem nw_z (hexec : p.tables.exec = Jvm.exec) (hb : c.code = cc) (harr : (Cond.arrayClass .boolean).before args s = true) (hK : va_K D vwCl (x_tys dA) s) (hP : va_P D vwCl ws H) (hD : va_D A ws) (hS : va_S A H0 H locs) (hA : ∀ q, H0.size ≤ q → A q)
    {n : Int32} (N' : Nat) (hn : ¬ n < 0) (hN : n.toNatClampNeg = N') (hbytes : N' * componentBytes .boolean ≤ 536870912) (hcells : cells + 1 ≤ R.cells) (hslots : slots + N' ≤ R.slots) (hdg : decode cc pc = .ok (.newarray .boolean, 2))
    (kk : ∀ (q : Nat) (H1 : Heap), va_P D vwCl (ws ++ [(q, aZ dA N')]) H1 → va_D A (ws ++ [(q, aZ dA N')]) → va_S A H0 H1 locs →
      W p l e R s m args below meth c H1 locs (cells + 1) (slots + N') Q (F0 m (pc + 2) ls (.ref q :: rest))) : W p l e R s m args below meth c H locs cells slots Q (F0 m pc ls (.int n :: rest)) :=
  va_newa (atype := .boolean) (ty := .boolean) (a0 := (N', .inl zI)) hexec hb harr rfl hK hP hD hS hA (fun _ => rfl) hn hN hbytes hcells hslots hdg (fun q cA H1 hK1 h1 h2 h3 => by
    have e9 := tyK_z hK1
    subst e9
    exact kk q H1 h1 h2 h3)
theorem nw_f (hexec : p.tables.exec = Jvm.exec) (hb : c.code = cc) (harr : (Cond.arrayClass .float).before args s = true) (hK : va_K D vwCl (x_tys dA) s) (hP : va_P D vwCl ws H) (hD : va_D A ws) (hS : va_S A H0 H locs) (hA : ∀ q, H0.size ≤ q → A q)
    {n : Int32} (N' : Nat) (hn : ¬ n < 0) (hN : n.toNatClampNeg = N') (hbytes : N' * componentBytes .float ≤ 536870912) (hcells : cells + 1 ≤ R.cells) (hslots : slots + N' ≤ R.slots) (hdg : decode cc pc = .ok (.newarray .float, 2))
    (kk : ∀ (q : Nat) (H1 : Heap), va_P D vwCl (ws ++ [(q, aF dA N')]) H1 → va_D A (ws ++ [(q, aF dA N')]) → va_S A H0 H1 locs →
      W p l e R s m args below meth c H1 locs (cells + 1) (slots + N') Q (F0 m (pc + 2) ls (.ref q :: rest))) : W p l e R s m args below meth c H locs cells slots Q (F0 m pc ls (.int n :: rest)) :=
  va_newa (atype := .float) (ty := .float) (a0 := (N', .inr (.inr (.inl (fun _ => 0))))) hexec hb harr rfl hK hP hD hS hA (fun _ => rfl) hn hN hbytes hcells hslots hdg (fun q cA H1 hK1 h1 h2 h3 => by
    have e9 := tyK_f hK1
    subst e9
    exact kk q H1 h1 h2 h3)
theorem nw_q (hexec : p.tables.exec = Jvm.exec) (hb : c.code = cc) {own : String} {index : Nat} (hown : s.vm.findClass own = some m.cls) (hclink : (Cond.classLink own index "CueBoard$Playback").before args s = true) (hover : va_AO "CueBoard$Playback" s) (hK : va_K D vwCl (x_tys dA) s) (hP : va_P D vwCl ws H) (hD : va_D A ws) (hS : va_S A H0 H locs) (hA : ∀ q, H0.size ≤ q → A q)
    (hcells : cells + 1 ≤ R.cells) (hslots : slots + 4 ≤ R.slots) (hdg : decode cc pc = .ok (.anewarray index, 3))
    (kk : ∀ (q : Nat) (H1 : Heap), va_P D vwCl (ws ++ [(q, aQ dA (fun _ => none))]) H1 → va_D A (ws ++ [(q, aQ dA (fun _ => none))]) → va_S A H0 H1 locs →
      W p l e R s m args below meth c H1 locs (cells + 1) (slots + 4) Q (F0 m (pc + 3) ls (.ref q :: rest))) : W p l e R s m args below meth c H locs cells slots Q (F0 m pc ls (.int 4 :: rest)) :=
  va_newq (N' := 4) hexec hb hown hclink hover hK hP hD hS hA (by decide) rfl (by decide) hcells hslots hdg (fun q cA H1 hK1 h1 h2 h3 => by
    have e9 := tyK_q hK1
    subst e9
    exact kk q H1 h1 h2 h3)
/-- arrays alike as far as they reach -/
theorem ofFn_c {n : Nat} {f g : Nat → Value} (h : ∀ j, j < n → f j = g j) (cA : ClassId) : arrV cA n f = arrV cA n g := by
  unfold arrV
  congr 1
  congr 1
  funext j
  exact h j.val j.isLt
theorem at_i {q n : Nat} {cA : ClassId} {f g : Nat → Int32} (h : ∀ j, j < n → f j = g j) (ha : va_at D vwCl (q, .inl (cA, n, .inl f)) H) : va_at D vwCl (q, .inl (cA, n, .inl g)) H := by
  have ha : H[q]? = some (arrV cA n (fun j => .int (f j))) := ha
  show H[q]? = some (arrV cA n (fun j => .int (g j)))
  rw [ha, ofFn_c (g := fun j => .int (g j)) (fun j hj => by rw [h j hj])]
theorem at_f {q n : Nat} {cA : ClassId} {f g : Nat → UInt32} (h : ∀ j, j < n → f j = g j) (ha : va_at D vwCl (q, .inl (cA, n, .inr (.inr (.inl f)))) H) : va_at D vwCl (q, .inl (cA, n, .inr (.inr (.inl g)))) H := by
  have ha : H[q]? = some (arrV cA n (fun j => .float (f j))) := ha
  show H[q]? = some (arrV cA n (fun j => .float (g j)))
  rw [ha, ofFn_c (g := fun j => .float (g j)) (fun j hj => by rw [h j hj])]
theorem at_q {q n : Nat} {cA : ClassId} {f g : Nat → Option Nat} (h : ∀ j, j < n → f j = g j) (ha : va_at D vwCl (q, .inl (cA, n, .inr (.inr (.inr (.inr f))))) H) : va_at D vwCl (q, .inl (cA, n, .inr (.inr (.inr (.inr g))))) H := by
  have ha : H[q]? = some (arrV cA n (fun j => va_rf (f j))) := ha
  show H[q]? = some (arrV cA n (fun j => va_rf (g j)))
  rw [ha, ofFn_c (g := fun j => va_rf (g j)) (fun j hj => by rw [h j hj])]
end MR
