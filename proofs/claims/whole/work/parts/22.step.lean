/-! ===== one instruction of the small machine is one of the machine's ===== -/
/-- the words that go from a caller to what it calls -/
def x_Ts : List Cond := lw_tbl.filter goodWord
theorem x_Ts_good : GoodIn x_Ts x_Ts := fun w h => ⟨h, good_of_word (List.mem_filter.mp h).2⟩
theorem x_Ts_of {w : Cond} (h : w ∈ lw_tbl) (g : goodWord w = true) : w ∈ x_Ts := List.mem_filter.mpr ⟨h, g⟩
def x_cv (ad : xId → Nat) (v : xV) : Value := match v with
  | .inl x => .int (Int32.ofInt x)
  | .inr (.inl f) => .float f
  | .inr (.inr id) => .ref (ad id)
def x_lv (ad : xId → Nat) : Nat → xL → List (Nat × Value)
  | _, [] => []
  | k, none :: L => x_lv ad (k + 1) L
  | k, some v :: L => (k, x_cv ad v) :: x_lv ad (k + 1) L
def x_gv (E : Nat → Bool) (v : xV) : Prop := match v with
  | .inl x => x_in x
  | .inr (.inl _) => True
  | .inr (.inr id) => x_vd E id ∨ id = (0, 64, none)
def x_tys (dA : Nat → ClassId) : List (ClassId × FieldType) := [(dA 0, .int), (dA 1, .boolean), (dA 2, .float), (dA 3, .object "CueBoard$Playback")]
def x_scr (sc : xB) (M : xM) : Prop := ∀ i, x_rd M 0 64 i = sc 64 i ∧ x_rd M 0 65 i = sc 65 i
theorem x_cv_cat (ad : xId → Nat) (v : xV) : (x_cv ad v).category = 1 := by
  rcases v with x | f | id <;> rfl
theorem x_lv_nth (ad : xId → Nat) : ∀ (L : xL) (k i : Nat) (v : xV), x_nth L i = some v → (k + i, x_cv ad v) ∈ x_lv ad k L
  | [], k, i, v, h => by cases h
  | none :: L, k, 0, v, h => by cases h
  | some w :: L, k, 0, v, h => by
    cases h
    exact List.mem_cons_self
  | none :: L, k, i + 1, v, h => by
    have := x_lv_nth ad L (k + 1) i v h
    rw [show k + 1 + i = k + (i + 1) by omega] at this
    exact this
  | some w :: L, k, i + 1, v, h => by
    have := x_lv_nth ad L (k + 1) i v h
    rw [show k + 1 + i = k + (i + 1) by omega] at this
    exact List.mem_cons_of_mem _ this
theorem x_lv_mem (ad : xId → Nat) : ∀ (L : xL) (k : Nat) (q : Nat × Value), q ∈ x_lv ad k L → ∃ (i : Nat) (v : xV), x_nth L i = some v ∧ q = (k + i, x_cv ad v)
  | [], k, q, h => by cases h
  | none :: L, k, q, h => by
    obtain ⟨i, v, h1, h2⟩ := x_lv_mem ad L (k + 1) q h
    exact ⟨i + 1, v, h1, by rw [h2, show k + 1 + i = k + (i + 1) by omega]⟩
  | some w :: L, k, q, h => by
    rcases List.mem_cons.mp h with h | h
    · exact ⟨0, w, rfl, h⟩
    · obtain ⟨i, v, h1, h2⟩ := x_lv_mem ad L (k + 1) q h
      exact ⟨i + 1, v, h1, by rw [h2, show k + 1 + i = k + (i + 1) by omega]⟩
theorem x_setk_spec : ∀ {L : xL} {i : Nat} {v : xV} {K : xL → Prop}, x_setk L i v K → i < L.length ∧ K (x_set L i v)
  | [], _, _, _, h => h.elim
  | _ :: _, 0, _, _, h => ⟨Nat.succ_pos _, h⟩
  | a :: l, n + 1, v, K, h => by
    obtain ⟨h1, h2⟩ := x_setk_spec (L := l) (i := n) h
    exact ⟨Nat.succ_lt_succ h1, h2⟩
theorem x_set_len : ∀ (L : xL) (i : Nat) (v : xV), (x_set L i v).length = L.length
  | [], _, _ => rfl
  | _ :: _, 0, _ => rfl
  | _ :: l, n + 1, v => congrArg (· + 1) (x_set_len l n v)
theorem x_set_nth : ∀ {L : xL} {i : Nat} {v : xV} {j : Nat} {w : xV}, x_nth (x_set L i v) j = some w → (j = i ∧ w = v) ∨ (j ≠ i ∧ x_nth L j = some w)
  | [], _, _, _, _, h => by cases h
  | _ :: _, 0, _, 0, _, h => Or.inl ⟨rfl, (Option.some.inj h).symm⟩
  | _ :: _, 0, _, j + 1, _, h => Or.inr ⟨Nat.succ_ne_zero j, h⟩
  | _ :: _, i + 1, _, 0, _, h => Or.inr ⟨(Nat.succ_ne_zero i).symm, h⟩
  | _ :: l, i + 1, v, j + 1, w, h => by
    rcases x_set_nth (L := l) (i := i) (v := v) (j := j) (w := w) h with h | h
    · exact Or.inl ⟨by rw [h.1], h.2⟩
    · exact Or.inr ⟨fun e => h.1 (Nat.succ.inj e), h.2⟩
theorem x_nth_mem : ∀ {L : xL} {i : Nat} {v : xV}, x_nth L i = some v → some v ∈ L
  | [], _, _, h => by cases h
  | a :: _, 0, _, h => by
    rw [show a = some _ from h]
    exact List.mem_cons_self
  | _ :: l, i + 1, _, h => List.mem_cons_of_mem _ (x_nth_mem (L := l) (i := i) h)
theorem x_mem_nth : ∀ {L : xL} {v : xV}, some v ∈ L → ∃ i, x_nth L i = some v
  | [], _, h => by cases h
  | a :: l, v, h => by
    rcases List.mem_cons.mp h with h | h
    · exact ⟨0, h.symm⟩
    · obtain ⟨i, hi⟩ := x_mem_nth (L := l) h
      exact ⟨i + 1, hi⟩
theorem lv_fewer {ls : Array Slot} {nL : Nat} {l l' : List (Nat × Value)} (h : lv_has ls nL l) (hs : ∀ q ∈ l', q ∈ l) : lv_has ls nL l' := ⟨h.1, h.2.1, fun q hq => h.2.2 q (hs q hq)⟩
theorem x_lv_set {ad : xId → Nat} {ls : Array Slot} {nL i : Nat} {L : xL} {v : xV} (h : lv_has ls nL ((i, x_cv ad v) :: (x_lv ad 0 L).filter (fun q => !(q.1 == i) && !(q.1 + 1 == i && q.2.category == 2)))) : lv_has ls nL (x_lv ad 0 (x_set L i v)) := by
  refine lv_fewer h ?_
  intro q hq
  obtain ⟨j, w, h1, h2⟩ := x_lv_mem ad _ 0 q hq
  rw [Nat.zero_add] at h2
  subst h2
  rcases x_set_nth h1 with ⟨rfl, rfl⟩ | ⟨hj, h3⟩
  · exact List.mem_cons_self
  · refine List.mem_cons_of_mem _ (List.mem_filter.mpr ⟨?_, ?_⟩)
    · have := x_lv_nth ad L 0 j w h3
      rw [Nat.zero_add] at this
      exact this
    · simp [hj, x_cv_cat]
theorem x_mz_nth : ∀ {bs : List Bool} {L : xL} {j : Nat} {w : xV}, x_nth (x_mz bs L) j = some w → x_nth L j = some w
  | [], _, _, _, h => h
  | _ :: _, [], _, _, h => by cases h
  | true :: _, _ :: _, 0, _, h => h
  | false :: _, _ :: _, 0, _, h => by cases h
  | true :: bs, _ :: l, j + 1, w, h => x_mz_nth (bs := bs) (L := l) (j := j) h
  | false :: bs, _ :: l, j + 1, w, h => x_mz_nth (bs := bs) (L := l) (j := j) h
theorem x_mz_len : ∀ (bs : List Bool) (L : xL), (x_mz bs L).length = L.length
  | [], _ => rfl
  | true :: _, [] => rfl
  | false :: _, [] => rfl
  | true :: bs, _ :: l => congrArg (· + 1) (x_mz_len bs l)
  | false :: bs, _ :: l => congrArg (· + 1) (x_mz_len bs l)
section XS
variable {p : Program} {l : Launch} {e : Env} {R : Room} {s : State} {m : MethodId} {args : Array Value} {below : List Frame} {meth : Method} {c : Code} {H H0 : Heap} {locs : List Loc} {cells slots : Nat} {Q : State → Prop}
variable {cc : ByteArray} {pc nx nL : Nat} {ls : Array Slot} {own : String} {E : Nat → Bool} {ad : xId → Nat} {dA : Nat → ClassId} {D : va_G} {A : Nat → Prop} {q : Bool} {b Ls : Nat} {xs : Nat → Int32} {sc : xB} {L : xL} {st : List xV} {M : xM} {N : xN}
/-- what stays through a method's walk -/
def x_fix (p : Program) (s : State) (m : MethodId) (args : Array Value) (c : Code) (H0 : Heap) (cc : ByteArray) (nL : Nat) (own : String) (E : Nat → Bool) (ad : xId → Nat) (dA : Nat → ClassId) (D : va_G) (A : Nat → Prop) (q : Bool) (b Ls : Nat) (xs : Nat → Int32) (sc : xB) : Prop :=
  CallFix p m c cc nL s args x_Ts own ∧ va_K D vwCl (x_tys dA) s ∧ (∀ M, va_D A (x_ws E ad dA M)) ∧ (∀ z, H0.size ≤ z → A z) ∧ (E 0 = true → E 1 = true ∧ E 2 = true) ∧ (q = true → va_X b Ls xs s H0 ∧ b < H0.size ∧ ¬ A b ∧ ad (0, 64, none) = b ∧ Ls ≤ 4000 ∧ sc 65 0 = (Ls : Int) ∧ ∀ j, j < Ls → sc 64 j = (xs j).toInt)
/-- the machine's state holds the small one's -/
def x_rel (H0 : Heap) (nL : Nat) (E : Nat → Bool) (ad : xId → Nat) (dA : Nat → ClassId) (D : va_G) (A : Nat → Prop) (sc : xB) (L : xL) (st : List xV) (M : xM) (H : Heap) (locs : List Loc) (ls : Array Slot) : Prop :=
  (lv_has ls nL (x_lv ad 0 L) ∧ L.length = nL ∧ ∀ v, some v ∈ L → x_gv E v) ∧ (∀ v ∈ st, x_gv E v) ∧ (va_P D vwCl (x_ws E ad dA M) H ∧ va_S A H0 H locs ∧ x_inM M ∧ x_scr sc M)
def x_K (p : Program) (l : Launch) (e : Env) (R : Room) (s : State) (m : MethodId) (args : Array Value) (below : List Frame) (meth : Method) (c : Code) (cells slots : Nat) (Q : State → Prop) (H0 : Heap) (nL : Nat) (E : Nat → Bool) (ad : xId → Nat) (dA : Nat → ClassId) (D : va_G) (A : Nat → Prop) (sc : xB) (N : xN) : Prop :=
  ∀ pc L st M H locs ls, N pc L st M → x_rel H0 nL E ad dA D A sc L st M H locs ls → W p l e R s m args below meth c H locs cells slots Q (F0 m pc ls (st.map (x_cv ad)))
theorem x_push {v : xV} (hv : x_gv E v) (h : ∀ v ∈ st, x_gv E v) : ∀ w ∈ v :: st, x_gv E w := by
  intro w hw
  rcases List.mem_cons.mp hw with e | e
  · rw [e]; exact hv
  · exact h w e
theorem x_loc {i : Nat} {v : xV} (h : lv_has ls nL (x_lv ad 0 L)) (hn : x_nth L i = some v) : ls[i]? = some (.val (x_cv ad v)) := by
  have := x_lv_nth ad L 0 i v hn
  rw [Nat.zero_add] at this
  exact h.2.2 _ this
theorem x_relL {i : Nat} {v : xV} {ls' : Array Slot} {st' : List xV} (r : x_rel H0 nL E ad dA D A sc L st M H locs ls) (hv : x_gv E v) (hs : ∀ v ∈ st', x_gv E v) (h : lv_has ls' nL ((i, x_cv ad v) :: (x_lv ad 0 L).filter (fun q => !(q.1 == i) && !(q.1 + 1 == i && q.2.category == 2)))) : x_rel H0 nL E ad dA D A sc (x_set L i v) st' M H locs ls' := by
  refine ⟨⟨x_lv_set h, by rw [x_set_len]; exact r.1.2.1, ?_⟩, hs, r.2.2⟩
  intro w hw
  obtain ⟨j, hj⟩ := x_mem_nth hw
  rcases x_set_nth hj with ⟨-, rfl⟩ | ⟨-, h3⟩
  · exact hv
  · exact r.1.2.2 w (x_nth_mem h3)
theorem x_relS {st' : List xV} (r : x_rel H0 nL E ad dA D A sc L st M H locs ls) (hs : ∀ v ∈ st', x_gv E v) : x_rel H0 nL E ad dA D A sc L st' M H locs ls := ⟨r.1, hs, r.2.2⟩
end XS
