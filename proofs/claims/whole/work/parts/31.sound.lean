/-! ===== the small machine is sound ===== -/
def x_isFl (z : Option FieldType) : Bool := match z with
  | some .float => true
  | _ => false
def x_rtc (rt : Option FieldType) (i : Instr) : Bool := match i with
  | .ireturn => x_isI rt || x_isB rt
  | .freturn => x_isFl rt
  | .return_ => rt.isNone
  | _ => true
def x_rtq (z : xQ) : Bool := (List.range z.2.2.2.2.2.2.1).all (fun pc => match z.2.2.2.2.2.2.2 pc with
  | none => true
  | some en => x_rtc z.2.2.2.1 en.1)
set_option maxRecDepth 100000 in
theorem x_rtq_0 : x_ms_0.all x_rtq = true := by decide +kernel
set_option maxRecDepth 100000 in
theorem x_rtq_1 : x_ms_1.all x_rtq = true := by decide +kernel
set_option maxRecDepth 100000 in
theorem x_rtq_2 : x_ms_2.all x_rtq = true := by decide +kernel
set_option maxRecDepth 100000 in
theorem x_rtq_3 : x_ms_3.all x_rtq = true := by decide +kernel
set_option maxRecDepth 100000 in
theorem x_rtq_4 : x_ms_4.all x_rtq = true := by decide +kernel
set_option maxRecDepth 100000 in
theorem x_rtq_5 : x_ms_5.all x_rtq = true := by decide +kernel
set_option maxRecDepth 100000 in
theorem x_rtq_6 : x_ms_6.all x_rtq = true := by decide +kernel
set_option maxRecDepth 100000 in
theorem x_rtq_7 : x_ms_7.all x_rtq = true := by decide +kernel
theorem x_rtq_ok : x_ms.all x_rtq = true := by
  unfold x_ms
  simp only [List.all_append, x_rtq_0, x_rtq_1, x_rtq_2, x_rtq_3, x_rtq_4, x_rtq_5, x_rtq_6, x_rtq_7, Bool.and_self]
theorem x_mcode {z : xQ} (hz : z ∈ x_ms) {pc : Nat} {en : xE} (h : z.2.2.2.2.2.2.2 pc = some en) : x_ce z.1.cls z.2.1 pc en = true ∧ x_rtc z.2.2.2.1 en.1 = true := by
  obtain ⟨-, h1, h2⟩ := x_ms_ok z hz
  have hlt : pc < z.2.2.2.2.2.2.1 := by
    rcases Nat.lt_or_ge pc z.2.2.2.2.2.2.1 with g | g
    · exact g
    · rw [h2 pc g] at h; cases h
  constructor
  · have := List.all_eq_true.mp h1 pc (List.mem_range.mpr hlt)
    rw [Nat.zero_add, h] at this
    exact this
  · have := List.all_eq_true.mp (List.all_eq_true.mp x_rtq_ok z hz) pc (List.mem_range.mpr hlt)
    rw [h] at this
    exact this
theorem x_natives : Cond.native ⟨"java/lang/Float", "floatToRawIntBits", "(F)I"⟩ ∈ x_Ts ∧ Cond.static ⟨"java/lang/Float", "floatToRawIntBits", "(F)I"⟩ ∈ x_Ts ∧ Cond.native ⟨"java/lang/Float", "intBitsToFloat", "(I)F"⟩ ∈ x_Ts ∧ Cond.static ⟨"java/lang/Float", "intBitsToFloat", "(I)F"⟩ ∈ x_Ts ∧ Cond.initialized "java/lang/Float" ∈ x_Ts := by decide +kernel
section XZ
variable {p : Program} {l : Launch} {e : Env} {R : Room} {s : State} {m : MethodId} {args : Array Value} {below : List Frame} {meth : Method} {c : Code} {H H0 : Heap} {locs : List Loc} {cells slots : Nat} {Q : State → Prop}
variable {cc : ByteArray} {pc nx nL : Nat} {ls : Array Slot} {own : String} {E : Nat → Bool} {ad : xId → Nat} {dA : Nat → ClassId} {D : va_G} {A : Nat → Prop} {q : Bool} {b Ls : Nat} {xs : Nat → Int32} {sc : xB} {L : xL} {st : List xV} {M : xM} {N : xN}
variable {C : xH} {d : Nat} {rb : Bool} {RR : xR} {cd : Nat → Option xE}
/-- what the ends of the method need -/
def x_rets (p : Program) (l : Launch) (e : Env) (R : Room) (s : State) (m : MethodId) (args : Array Value) (below : List Frame) (meth : Method) (c : Code) (cells slots : Nat) (Q : State → Prop) (H0 : Heap) (cc : ByteArray) (nL : Nat) (E : Nat → Bool) (ad : xId → Nat) (dA : Nat → ClassId) (D : va_G) (A : Nat → Prop) (sc : xB) (rb : Bool) (RR : xR) (cd : Nat → Option xE) : Prop :=
  (∀ pc L x M H locs ls, (∃ nx ex mq, cd pc = some (.ireturn, nx, ex, mq)) → x_rel H0 nL E ad dA D A sc L [.inl x] M H locs ls → (rb = true → x = 0 ∨ x = 1) → RR (some (.inl x)) M → decode cc pc = .ok (.ireturn, 1) → W p l e R s m args below meth c H locs cells slots Q (F0 m pc ls [.int (Int32.ofInt x)])) ∧
  (∀ pc L x M H locs ls, (∃ nx ex mq, cd pc = some (.freturn, nx, ex, mq)) → x_rel H0 nL E ad dA D A sc L [.inr (.inl x)] M H locs ls → RR (some (.inr (.inl x))) M → decode cc pc = .ok (.freturn, 1) → W p l e R s m args below meth c H locs cells slots Q (F0 m pc ls [.float x])) ∧
  (∀ pc L M H locs ls, (∃ nx ex mq, cd pc = some (.return_, nx, ex, mq)) → x_rel H0 nL E ad dA D A sc L [] M H locs ls → RR none M → decode cc pc = .ok (.return_, 1) → W p l e R s m args below meth c H locs cells slots Q (F0 m pc ls []))
theorem x_ceS {i : Instr} {ex : List (Int × Nat)} {mq : Option (List Bool)} {n : Nat} (hn : x_ln i = some n) (h : x_ce own cc pc (i, nx, ex, mq) = true) : nx = pc + n ∧ decode cc pc = .ok (i, n) ∧ x_ext own pc i ex = true := by
  unfold x_ce at h
  dsimp only at h
  rw [hn] at h
  simp only [Bool.and_eq_true, decide_eq_true_eq] at h
  exact ⟨Nat.eq_of_beq_eq_true h.1.1, h.1.2, h.2⟩
theorem x_xj_of {off : Int} {ex : List (Int × Nat)} (h : x_xj pc off ex = true) : ∀ a t, ex.head? = some (a, t) → (pc : Int) + off = (t : Int) := by
  unfold x_xj at h
  split at h
  · intro a t e9
    cases e9
    exact of_decide_eq_true h
  · cases h
theorem x_xc_of {n : Nat} {ex : List (Int × Nat)} (h : x_xc own n ex = true) : ∀ v k, ex.head? = some (v, k) → (k = 0 → x_in v ∧ Cond.constant own n (Int32.ofInt v) ∈ x_Ts) ∧ (k = 1 → Cond.constantFloat own n (UInt32.ofNat v.toNat) ∈ x_Ts) := by
  unfold x_xc at h
  split at h
  · rw [Bool.and_eq_true] at h
    intro v k e9
    cases e9
    exact ⟨fun _ => ⟨of_decide_eq_true (p := -2147483648 ≤ _ ∧ _ < 2147483648) h.1, x_wq_of h.2⟩, fun g => by cases g⟩
  · intro v k e9
    cases e9
    exact ⟨fun g => (by cases g), fun _ => x_wq_of h⟩
  · cases h
theorem x_xf_of {n : Nat} {ex : List (Int × Nat)} (h : x_xf own n ex = true) : ∀ a k a' ci ps, ex = (a, k) :: (a', ci) :: ps → ∃ z, vwCl[ci]? = some z ∧ k < z.2.2 ∧ Cond.fieldLink own n (z.2.1 k).1 (z.2.1 k).2.1 (z.2.1 k).2.2.1 ∈ x_Ts := by
  intro a k a' ci ps e9
  subst e9
  unfold x_xf at h
  dsimp only at h
  split at h
  · rename_i z hz
    rw [Bool.and_eq_true] at h
    exact ⟨z, hz, of_decide_eq_true h.1, x_wq_of h.2⟩
  · cases h
theorem x_xt_of {dd lo hi : Int} {offs : Array Int} {ex : List (Int × Nat)} (h : x_xt pc dd lo hi offs ex = true) : ∀ a t ps, ex = (a, t) :: ps → (pc : Int) + dd = (t : Int) ∧ (∀ v t, (v, t) ∈ ps → ∃ off, offs[(v - lo).toNat]? = some off ∧ (pc : Int) + off = (t : Int) ∧ lo ≤ v ∧ v ≤ hi) ∧ ∀ v : Int, lo ≤ v → v ≤ hi → ∃ t, (v, t) ∈ ps := by
  intro a t ps e9
  subst e9
  unfold x_xt at h
  simp only [Bool.and_eq_true, decide_eq_true_eq] at h
  obtain ⟨⟨h1, h2⟩, h3⟩ := h
  refine ⟨h1, ?_, ?_⟩
  · intro v t hm
    have := List.all_eq_true.mp h2 _ hm
    simp only [Bool.and_eq_true, decide_eq_true_eq] at this
    obtain ⟨g1, g2⟩ := this
    split at g2
    · rename_i off ho
      exact ⟨off, ho, of_decide_eq_true g2, g1.1, g1.2⟩
    · cases g2
  · intro v g1 g2
    have := List.all_eq_true.mp h3 (v - lo).toNat (List.mem_range.mpr (by omega))
    obtain ⟨z, hz, hz2⟩ := List.any_eq_true.mp this
    have hz2 := of_decide_eq_true hz2
    refine ⟨z.2, ?_⟩
    have e8 : v = z.1 := by omega
    rw [e8]
    exact hz
theorem x_off_dflt : ∀ (pr : List (Int × Int)) (dd x : Int), (∀ z ∈ pr, z.1 ≠ x) → Op.lookupswitch.offset pr dd x = dd
  | [], _, _, _ => rfl
  | (a, o) :: pr, dd, x, h => by
    rw [Op.lookupswitch.offset_cons, if_neg (h (a, o) List.mem_cons_self)]
    exact x_off_dflt pr dd x (fun z hz => h z (List.mem_cons_of_mem _ hz))
theorem x_xl_of {dd : Int} {pr : Array (Int × Int)} {ex : List (Int × Nat)} (h : x_xl pc dd pr ex = true) : ∀ a t ps, ex = (a, t) :: ps → (pr.toList.zip (pr.toList.drop 1)).all (fun (a, next) => a.1 < next.1) = true ∧ (∀ v t, (v, t) ∈ ps → (pc : Int) + Op.lookupswitch.offset pr.toList dd v = (t : Int)) ∧ ∀ x : Int, (∀ v t, (v, t) ∈ ps → x ≠ v) → (pc : Int) + Op.lookupswitch.offset pr.toList dd x = (t : Int) := by
  intro a t ps e9
  subst e9
  unfold x_xl at h
  simp only [Bool.and_eq_true, decide_eq_true_eq] at h
  obtain ⟨⟨⟨h1, h2⟩, h3⟩, h4⟩ := h
  refine ⟨h1, ?_, ?_⟩
  · intro v t hm
    exact of_decide_eq_true (List.all_eq_true.mp h3 _ hm)
  · intro x hx
    rw [x_off_dflt]
    · exact h2
    · intro z hz e8
      obtain ⟨w, hw, hw2⟩ := List.any_eq_true.mp (List.all_eq_true.mp h4 z hz)
      have hw2 := of_decide_eq_true hw2
      exact hx w.1 w.2 hw (by rw [hw2, e8])
set_option maxHeartbeats 2000000 in
theorem x_step (F : x_fix p s m args c H0 cc nL own E ad dA D A q b Ls xs sc) (r : x_rel H0 nL E ad dA D A sc L st M H locs ls) (hN : x_K p l e R s m args below meth c cells slots Q H0 nL E ad dA D A sc N) (hC : x_Hok l E ad dA D C d) (hR : d + 1 ≤ R.frames ∧ 31 + 40 * d ≤ R.locals) (hcs : cells ≤ R.cells ∧ slots ≤ R.slots) (hrt : x_rets p l e R s m args below meth c cells slots Q H0 cc nL E ad dA D A sc rb RR cd) {i : Instr} {ex : List (Int × Nat)} {mq : Option (List Bool)} (hcd : cd pc = some (i, nx, ex, mq)) (hen : x_ce own cc pc (i, nx, ex, mq) = true) (h : x1e q C rb RR N i ex nx L st M) : W p l e R s m args below meth c H locs cells slots Q (F0 m pc ls (st.map (x_cv ad))) := by
  cases i
  case aload k =>
    obtain ⟨rfl, hd, -⟩ := x_ceS rfl hen
    exact s_aload F r hN hd h
  case aload_n k =>
    obtain ⟨rfl, hd, -⟩ := x_ceS rfl hen
    exact s_aload_n F r hN hd h
  case iload k =>
    obtain ⟨rfl, hd, -⟩ := x_ceS rfl hen
    exact s_iload F r hN hd h
  case iload_n k =>
    obtain ⟨rfl, hd, -⟩ := x_ceS rfl hen
    exact s_iload_n F r hN hd h
  case fload k =>
    obtain ⟨rfl, hd, -⟩ := x_ceS rfl hen
    exact s_fload F r hN hd h
  case fload_n k =>
    obtain ⟨rfl, hd, -⟩ := x_ceS rfl hen
    exact s_fload_n F r hN hd h
  case astore k =>
    obtain ⟨rfl, hd, -⟩ := x_ceS rfl hen
    exact s_astore F r hN hd h
  case astore_n k =>
    obtain ⟨rfl, hd, -⟩ := x_ceS rfl hen
    exact s_astore_n F r hN hd h
  case istore k =>
    obtain ⟨rfl, hd, -⟩ := x_ceS rfl hen
    exact s_istore F r hN hd h
  case istore_n k =>
    obtain ⟨rfl, hd, -⟩ := x_ceS rfl hen
    exact s_istore_n F r hN hd h
  case fstore k =>
    obtain ⟨rfl, hd, -⟩ := x_ceS rfl hen
    exact s_fstore F r hN hd h
  case fstore_n k =>
    obtain ⟨rfl, hd, -⟩ := x_ceS rfl hen
    exact s_fstore_n F r hN hd h
  case iinc k z =>
    obtain ⟨rfl, hd, -⟩ := x_ceS rfl hen
    exact s_iinc F r hN hd h
  case iconst v =>
    obtain ⟨rfl, hd, hx⟩ := x_ceS rfl hen
    exact s_iconst F r hN (of_decide_eq_true (p := -2147483648 ≤ v ∧ v < 2147483648) hx) hd h
  case bipush v =>
    obtain ⟨rfl, hd, hx⟩ := x_ceS rfl hen
    exact s_bipush F r hN (of_decide_eq_true hx) hd h
  case sipush v =>
    obtain ⟨rfl, hd, hx⟩ := x_ceS rfl hen
    exact s_sipush F r hN (of_decide_eq_true hx) hd h
  case fconst v =>
    obtain ⟨rfl, hd, -⟩ := x_ceS rfl hen
    match v, hd, h with
    | 0, hd, h => exact s_fconst0 F r hN hd h
    | 1, hd, h => exact s_fconst1 F r hN hd h
    | 2, hd, h => exact s_fconst2 F r hN hd h
  case ldc v =>
    obtain ⟨rfl, hd, hx⟩ := x_ceS rfl hen
    exact s_ldc F r hN (x_xc_of hx) hd h
  case ldc_w v =>
    obtain ⟨rfl, hd, hx⟩ := x_ceS rfl hen
    exact s_ldc_w F r hN (x_xc_of hx) hd h
  case iadd =>
    obtain ⟨rfl, hd, -⟩ := x_ceS rfl hen
    exact s_iadd F r hN hd h
  case isub =>
    obtain ⟨rfl, hd, -⟩ := x_ceS rfl hen
    exact s_isub F r hN hd h
  case imul =>
    obtain ⟨rfl, hd, -⟩ := x_ceS rfl hen
    exact s_imul F r hN hd h
  case idiv =>
    obtain ⟨rfl, hd, -⟩ := x_ceS rfl hen
    exact s_idiv F r hN hd h
  case irem =>
    obtain ⟨rfl, hd, -⟩ := x_ceS rfl hen
    exact s_irem F r hN hd h
  case iand =>
    obtain ⟨rfl, hd, -⟩ := x_ceS rfl hen
    exact s_iand F r hN hd h
  case ior =>
    obtain ⟨rfl, hd, -⟩ := x_ceS rfl hen
    exact s_ior F r hN hd h
  case ixor =>
    obtain ⟨rfl, hd, -⟩ := x_ceS rfl hen
    exact s_ixor F r hN hd h
  case ishl =>
    obtain ⟨rfl, hd, -⟩ := x_ceS rfl hen
    exact s_ishl F r hN hd h
  case iushr =>
    obtain ⟨rfl, hd, -⟩ := x_ceS rfl hen
    exact s_iushr F r hN hd h
  case fadd =>
    obtain ⟨rfl, hd, -⟩ := x_ceS rfl hen
    exact s_fadd F r hN hd h
  case fsub =>
    obtain ⟨rfl, hd, -⟩ := x_ceS rfl hen
    exact s_fsub F r hN hd h
  case fmul =>
    obtain ⟨rfl, hd, -⟩ := x_ceS rfl hen
    exact s_fmul F r hN hd h
  case fdiv =>
    obtain ⟨rfl, hd, -⟩ := x_ceS rfl hen
    exact s_fdiv F r hN hd h
  case fneg =>
    obtain ⟨rfl, hd, -⟩ := x_ceS rfl hen
    exact s_fneg F r hN hd h
  case f2i =>
    obtain ⟨rfl, hd, -⟩ := x_ceS rfl hen
    exact s_f2i F r hN hd h
  case i2f =>
    obtain ⟨rfl, hd, -⟩ := x_ceS rfl hen
    exact s_i2f F r hN hd h
  case dup =>
    obtain ⟨rfl, hd, -⟩ := x_ceS rfl hen
    exact s_dup F r hN hd h
  case dup2 =>
    obtain ⟨rfl, hd, -⟩ := x_ceS rfl hen
    exact s_dup2 F r hN hd h
  case pop =>
    obtain ⟨rfl, hd, -⟩ := x_ceS rfl hen
    exact s_pop F r hN hd h
  case fcmp op =>
    obtain ⟨rfl, hd, -⟩ := x_ceS rfl hen
    exact s_fcmp F r hN hd h
  case iaload =>
    obtain ⟨rfl, hd, -⟩ := x_ceS rfl hen
    exact s_iald F r hN hd h
  case baload =>
    obtain ⟨rfl, hd, -⟩ := x_ceS rfl hen
    exact s_zald F r hN hd h
  case faload =>
    obtain ⟨rfl, hd, -⟩ := x_ceS rfl hen
    exact s_fald F r hN hd h
  case aaload =>
    obtain ⟨rfl, hd, -⟩ := x_ceS rfl hen
    exact s_aald F r hN hd h
  case iastore =>
    obtain ⟨rfl, hd, -⟩ := x_ceS rfl hen
    exact s_iast F r hN hd h
  case bastore =>
    obtain ⟨rfl, hd, -⟩ := x_ceS rfl hen
    exact s_zast F r hN hd h
  case fastore =>
    obtain ⟨rfl, hd, -⟩ := x_ceS rfl hen
    exact s_fast F r hN hd h
  case arraylength =>
    obtain ⟨rfl, hd, -⟩ := x_ceS rfl hen
    exact s_alen F r hN hd h
  case ifCond cnd off =>
    obtain ⟨rfl, hd, hx⟩ := x_ceS rfl hen
    exact s_if1 F r hN (x_xj_of hx) hd h
  case if_icmp cnd off =>
    obtain ⟨rfl, hd, hx⟩ := x_ceS rfl hen
    exact s_if2 F r hN (x_xj_of hx) hd h
  case goto off =>
    obtain ⟨rfl, hd, hx⟩ := x_ceS rfl hen
    exact s_goto F r hN (x_xj_of hx) hd h
  case getfield n =>
    obtain ⟨rfl, hd, hx⟩ := x_ceS rfl hen
    exact s_get F r hN (x_xf_of hx) hd h
  case putfield n =>
    obtain ⟨rfl, hd, hx⟩ := x_ceS rfl hen
    exact s_put F r hN (x_xf_of hx) hd h
  case invokevirtual n =>
    obtain ⟨rfl, hd, hx⟩ := x_ceS rfl hen
    exact s_vir F r hN hC hR hcs hx hd h
  case invokestatic n =>
    obtain ⟨rfl, hd, hx⟩ := x_ceS rfl hen
    exact s_stat F r hN hC hR hcs x_natives hx hd h
  case tableswitch dd lo hi offs =>
    unfold x_ce at hen
    simp only [Bool.and_eq_true] at hen
    exact s_table F r hN (x_xt_of hen.2) (of_decide_eq_true hen.1) h
  case lookupswitch dd pr =>
    unfold x_ce at hen
    simp only [Bool.and_eq_true] at hen
    exact s_lookup F r hN (x_xl_of hen.2) (of_decide_eq_true hen.1) h
  case ireturn =>
    obtain ⟨rfl, hd, -⟩ := x_ceS rfl hen
    have h : x_irt rb RR st M := h
    unfold x_irt at h
    split at h
    · cases rb
      · exact hrt.1 _ _ _ _ _ _ _ ⟨_, _, _, hcd⟩ r (fun g => by cases g) h hd
      · obtain ⟨h1, h2⟩ := x_bg_spec h
        exact hrt.1 _ _ _ _ _ _ _ ⟨_, _, _, hcd⟩ r (fun _ => h1) h2 hd
    · exact h.elim
  case freturn =>
    obtain ⟨rfl, hd, -⟩ := x_ceS rfl hen
    have h : x_frt RR st M := h
    unfold x_frt at h
    split at h
    · exact hrt.2.1 _ _ _ _ _ _ _ ⟨_, _, _, hcd⟩ r h hd
    · exact h.elim
  case return_ =>
    obtain ⟨rfl, hd, -⟩ := x_ceS rfl hen
    have h : x_vrt RR st M := h
    unfold x_vrt at h
    split at h
    · exact hrt.2.2 _ _ _ _ _ _ ⟨_, _, _, hcd⟩ r h hd
    · exact h.elim
  all_goals exact False.elim h
/-- **A RUN of the small machine is one of the machine** -/
theorem x_run (F : x_fix p s m args c H0 cc nL own E ad dA D A q b Ls xs sc) (hC : x_Hok l E ad dA D C d) (hR : d + 1 ≤ R.frames ∧ 31 + 40 * d ≤ R.locals) (hcs : cells ≤ R.cells ∧ slots ≤ R.slots) (hrt : x_rets p l e R s m args below meth c cells slots Q H0 cc nL E ad dA D A sc rb RR cd) (hok : ∀ pc en, cd pc = some en → x_ce own cc pc en = true) (h : XW q C cd rb RR pc L st M) (r : x_rel H0 nL E ad dA D A sc L st M H locs ls) : W p l e R s m args below meth c H locs cells slots Q (F0 m pc ls (st.map (x_cv ad))) := by
  have key := h (fun pc L st M => ∀ H locs ls, x_rel H0 nL E ad dA D A sc L st M H locs ls → W p l e R s m args below meth c H locs cells slots Q (F0 m pc ls (st.map (x_cv ad))))
  refine key ?_ H locs ls r
  intro pc L st M g H locs ls r
  have hN : x_K p l e R s m args below meth c cells slots Q H0 nL E ad dA D A sc (fun pc L st M => ∀ H locs ls, x_rel H0 nL E ad dA D A sc L st M H locs ls → W p l e R s m args below meth c H locs cells slots Q (F0 m pc ls (st.map (x_cv ad)))) := fun pc L st M H locs ls g r => g H locs ls r
  unfold x1 at g
  split at g
  · exact g.elim
  · rename_i i nx ex hcd
    exact x_step F r hN hC hR hcs hrt hcd (hok _ _ hcd) g
  · rename_i i nx ex bs hcd
    have r' : x_rel H0 nL E ad dA D A sc (x_mz bs L) st M H locs ls := by
      refine ⟨⟨lv_fewer r.1.1 ?_, by rw [x_mz_len]; exact r.1.2.1, ?_⟩, r.2⟩
      · intro z hz
        obtain ⟨j, w, h1, h2⟩ := x_lv_mem ad _ 0 z hz
        rw [h2]
        exact x_lv_nth ad L 0 j w (x_mz_nth h1)
      · intro v hv
        obtain ⟨j, hj⟩ := x_mem_nth hv
        exact r.1.2.2 v (x_nth_mem (x_mz_nth hj))
    exact x_step F r' hN hC hR hcs hrt hcd (hok _ _ hcd) g
end XZ
