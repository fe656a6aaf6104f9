/-! ===== calls, and the whole: what the small machine comes to, the machine comes to ===== -/
def x_kd (r : Option FieldType) : Nat := match r with
  | none => 2
  | some .float => 1
  | _ => 0
def x_rm (d : Nat) : Room := { frames := d, cells := 0, slots := 0, locals := 40 * d }
def x_wm (z : xQ) : List Cond := .code z.1 z.2.1 z.2.2.1 z.2.2.2.1 :: x_Ts
def x_na (z : xQ) : Nat := z.2.2.2.2.2.1 + (if z.2.2.2.2.1 then 0 else 1)
def x_B (E : Nat → Bool) (ad : xId → Nat) (dA : Nat → ClassId) (D : va_G) (M : xM) (t : State) : Prop := va_P D vwCl (x_ws E ad dA M) t.heap ∧ va_K D vwCl (x_tys dA) t
def x_Qk (E : Nat → Bool) (ad : xId → Nat) (dA : Nat → ClassId) (D : va_G) (k : Nat) (M : xM) (RR : xR) (A : Nat → Prop) : Array Value → State → Outcome → State → Prop := match k with
  | 2 => va_Qv (fun u : xM => RR none u ∧ x_inM u ∧ x_scr (x_rd M 0) u) (x_B E ad dA D) A
  | 1 => va_Qf (fun (f : UInt32) (u : xM) => RR (some (.inr (.inl f))) u ∧ x_inM u ∧ x_scr (x_rd M 0) u) (x_B E ad dA D) A
  | _ => va_Qi (fun (a : Int32) (u : Int × xM) => a = Int32.ofInt u.1 ∧ x_in u.1 ∧ RR (some (.inl u.1)) u.2 ∧ x_inM u.2 ∧ x_scr (x_rd M 0) u.2) (fun u => x_B E ad dA D u.2) A
def x_Pc (E : Nat → Bool) (ad : xId → Nat) (dA : Nat → ClassId) (D : va_G) (as : List xV) (M : xM) (sz : Nat) : Array Value → State → Prop := va_Pc (as.map (x_cv ad)) (fun U => U.heap.size = sz ∧ x_B E ad dA D M U ∧ va_D (fun _ => True) (x_ws E ad dA M))
def x_Met (l : Launch) (E : Nat → Bool) (ad : xId → Nat) (dA : Nat → ClassId) (D : va_G) (d : Nat) (z : xQ) (as : List xV) (M : xM) (RR : xR) : Prop := ∀ sz : Nat, Met l z.1 (x_wm z) (x_rm d) (x_Pc E ad dA D as M sz) (x_Qk E ad dA D (x_kd z.2.2.2.1) M RR (va_A (x_ws E ad dA M) sz)) 0 0 (va_A (x_ws E ad dA M) sz)
def x_Hok (l : Launch) (E : Nat → Bool) (ad : xId → Nat) (dA : Nat → ClassId) (D : va_G) (C : xH) (d : Nat) : Prop := ∀ k as M RR z, x_mg x_ms k = some z → C k as M RR → x_inM M → (∀ v ∈ as, x_gv E v) → as.length = x_na z → x_Met l E ad dA D d z as M RR
theorem x_mg_mem : ∀ {ms : List xQ} {k : Nat} {z : xQ}, x_mg ms k = some z → z ∈ ms
  | [], _, _, h => by cases h
  | a :: _, 0, _, h => by cases h; exact List.mem_cons_self
  | _ :: l, k + 1, _, h => List.mem_cons_of_mem _ (x_mg_mem (ms := l) (k := k) h)
theorem x_blind {E : Nat → Bool} {ad : xId → Nat} {dA : Nat → ClassId} {D : va_G} {as : List xV} {M : xM} {sz : Nat} : FrameBlind (x_Pc E ad dA D as M sz) := by
  intro a U g mk h
  obtain ⟨h0, h1, ⟨hP, hK⟩, hD⟩ := h
  exact ⟨h0, h1, ⟨hP, va_K.moved (u := U) (U := U.calling g mk a) (Vm.Alike.refl U.vm) hK⟩, hD⟩
theorem x_pop_spec : ∀ {n : Nat} {acc st as r : List xV}, x_pop n acc st = some (as, r) → as.reverse ++ r = acc.reverse ++ st ∧ as.length = n + acc.length
  | 0, acc, st, as, r, h => by
    cases h
    exact ⟨rfl, (Nat.zero_add _).symm⟩
  | n + 1, acc, [], as, r, h => by cases h
  | n + 1, acc, v :: st, as, r, h => by
    obtain ⟨h1, h2⟩ := x_pop_spec (n := n) (acc := v :: acc) (st := st) h
    refine ⟨?_, by rw [h2, List.length_cons]; omega⟩
    rw [h1, List.reverse_cons, List.append_assoc]
    rfl
/-- what a method's table says of it -/
theorem x_mfacts {z : xQ} (hz : z ∈ x_ms) : Cond.code z.1 z.2.1 z.2.2.1 z.2.2.2.1 ∈ x_Ts ∧ Cond.initialized z.1.cls ∈ x_Ts ∧ (z.2.2.2.2.1 = true → Cond.static z.1 ∈ x_Ts) ∧ (z.2.2.2.2.1 = false → Cond.instanceMethod z.1 ∈ x_Ts ∧ Cond.selects z.1.cls z.1 z.1 ∈ x_Ts) ∧ Jvm.plainFor z.1 = true ∧ z.1.cls ≠ "java/lang/invoke/MethodHandle" ∧ z.1.cls ≠ "java/lang/invoke/VarHandle" ∧ (parseMethodDescriptor z.1.desc).map (fun d => d.parameters.length) = some z.2.2.2.2.2.1 ∧ x_na z ≤ z.2.2.1 ∧ z.2.2.1 ≤ 12 := by
  obtain ⟨⟨a, b, c, d, h⟩, -, -⟩ := x_ms_ok z hz
  unfold x_mck at h
  simp only [Bool.and_eq_true, decide_eq_true_eq, Nat.ble_eq] at h
  obtain ⟨⟨⟨⟨⟨⟨⟨⟨h1, h2⟩, h3⟩, h4⟩, h5⟩, h6⟩, h7⟩, h8⟩, h9⟩ := h
  refine ⟨x_wq_of h1, x_wq_of h2, fun g => ?_, fun g => ?_, h4, h5, h6, h7, h8, h9⟩
  · rw [if_pos g] at h3
    exact x_wq_of h3
  · rw [if_neg (by rw [g]; exact Bool.false_ne_true)] at h3
    rw [Bool.and_eq_true] at h3
    exact ⟨x_wq_of h3.1, x_wq_of h3.2⟩
theorem x_wm_good {z : xQ} (hz : z ∈ x_ms) : GoodIn x_Ts (x_wm z) := by
  intro w hw
  rcases List.mem_cons.mp hw with e | e
  · subst e
    exact x_Ts_good _ (x_mfacts hz).1
  · exact x_Ts_good _ e
section XC
variable {p : Program} {l : Launch} {e : Env} {R : Room} {s : State} {m : MethodId} {args : Array Value} {below : List Frame} {meth : Method} {c : Code} {H H0 : Heap} {locs : List Loc} {cells slots : Nat} {Q : State → Prop}
variable {cc : ByteArray} {pc nx nL : Nat} {ls : Array Slot} {own : String} {E : Nat → Bool} {ad : xId → Nat} {dA : Nat → ClassId} {D : va_G} {A : Nat → Prop} {q : Bool} {b Ls : Nat} {xs : Nat → Int32} {sc : xB} {L : xL} {st : List xV} {M : xM} {N : xN}
variable {C : xH} {d : Nat}
theorem x_scr_tr {M' : xM} (h : x_scr sc M) (h' : x_scr (x_rd M 0) M') : x_scr sc M' := fun i => ⟨(h' i).1.trans (h i).1, (h' i).2.trans (h i).2⟩
theorem x_A_in (F : x_fix p s m args c H0 cc nL own E ad dA D A q b Ls xs sc) (r : x_rel H0 nL E ad dA D A sc L st M H locs ls) : ∀ z, va_A (x_ws E ad dA M) H.size z → A z := by
  intro z hz
  rcases hz with ⟨k, ee, hk⟩ | hz
  · exact (F.2.2.1 M).2 k _ hk
  · exact F.2.2.2.1 z (Nat.le_trans r.2.2.2.1.1 hz)
/-- behind a call -/
theorem x_after (F : x_fix p s m args c H0 cc nL own E ad dA D A q b Ls xs sc) (r : x_rel H0 nL E ad dA D A sc L st M H locs ls) (hN : x_K p l e R s m args below meth c cells slots Q H0 nL E ad dA D A sc N) {z : xQ} {as rs : List xV} {a : Array Value} (hC : x_kd z.2.2.2.1 = x_kd z.2.2.2.1) (hrs : ∀ v ∈ rs, x_gv E v)
    (hr : va_Run p l e R s m args below meth c H locs cells slots 0 0 (F0 m pc ls (st.map (x_cv ad))) (rs.map (x_cv ad)) (x_Qk E ad dA D (x_kd z.2.2.2.1) M (fun v M' => match v with | none => N (pc + 3) L rs M' | some v => N (pc + 3) L (v :: rs) M') (va_A (x_ws E ad dA M) H.size) a) (va_A (x_ws E ad dA M) H.size)) : W p l e R s m args below meth c H locs cells slots Q (F0 m pc ls (st.map (x_cv ad))) := by
  have hAin := x_A_in F r
  match hk : x_kd z.2.2.2.1, hr with
  | 2, hr =>
    refine va_callv (a := a) hr r.2.2.2.1 (fun z _ h => hAin z h) hAin (fun u t H1 locs1 ht hvm hw hB hz1 hk1 hS => ?_)
    obtain ⟨w1, w2, w3⟩ := hw
    obtain ⟨b1, b2⟩ := hB
    rw [ht] at b1
    exact hN _ _ _ _ _ _ _ w1 ⟨r.1, hrs, b1, hS, w2, x_scr_tr r.2.2.2.2.2 w3⟩
  | 1, hr =>
    refine va_callf (a := a) hr r.2.2.2.1 (fun z _ h => hAin z h) hAin (fun f u t H1 locs1 ht hvm hw hB hz1 hk1 hS => ?_)
    obtain ⟨w1, w2, w3⟩ := hw
    obtain ⟨b1, b2⟩ := hB
    rw [ht] at b1
    exact hN _ _ _ _ _ _ _ w1 ⟨r.1, x_push (v := .inr (.inl f)) trivial hrs, b1, hS, w2, x_scr_tr r.2.2.2.2.2 w3⟩
  | 0, hr =>
    refine va_calli (a := a) hr r.2.2.2.1 (fun z _ h => hAin z h) hAin (fun f u t H1 locs1 ht hvm hw hB hz1 hk1 hS => ?_)
    obtain ⟨rfl, w0, w1, w2, w3⟩ := hw
    obtain ⟨b1, b2⟩ := hB
    rw [ht] at b1
    exact hN _ _ _ _ _ _ _ w1 ⟨r.1, x_push (v := .inl u.1) w0 hrs, b1, hS, w2, x_scr_tr r.2.2.2.2.2 w3⟩
  | j + 3, hr =>
    exfalso
    unfold x_kd at hk
    split at hk <;> omega
theorem x_rest_cat (ad : xId → Nat) : ∀ rs : List xV, ((rs.map (x_cv ad)).map fun v => v.category).sum = rs.length
  | [] => rfl
  | v :: rs => by
    rw [List.map_cons, List.map_cons, List.sum_cons, x_rest_cat ad rs, x_cv_cat, List.length_cons]
    omega
theorem s_vir (F : x_fix p s m args c H0 cc nL own E ad dA D A q b Ls xs sc) (r : x_rel H0 nL E ad dA D A sc L st M H locs ls) (hN : x_K p l e R s m args below meth c cells slots Q H0 nL E ad dA D A sc N) (hC : x_Hok l E ad dA D C d) (hR : d + 1 ≤ R.frames ∧ 31 + 40 * d ≤ R.locals) (hcs : cells ≤ R.cells ∧ slots ≤ R.slots) {ix : Nat} {ex : List (Int × Nat)} (hw : x_xv own ix ex = true) (hd : decode cc pc = .ok (.invokevirtual ix, 3)) (h : x_vir C N (pc + 3) ex L st M) : W p l e R s m args below meth c H locs cells slots Q (F0 m pc ls (st.map (x_cv ad))) := by
  unfold x_vir at h
  split at h
  · rename_i wi k a n a' ci ps
    split at h
    · rename_i t o u as rs hpop
      cases hbq : (Nat.ble rs.length 8 && Nat.beq (x_cn o) ci)
      · rw [hbq] at h; exact h.elim
      · rw [hbq] at h
        simp only [Bool.and_eq_true, Nat.ble_eq] at hbq
        have eci : x_cn o = ci := Nat.eq_of_beq_eq_true hbq.2
        subst eci
        unfold x_xv at hw
        dsimp only at hw
        split at hw
        · rename_i z zc hz hzc
          simp only [Bool.and_eq_true, decide_eq_true_eq, Bool.not_eq_true'] at hw
          obtain ⟨⟨⟨w1, w2⟩, w3⟩, w4⟩ := hw
          have w3 : n = z.2.2.2.2.2.1 + 1 := Nat.eq_of_beq_eq_true w3
          have hmem := x_mg_mem hz
          obtain ⟨f1, f2, f3, f4, f5, f6, f7, f8, f9, f10⟩ := x_mfacts hmem
          obtain ⟨p1, p2⟩ := x_pop_spec hpop
          have est : st = as.reverse ++ .inr (.inr (t, o, u)) :: rs := by
            have : (.inr (.inr (t, o, u)) :: as).reverse ++ rs = st := p1
            rw [← this, List.reverse_cons, List.append_assoc]
            rfl
          have hgv : ∀ v ∈ st, x_gv E v := r.2.1
          have hrs : ∀ v ∈ rs, x_gv E v := fun v hv => hgv v (by rw [est]; exact List.mem_append_right _ (List.mem_cons_of_mem _ hv))
          have has : ∀ v ∈ (.inr (.inr (t, o, u)) :: as : List xV), x_gv E v := by
            intro v hv
            rcases List.mem_cons.mp hv with e9 | e9
            · rw [e9]; exact hgv _ (by rw [est]; exact List.mem_append_right _ List.mem_cons_self)
            · exact hgv v (by rw [est]; exact List.mem_append_left _ (List.mem_reverse.mpr e9))
          have hlt12 : x_cn o < 12 := (List.getElem?_eq_some_iff.mp hzc).1
          have hv : x_vd E (t, o, u) := by
            rcases has _ List.mem_cons_self with gv | gv
            · exact gv
            · cases gv; exact absurd hlt12 (by decide)
          have hoff := x_vd_off hv
          obtain ⟨har, C', T', N', hz', hlen⟩ := x_cls_ok o hoff.2.1 hlt12
          obtain ⟨q0, hq, hws⟩ := x_ws_at (ad := ad) (dA := dA) (M := M) hv
          rw [x_cell_o har] at hws
          have hlen2 : as.length = z.2.2.2.2.2.1 := by
            have : as.length + 1 = n + 0 := p2
            omega
          have hM := hC k _ M _ z hz h r.2.2.2.2.1 has (by unfold x_na; rw [w4]; show as.length + 1 = _; rw [hlen2]; rfl) H.size
          have hcw : CallW R s args own z.1.cls ix z.1 z.2.1 z.2.2.1 z.2.2.2.1 (x_wm z) (x_rm d) 0 0 z.2.2.2.2.2.1 := ⟨callB_of _ F.1.2.2.2.2 (x_wm_good hmem) rfl rfl rfl (F.1.2.2.2.2 _ f2) (F.1.2.2.2.2 _ (x_wq_of w1)) ⟨f6, f7, f8⟩ ⟨hR.1, by show 8 + (z.2.2.1 + 11) + 40 * d ≤ R.locals; omega⟩, F.1.2.2.2.2 _ (f4 w4).1, F.1.2.2.2.2 _ (f4 w4).2⟩
          have hpre : PreV s H z.1.cls (ad (t, o, u)) (x_Pc E ad dA D (.inr (.inr (t, o, u)) :: as) M H.size) (as.map (x_cv ad)) := by
            refine ⟨x_blind, ?_, ?_⟩
            · have := va_recv F.2.1 r.2.2.1 hzc hws
              rw [w2] at this
              exact this
            · intro U hU hW
              exact ⟨rfl, by rw [hU], ⟨by rw [hU]; exact r.2.2.1, va_K.moved hW.alike F.2.1⟩, (F.2.2.1 M).weaken (fun _ _ _ _ => trivial)⟩
          refine x_after F r hN (z := z) (as := as) (rs := rs) (a := (Value.ref (ad (t, o, u)) :: as.map (x_cv ad)).toArray) rfl hrs ?_
          refine va_runV (As := as.map (x_cv ad)) (rest := rs.map (x_cv ad)) F.1 hM hcw hpre rfl (by rw [List.length_map]; exact hlen2) r.1.1.1 ?_ ?_ hd ⟨hcs.1, hcs.2⟩
          · show st.map (x_cv ad) = _
            rw [est, List.map_append, List.map_reverse]
            rfl
          · rw [x_rest_cat]
            show 2 * 0 + rs.length ≤ 8
            omega
        · cases hw
    · exact h.elim
  · exact h.elim
theorem s_stat (F : x_fix p s m args c H0 cc nL own E ad dA D A q b Ls xs sc) (r : x_rel H0 nL E ad dA D A sc L st M H locs ls) (hN : x_K p l e R s m args below meth c cells slots Q H0 nL E ad dA D A sc N) (hC : x_Hok l E ad dA D C d) (hR : d + 1 ≤ R.frames ∧ 31 + 40 * d ≤ R.locals) (hcs : cells ≤ R.cells ∧ slots ≤ R.slots) (hnat : Cond.native ⟨"java/lang/Float", "floatToRawIntBits", "(F)I"⟩ ∈ x_Ts ∧ Cond.static ⟨"java/lang/Float", "floatToRawIntBits", "(F)I"⟩ ∈ x_Ts ∧ Cond.native ⟨"java/lang/Float", "intBitsToFloat", "(I)F"⟩ ∈ x_Ts ∧ Cond.static ⟨"java/lang/Float", "intBitsToFloat", "(I)F"⟩ ∈ x_Ts ∧ Cond.initialized "java/lang/Float" ∈ x_Ts) {ix : Nat} {ex : List (Int × Nat)} (hw : x_xs own ix ex = true) (hd : decode cc pc = .ok (.invokestatic ix, 3)) (h : x_sta1 C N (pc + 3) ex L st M) : W p l e R s m args below meth c H locs cells slots Q (F0 m pc ls (st.map (x_cv ad))) := by
  unfold x_sta1 at h
  split at h
  · rename_i wi k a n a' ps
    split at h
    · rename_i as rs hpop
      cases hbq : Nat.ble rs.length 8
      · rw [hbq] at h; exact h.elim
      · rw [hbq] at h
        rw [Nat.ble_eq] at hbq
        cases hz : x_mg x_ms k with
        | none =>
          have h8 := hw
          unfold x_xs at h8
          simp only [hz] at h8
          cases h8
        | some z =>
          have h8 : (x_wq (wi.toNat + 89) (.methodLink own ix z.1) && Nat.beq n z.2.2.2.2.2.1 && z.2.2.2.2.1) = true := by
            have h8 := hw
            unfold x_xs at h8
            simp only [hz] at h8
            exact h8
          simp only [Bool.and_eq_true] at h8
          obtain ⟨⟨w1, w3⟩, w4⟩ := h8
          have w3 : n = z.2.2.2.2.2.1 := Nat.eq_of_beq_eq_true w3
          have hmem := x_mg_mem hz
          obtain ⟨f1, f2, f3, f4, f5, f6, f7, f8, f9, f10⟩ := x_mfacts hmem
          obtain ⟨p1, p2⟩ := x_pop_spec hpop
          have est : st = as.reverse ++ rs := p1.symm
          have hgv : ∀ v ∈ st, x_gv E v := r.2.1
          have hrs : ∀ v ∈ rs, x_gv E v := fun v hv => hgv v (by rw [est]; exact List.mem_append_right _ hv)
          have has : ∀ v ∈ as, x_gv E v := fun v hv => hgv v (by rw [est]; exact List.mem_append_left _ (List.mem_reverse.mpr hv))
          have hlen2 : as.length = z.2.2.2.2.2.1 := by
            have : as.length = n + 0 := p2
            omega
          have hM := hC k _ M _ z hz h r.2.2.2.2.1 has (by unfold x_na; rw [w4]; exact hlen2) H.size
          have hcw : CallB R s args own ix z.1 z.2.1 z.2.2.1 z.2.2.2.1 (x_wm z) (x_rm d) 0 0 z.2.2.2.2.2.1 ∧ (Cond.static z.1).before args s = true := ⟨callB_of _ F.1.2.2.2.2 (x_wm_good hmem) rfl rfl rfl (F.1.2.2.2.2 _ f2) (F.1.2.2.2.2 _ (x_wq_of w1)) ⟨f6, f7, f8⟩ ⟨hR.1, by show 8 + (z.2.2.1 + 11) + 40 * d ≤ R.locals; omega⟩, F.1.2.2.2.2 _ (f3 w4)⟩
          have hpre : PreS s H (x_Pc E ad dA D as M H.size) (as.map (x_cv ad)) := by
            refine ⟨x_blind, ?_⟩
            intro U hU hW
            exact ⟨rfl, by rw [hU], ⟨by rw [hU]; exact r.2.2.1, va_K.moved hW.alike F.2.1⟩, (F.2.2.1 M).weaken (fun _ _ _ _ => trivial)⟩
          refine x_after F r hN (z := z) (as := as) (rs := rs) (a := (as.map (x_cv ad)).toArray) rfl hrs ?_
          refine va_runS (As := as.map (x_cv ad)) (rest := rs.map (x_cv ad)) F.1 hM hcw hpre rfl (by rw [List.length_map]; exact hlen2) r.1.1.1 ?_ ?_ hd ⟨hcs.1, hcs.2⟩
          · show st.map (x_cv ad) = _
            rw [est, List.map_append, List.map_reverse]
          · rw [x_rest_cat]
            show 2 * 0 + rs.length ≤ 8
            omega
    · exact h.elim
  · rename_i wi k n a' ps
    split at h
    · rename_i f rs
      cases hbq : Nat.ble rs.length 8
      · rw [hbq] at h; exact h.elim
      · rw [hbq] at h
        rw [Nat.ble_eq] at hbq
        have hw : x_wq _ (.methodLink own ix ⟨"java/lang/Float", "floatToRawIntBits", "(F)I"⟩) = true := hw
        obtain ⟨-, g2⟩ := x_pop1 r.2.1
        have kk := hN _ _ _ _ H locs ls h (x_relS r (x_push (v := .inl (x_f2i f)) (x_in_toI _) g2))
        have e9 : Int32.ofInt (x_f2i f) = f.toInt32 := x_ofI rfl
        have kk : W p l e R s m args below meth c H locs cells slots Q (F0 m (pc + 3) ls (.int (Int32.ofInt (x_f2i f)) :: rs.map (x_cv ad))) := kk
        rw [e9] at kk
        exact vn_f2i F.1.1 F.1.2.1 (by rw [F.1.2.2.1]; exact r.1.1.1.symm) F.1.2.2.2.1 (F.1.2.2.2.2 _ (x_wq_of hw)) (F.1.2.2.2.2 _ hnat.1) (F.1.2.2.2.2 _ hnat.2.1) (F.1.2.2.2.2 _ hnat.2.2.2.2) (by omega) (by rw [x_rest_cat]; omega) hd kk
    · exact h.elim
  · rename_i wi k n a' ps
    split at h
    · rename_i x rs
      cases hbq : Nat.ble rs.length 8
      · rw [hbq] at h; exact h.elim
      · rw [hbq] at h
        rw [Nat.ble_eq] at hbq
        have hw : x_wq _ (.methodLink own ix ⟨"java/lang/Float", "intBitsToFloat", "(I)F"⟩) = true := hw
        obtain ⟨-, g2⟩ := x_pop1 r.2.1
        exact vn_i2f F.1.1 F.1.2.1 (by rw [F.1.2.2.1]; exact r.1.1.1.symm) F.1.2.2.2.1 (F.1.2.2.2.2 _ (x_wq_of hw)) (F.1.2.2.2.2 _ hnat.2.2.1) (F.1.2.2.2.2 _ hnat.2.2.2.1) (F.1.2.2.2.2 _ hnat.2.2.2.2) h.1 (by omega) (by rw [x_rest_cat]; omega) hd (hN _ _ _ _ _ _ _ h.2 (x_relS r (x_push (v := .inr (.inl (x_i2f x))) trivial g2)))
    · exact h.elim
  · exact h.elim
end XC
