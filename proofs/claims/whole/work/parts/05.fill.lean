/-! ===== java.util.Arrays.fill, for any row of ints ===== -/
theorem x_ar_le {o k n : Nat} (h : x_ar o = some (k, n)) : n ≤ 3779 := by
  unfold x_ar at h
  split at h <;> first | (simp only [Option.some.injEq, Prod.mk.injEq] at h; omega) | exact absurd h (by simp)
theorem xw_id {z : Int} (h1 : -2147483648 ≤ z) (h2 : z < 2147483648) : xw z = z := by
  unfold xw
  rw [Int.bmod_def]
  split <;> omega
theorem x_so_add (u : Option Nat) (n i : Nat) : x_so u n i = x_so u n 0 + i := by
  cases u
  · exact (Nat.zero_add i).symm
  · show _ + _ = _ + _ + _
    omega
theorem x_fil_succ (b : xB) (o s i : Nat) (v : Int) : x_up (x_fil b o s i v) o (s + i) v = x_fil b o s (i + 1) v := by
  funext r j
  unfold x_up x_fil
  by_cases hr : r = o
  · by_cases hj : j = s + i
    · rw [if_pos ⟨hr, hj⟩, if_pos ⟨hr, by omega, by omega⟩]
    · rw [if_neg (fun h => hj h.2)]
      by_cases h2 : s ≤ j ∧ j < s + i
      · rw [if_pos ⟨hr, h2⟩, if_pos ⟨hr, h2.1, by omega⟩]
      · rw [if_neg (fun h => h2 h.2), if_neg (fun h => h2 ⟨h.2.1, by omega⟩)]
  · rw [if_neg (fun h => hr h.1), if_neg (fun h => hr h.1), if_neg (fun h => hr h.1)]
theorem x_fil_0 (b : xB) (o s : Nat) (v : Int) : x_fil b o s 0 v = b := by
  funext r j
  unfold x_fil
  rw [if_neg]
  omega
section
variable {d : Nat} {T0 b B1 B2 G0 : xB} {o n : Nat} {u : Option Nat} {v : Int} {R : xR}
theorem x_fill_lp_b1 (hx : x_ar o = some (0, n)) (h : R none (T0, x_fil b o (x_so u n 0) n v, B2, G0)) : ∀ j i : Nat, i + j = n → XW false (xcall d) xc_J_fill false R 5 [some (.inr (.inr (1, o, u))), some (.inl v), some (.inl (i : Int)), some (.inl (n : Int))] [] (T0, (x_fil b o (x_so u n 0) i v), B2, G0)
  | 0, i, e => by
    have e : i = n := e
    subst e
    refine XW.go (xcall_mono _) 9 true ?_
    exact ⟨fun g => absurd g (Int.lt_irrefl _), fun _ => XW.go (xcall_mono _) 3 true h⟩
  | j + 1, i, e => by
    have hn := x_ar_le hx
    refine XW.go (xcall_mono _) 12 true ?_
    refine ⟨fun _ => ?_, fun g => absurd (show (i : Int) < (n : Int) by omega) g⟩
    show x_ist _ _ _ (.inl v :: .inl (i : Int) :: .inr (.inr (1, o, u)) :: []) _
    unfold x_ist
    dsimp only
    rw [hx]
    refine x_gd_of (by omega) (by omega) ?_
    rw [x_wa_eq]
    show XW false (xcall d) xc_J_fill false R 5 [some (.inr (.inr (1, o, u))), some (.inl v), some (.inl (xw ((i : Int) + 1))), some (.inl (n : Int))] [] (T0, (x_up (x_fil b o (x_so u n 0) i v) o (x_so u n i) v), B2, G0)
    rw [xw_id (by omega) (by omega), x_so_add u n i, x_fil_succ]
    exact x_fill_lp_b1 hx h j (i + 1) (by omega)
theorem k_fill_b1 (hx : x_ar o = some (0, n)) (h : R none (T0, (x_fil b o (x_so u n 0) n v), B2, G0)) : xcall (d + 1) 252 [.inr (.inr (1, o, u)), .inl v] (T0, b, B2, G0) R := by
  refine XW.go (cd := xc_J_fill) (rb := false) (L := [some (.inr (.inr (1, o, u))), some (.inl v), none, none]) (xcall_mono _) 9 true ?_
  show x_len1 _ _ _ _ (.inr (.inr (1, o, u)) :: []) _
  unfold x_len1
  dsimp only
  rw [hx]
  dsimp only
  have g := x_fill_lp_b1 (d := d) hx h n 0 (Nat.zero_add n)
  rw [x_fil_0] at g
  exact g
theorem x_fill_lp_b2 (hx : x_ar o = some (0, n)) (h : R none (T0, B1, x_fil b o (x_so u n 0) n v, G0)) : ∀ j i : Nat, i + j = n → XW false (xcall d) xc_J_fill false R 5 [some (.inr (.inr (2, o, u))), some (.inl v), some (.inl (i : Int)), some (.inl (n : Int))] [] (T0, B1, (x_fil b o (x_so u n 0) i v), G0)
  | 0, i, e => by
    have e : i = n := e
    subst e
    refine XW.go (xcall_mono _) 9 true ?_
    exact ⟨fun g => absurd g (Int.lt_irrefl _), fun _ => XW.go (xcall_mono _) 3 true h⟩
  | j + 1, i, e => by
    have hn := x_ar_le hx
    refine XW.go (xcall_mono _) 12 true ?_
    refine ⟨fun _ => ?_, fun g => absurd (show (i : Int) < (n : Int) by omega) g⟩
    show x_ist _ _ _ (.inl v :: .inl (i : Int) :: .inr (.inr (2, o, u)) :: []) _
    unfold x_ist
    dsimp only
    rw [hx]
    refine x_gd_of (by omega) (by omega) ?_
    rw [x_wa_eq]
    show XW false (xcall d) xc_J_fill false R 5 [some (.inr (.inr (2, o, u))), some (.inl v), some (.inl (xw ((i : Int) + 1))), some (.inl (n : Int))] [] (T0, B1, (x_up (x_fil b o (x_so u n 0) i v) o (x_so u n i) v), G0)
    rw [xw_id (by omega) (by omega), x_so_add u n i, x_fil_succ]
    exact x_fill_lp_b2 hx h j (i + 1) (by omega)
theorem k_fill_b2 (hx : x_ar o = some (0, n)) (h : R none (T0, B1, (x_fil b o (x_so u n 0) n v), G0)) : xcall (d + 1) 252 [.inr (.inr (2, o, u)), .inl v] (T0, B1, b, G0) R := by
  refine XW.go (cd := xc_J_fill) (rb := false) (L := [some (.inr (.inr (2, o, u))), some (.inl v), none, none]) (xcall_mono _) 9 true ?_
  show x_len1 _ _ _ _ (.inr (.inr (2, o, u)) :: []) _
  unfold x_len1
  dsimp only
  rw [hx]
  dsimp only
  have g := x_fill_lp_b2 (d := d) hx h n 0 (Nat.zero_add n)
  rw [x_fil_0] at g
  exact g
end
