/-! ===== the pure part: class memory against the model's ===== -/
theorem xb_t {c A B : Prop} (h : c) (a : A) : x_br c A B := ⟨fun _ => a, fun n => absurd h n⟩
theorem xb_f {c A B : Prop} (h : ¬ c) (b : B) : x_br c A B := ⟨fun g => absurd g h, fun _ => b⟩
theorem xb_i {c A B : Prop} (a : c → A) (b : ¬ c → B) : x_br c A B := ⟨a, b⟩
theorem up_eq {b : xB} {r i : Nat} {v : Int} : x_up b r i v r i = v := if_pos ⟨rfl, rfl⟩
theorem up_r {b : xB} {r i r' i' : Nat} {v : Int} (h : r' ≠ r) : x_up b r i v r' i' = b r' i' := if_neg (fun e => h e.1)
theorem up_i {b : xB} {r i r' i' : Nat} {v : Int} (h : i' ≠ i) : x_up b r i v r' i' = b r' i' := if_neg (fun e => h e.2)
theorem fil_in {b : xB} {o s n r i : Nat} {v : Int} (h : r = o) (h1 : s ≤ i) (h2 : i < s + n) : x_fil b o s n v r i = v := if_pos ⟨h, h1, h2⟩
theorem fil_i {b : xB} {o s n r i : Nat} {v : Int} (h : i < s ∨ s + n ≤ i) : x_fil b o s n v r i = b r i := if_neg (by omega)
theorem upR {b : xB} {r i r' : Nat} {v : Int} (h : r' ≠ r) : x_up b r i v r' = b r' := by
  funext j
  exact up_r h
theorem filR {b : xB} {o s n r' : Nat} {v : Int} (h : r' ≠ o) : x_fil b o s n v r' = b r' := by
  funext j
  exact if_neg (fun e => h e.1)
/-- FINDINGS -/
def rF (b : xB) (s : Nat → Int) : Prop := ∀ f : Nat, 1 ≤ f → f ≤ 6 → b 10 f = s (3772 + f)
/-- one LINE -/
def rL1 (b : xB) (s : Nat → Int) (l : Nat) : Prop :=
  b 14 l = s (264 + l) ∧ b 15 l = s (268 + l) ∧ b 16 l = s (272 + l) ∧ 0 ≤ b 14 l ∧ b 14 l ≤ 1000000 ∧ (b 16 l = 0 ∨ b 16 l = 1) ∧
  ((b 13 l = 1 ∧ s l = 1 ∧ b 12 l = s (4 + l) ∧ 0 ≤ b 12 l ∧ b 12 l ≤ 64 ∧ ∀ p : Nat, (p : Int) < b 12 l → b 11 (l * 64 + p) = s (8 + (l * 64 + p)) ∧ 0 ≤ b 11 (l * 64 + p) ∧ b 11 (l * 64 + p) ≤ 255) ∨
   (b 13 l = 0 ∧ s l = 2 ∧ b 12 l = s (4 + l) ∧ 0 ≤ b 12 l ∧ b 12 l ≤ 64) ∨
   (b 13 l = 0 ∧ s l = 0 ∧ b 12 l = -1 ∧ s (4 + l) = 0))
def rL (b : xB) (s : Nat → Int) : Prop := ∀ l : Nat, l < 4 → rL1 b s l
/-- FIXTURES: how many, their kinds, numbers, seats, what they answer -/
def kHeat (k n : Int) : Int := if k = 2 then 100 + n else if k = 3 then 60 else 20
def kMost (k n : Int) : Int := if k = 2 ∨ k = 3 then (if 255 < 300 - n then 255 else 300 - n) else 255
def kChan (k : Int) : Nat := if k = 0 then 1 else if k = 1 then 2 else if k = 2 ∨ k = 3 then 3 else 0
/-- the greatest value of a channel -/
def kTop (k : Int) (c : Nat) : Int := if k = 2 ∧ c < 2 then 65535 else 255
def rR1 (b : xB) (s : Nat → Int) (f : Nat) : Prop :=
  b 17 f = s (278 + f) ∧ b 18 f = s (302 + f) ∧
  ((0 ≤ b 17 f ∧ b 17 f ≤ 3 ∧ 0 ≤ b 18 f ∧ b 18 f ≤ 100 ∧ b 21 f = kHeat (b 17 f) (b 18 f) ∧ b 22 f = kMost (b 17 f) (b 18 f)) ∨
   (b 17 f = 4 ∧ 0 ≤ b 18 f ∧ b 18 f ≤ 2 ∧ b 19 f = s (422 + f) ∧ 0 ≤ b 19 f ∧ b 19 f ≤ 6 ∧
    ∀ i : Nat, i < 6 → b 20 (f * 6 + i) = s (446 + (f * 6 + i)) ∧ -1 ≤ b 20 (f * 6 + i) ∧ b 20 (f * 6 + i) < f))
def cGroups (b : xB) : Nat → Nat
  | 0 => 0
  | n + 1 => cGroups b n + (if b 17 n = 4 then 1 else 0)
def rR (b : xB) (s : Nat → Int) : Prop :=
  b 161 0 = s 276 ∧ 0 ≤ b 161 0 ∧ b 161 0 ≤ 24 ∧ b 162 0 = s 277 ∧ b 162 0 ≤ 3 ∧ b 162 0 = (cGroups b (b 161 0).toNat : Int) ∧ b 173 0 = 0 ∧
  (∀ f : Nat, (f : Int) < b 161 0 → rR1 b s f) ∧ (∀ f : Nat, b 161 0 ≤ (f : Int) → f < 24 → ∀ i : Nat, i < 6 → s (446 + (f * 6 + i)) = -1)
/-- PATCHING -/
def rP (b : xB) (s : Nat → Int) : Prop :=
  (∀ f : Nat, f < 24 → b 25 f = s (326 + f) ∧ b 26 f = s (350 + f) ∧ b 27 f = s (398 + f) ∧ (b 27 f = 0 ∨ b 27 f = 1)) ∧
  (∀ f : Nat, f < 24 → (b 25 f = -1 ∧ b 26 f = -1) ∨ (0 ≤ b 25 f ∧ b 25 f < 4 ∧ 0 ≤ b 26 f ∧ b 26 f < 64 ∧ (f : Int) < b 161 0 ∧ b 17 f ≠ 4)) ∧
  0 ≤ b 186 0 ∧ b 186 0 ≤ 24 ∧ 0 ≤ s 3767 ∧
  (∀ i : Nat, (i : Int) < b 186 0 → 0 ≤ b 28 i ∧ b 28 i < 24 ∧ b 25 (b 28 i).toNat ≠ -1 ∧ 1 ≤ s (374 + (b 28 i).toNat) ∧ s (374 + (b 28 i).toNat) ≤ s 3767) ∧
  (∀ i j : Nat, i < j → (j : Int) < b 186 0 → s (374 + (b 28 i).toNat) < s (374 + (b 28 j).toNat)) ∧
  (∀ f : Nat, f < 24 → b 25 f ≠ -1 → ∃ i : Nat, (i : Int) < b 186 0 ∧ b 28 i = (f : Int))
/-- CURVES: bits of no number, of the endless -/
def isHole (z : Int) : Prop := 2139095040 < x_and z 2147483647
def rV1 (b : xB) (s : Nat → Int) (c : Nat) : Prop :=
  b 29 c = s (806 + c) ∧ 0 ≤ b 29 c ∧ b 29 c ≤ 8 ∧
  (∀ k : Nat, (k : Int) < b 29 c → b 30 (c * 8 + k) = s (810 + (c * 8 + k)) ∧ 0 ≤ b 30 (c * 8 + k) ∧ b 30 (c * 8 + k) ≤ 255 ∧ b 31 (c * 8 + k) = s (842 + (c * 8 + k)) ∧ x_in (b 31 (c * 8 + k)) ∧ x_and (b 31 (c * 8 + k)) 2147483647 ≠ 2139095040 ∧
    ((isHole (b 31 (c * 8 + k)) ∧ b 32 (c * 8 + k) = 1) ∨ (¬ isHole (b 31 (c * 8 + k)) ∧ b 32 (c * 8 + k) = 0 ∧ b 33 (c * 8 + k) = b 31 (c * 8 + k)))) ∧
  (∀ k j : Nat, k < j → (j : Int) < b 29 c → b 30 (c * 8 + k) < b 30 (c * 8 + j))
def rV (b : xB) (s : Nat → Int) : Prop := ∀ c : Nat, c < 4 → rV1 b s c
/-- CUES and LISTS -/
def rQ (b : xB) (s : Nat → Int) : Prop :=
  (∀ q : Nat, q < 16 → b 34 q = s (874 + q) ∧ 0 ≤ b 34 q ∧ b 34 q ≤ 12 ∧ ∀ k : Nat, (k : Int) < b 34 q →
    b 35 (q * 12 + k) = s (890 + (q * 12 + k)) ∧ 0 ≤ b 35 (q * 12 + k) ∧ b 35 (q * 12 + k) < b 161 0 ∧
    b 36 (q * 12 + k) = s (1082 + (q * 12 + k)) ∧ 0 ≤ b 36 (q * 12 + k) ∧ b 36 (q * 12 + k) ≤ 2 ∧
    b 37 (q * 12 + k) = s (1274 + (q * 12 + k)) ∧ 0 ≤ b 37 (q * 12 + k) ∧ b 37 (q * 12 + k) ≤ 65535 ∧
    b 38 (q * 12 + k) = s (1466 + (q * 12 + k)) ∧ 0 ≤ b 38 (q * 12 + k) ∧ b 38 (q * 12 + k) ≤ 100) ∧
  (∀ l : Nat, l < 4 → b 39 l = s (1658 + l) ∧ 0 ≤ b 39 l ∧ b 39 l ≤ 8 ∧ ∀ k : Nat, (k : Int) < b 39 l →
    b 40 (l * 8 + k) = s (1662 + (l * 8 + k)) ∧ 0 ≤ b 40 (l * 8 + k) ∧ b 40 (l * 8 + k) ≤ 15 ∧
    b 41 (l * 8 + k) = s (1694 + (l * 8 + k)) ∧ 0 ≤ b 41 (l * 8 + k) ∧ b 41 (l * 8 + k) ≤ 50)
/-- one CHANNEL of one PLAYBACK, k = 72 p + 3 f + c; m: its greatest value; is: there is such a channel -/
def rC1 (b : xB) (s : Nat → Int) (is : Prop) (m : Int) (k : Nat) : Prop :=
  (is ∧ 1 ≤ b 48 k ∧ b 48 k ≤ b 110 0 ∧ s (1750 + k) = 1 ∧ b 48 k = s (3478 + k) ∧ b 47 k = s (2038 + k) ∧ 0 ≤ b 47 k ∧ b 47 k ≤ m ∧ b 51 k = s (2902 + k) ∧
    (b 51 k = 0 ∨ (1 ≤ b 51 k ∧ b 51 k ≤ 100 ∧ b 49 k = s (2326 + k) ∧ 0 ≤ b 49 k ∧ b 49 k ≤ m ∧ b 50 k = s (2614 + k) ∧ 0 ≤ b 50 k ∧ b 50 k ≤ m ∧ b 52 k = s (3190 + k) ∧ 0 ≤ b 52 k ∧ b 52 k < b 51 k))) ∨
  (b 48 k = 0 ∧ s (1750 + k) = 0 ∧ b 47 k = 0 ∧ b 51 k = 0 ∧ s (2902 + k) = 0)
def cHas (b : xB) (p : Nat) : Nat → Nat
  | 0 => 0
  | n + 1 => cHas b p n + (if b 48 (p * 72 + n) = 0 then 0 else 1)
def cFad (b : xB) (p : Nat) : Nat → Nat
  | 0 => 0
  | n + 1 => cFad b p n + (if 0 < b 51 (p * 72 + n) then 1 else 0)
def rC (b : xB) (s : Nat → Int) (p : Nat) : Prop := ∀ f : Nat, f < 24 → ∀ c : Nat, c < 3 → rC1 b s ((f : Int) < b 161 0 ∧ c < kChan (b 17 f)) (kTop (b 17 f) c) (p * 72 + (f * 3 + c))
/-- one PLAYBACK -/
def rY1 (b : xB) (s : Nat → Int) (p : Nat) : Prop :=
  b 280 p = s (1726 + p) ∧ -1 ≤ b 280 p ∧ b 280 p ≤ 3 ∧ b 281 p = s (1730 + p) ∧ -1 ≤ b 281 p ∧ b 281 p ≤ 8 ∧ b 282 p = s (1734 + p) ∧ 0 ≤ b 282 p ∧ b 282 p ≤ 100 ∧
  b 285 p = (cHas b p 72 : Int) ∧ b 286 p = (cFad b p 72 : Int) ∧ 0 ≤ b 287 p ∧ b 287 p ≤ b 108 0 ∧
  ((b 288 p = 1 ∧ s (1738 + p) = b 287 p ∧ 0 ≤ b 280 p ∧ 0 ≤ b 281 p ∧ b 281 p < b 39 (b 280 p).toNat) ∨ (b 288 p = 0 ∧ s (1738 + p) = -1)) ∧
  rC b s p
def rY (b : xB) (s : Nat → Int) : Prop := ∀ p : Nat, p < 4 → rY1 b s p
/-- ENTRIES, LEAVINGS -/
def rE (b : xB) (s : Nat → Int) : Prop := ∀ p : Nat, p < 4 → b 283 p = s (1742 + p) ∧ b 284 p = s (1746 + p)
/-- the mixer's own -/
def rX (b : xB) (s : Nat → Int) : Prop :=
  (∀ f : Nat, f < 24 → ∀ c : Nat, c < 3 → b 42 (f * 3 + c) = s (590 + (f * 3 + c)) ∧ (b 42 (f * 3 + c) = -1 ∨ (0 ≤ b 42 (f * 3 + c) ∧ b 42 (f * 3 + c) < 4 ∧ (f : Int) < b 161 0 ∧ c < kChan (b 17 f) ∧ ¬ (b 17 f = 2 ∧ c < 2))) ∧
    b 43 (f * 3 + c) = s (662 + (f * 3 + c)) ∧ 0 ≤ b 43 (f * 3 + c) ∧ b 43 (f * 3 + c) ≤ 255 ∧ b 44 (f * 3 + c) = s (734 + (f * 3 + c)) ∧ (b 44 (f * 3 + c) = 0 ∨ b 44 (f * 3 + c) = 1)) ∧
  b 271 0 = s 3768 ∧ 0 ≤ b 271 0 ∧ b 271 0 ≤ 100 ∧ b 272 0 = s 3769 ∧ (b 272 0 = 0 ∨ b 272 0 = 1)
/-- TICKS, THE DIGEST -/
def rT (b : xB) (s : Nat → Int) : Prop := b 108 0 = s 3770 ∧ 0 ≤ b 108 0 ∧ b 108 0 ≤ 2000 ∧ b 109 0 = s 3771
/-- how many FADES ever, at most 2592 times m; how often PATCHED, at most n -/
def rW (m n : Int) (b : xB) (s : Nat → Int) : Prop := b 110 0 = s 3766 ∧ 0 ≤ b 110 0 ∧ b 110 0 ≤ 2592 * m ∧ s 3767 ≤ n
/-- **a board against the model's array**; n: calls so far -/
def rB (n : Nat) (b : xB) (s : Nat → Int) : Prop := rF b s ∧ rL b s ∧ rR b s ∧ rP b s ∧ rV b s ∧ rQ b s ∧ rY b s ∧ rE b s ∧ rX b s ∧ rT b s ∧ rW (4 * b 108 0 + n) n b s
