/-! TEXTS: the reader by recursive descent, as a function; its worth, its code (each sign behind what it joins), where it stops, whether it is wrong -/
def stn (c : Int32) : Nat := if c = nI 124 then 1 else if c = nI 38 then 2 else if c = nI 60 ∨ c = nI 61 ∨ c = nI 62 then 3 else if c = nI 43 ∨ c = nI 45 then 4 else if c = nI 42 ∨ c = nI 47 ∨ c = nI 37 then 5 else if c = nI 33 then 6 else 0
def jn (c a b : Int32) : Int32 :=
  if c = nI 124 then (if a = 0 then (if b = 0 then nI 0 else nI 1) else nI 1)
  else if c = nI 38 then (if a = 0 then nI 0 else if b = 0 then nI 0 else nI 1)
  else if c = nI 60 then (if a < b then nI 1 else nI 0)
  else if c = nI 61 then (if a = b then nI 1 else nI 0)
  else if c = nI 62 then (if a ≤ b then nI 0 else nI 1)
  else if c = nI 43 then a + b
  else if c = nI 45 then a - b
  else if c = nI 42 then a * b
  else if b = 0 then nI 0 else if c = nI 47 then a / b else a - a / b * b
def nmx (use : Nat) (c : Int32) : Nat := if use = 0 then (if c = nI 111 then 1 else if c = nI 108 then 2 else if c = nI 114 then 3 else 0) else (if c = nI 97 then 1 else if c = nI 112 then 2 else if c = nI 110 then 3 else 0)
def hr (b : Nat → Int32) (n a : Nat) (w : Bool) : Int32 := if a < n ∧ w = false then b a else -1
def rdD (b : Nat → Int32) (n : Nat) (w : Bool) : Nat → Int32 → Nat → Int32 × Nat
  | 0, v, a => (v, a)
  | k + 1, v, a => if 48 ≤ (hr b n a w).toInt ∧ (hr b n a w).toInt < 58 then rdD b n w k (nI 10 * v + hr b n a w - nI 48) (a + 1) else (v, a)
abbrev rd_T : Type := (Int32 × List Int32) × Nat × Bool
def rdJ (c : Int32) (x y : Int32 × List Int32) : Int32 × List Int32 := (jn c x.1 y.1, x.2 ++ y.2 ++ [-c])
def rdNot (r : rd_T) : rd_T := ((if r.1.1 = 0 then nI 1 else nI 0, r.1.2 ++ [-(nI 33)]), r.2.1, r.2.2)
def rdPar (b : Nat → Int32) (n : Nat) (r : rd_T) : rd_T := (r.1, if hr b n r.2.1 r.2.2 = nI 41 then r.2.1 + 1 else r.2.1, r.2.2 || !(decide (hr b n r.2.1 r.2.2 = nI 41)))
def rd (b : Nat → Int32) (n use : Nat) (e : Nat → Int32) : Nat → Nat → Option (Int32 × List Int32) → Nat → Nat → Bool → rd_T
  | 0, _, _, _, a, _ => ((nI 0, []), a, true)
  | f + 1, L, none, o, a, w =>
    if L = 6 then
      (if 48 ≤ (hr b n a w).toInt ∧ (hr b n a w).toInt < 58 then (((rdD b n w 4 (nI 0) a).1, [(rdD b n w 4 (nI 0) a).1]), (rdD b n w 4 (nI 0) a).2, w)
      else if 0 < nmx use (hr b n a w) then ((e (nmx use (hr b n a w)), [-(nI (nmx use (hr b n a w)))]), a + 1, w)
      else if o < 5 ∧ hr b n a w = nI 33 then rdNot (rd b n use e f 6 none (o + 1) (a + 1) w)
      else if o < 5 ∧ hr b n a w = nI 40 then rdPar b n (rd b n use e f 1 none (o + 1) (a + 1) w)
      else ((nI 0, []), a, true))
    else rd b n use e f L (some (rd b n use e f (L + 1) none o a w).1) o (rd b n use e f (L + 1) none o a w).2.1 (rd b n use e f (L + 1) none o a w).2.2
  | f + 1, L, some x, o, a, w =>
    if 0 < L ∧ stn (hr b n a w) = L then
      (if L = 3 then (rdJ (hr b n a w) x (rd b n use e f (L + 1) none o (a + 1) w).1, (rd b n use e f (L + 1) none o (a + 1) w).2.1, (rd b n use e f (L + 1) none o (a + 1) w).2.2)
      else rd b n use e f L (some (rdJ (hr b n a w) x (rd b n use e f (L + 1) none o (a + 1) w).1)) o (rd b n use e f (L + 1) none o (a + 1) w).2.1 (rd b n use e f (L + 1) none o (a + 1) w).2.2)
    else (x, a, w)
theorem hr_m1 {b : Nat → Int32} {n a : Nat} {w : Bool} (h : ¬ (a < n ∧ w = false)) : hr b n a w = -1 := if_neg h
theorem hr_in {b : Nat → Int32} {n a : Nat} {w : Bool} (h : hr b n a w ≠ -1) : a < n ∧ w = false := Classical.byContradiction fun q => h (if_neg q)
theorem stn_m1 : stn (-1) = 0 := by decide +kernel
theorem nmx_m1 (use : Nat) : nmx use (-1) = 0 := by
  unfold nmx
  split <;> decide +kernel
theorem dg_m1 : ¬ (48 ≤ (-1 : Int32).toInt ∧ (-1 : Int32).toInt < 58) := by decide +kernel
/-- how far a number goes -/
theorem rdD_le (b : Nat → Int32) (n : Nat) (w : Bool) : ∀ (k : Nat) (v : Int32) (a : Nat), a ≤ (rdD b n w k v a).2 ∧ (a ≤ n → (rdD b n w k v a).2 ≤ n)
  | 0, _, _ => ⟨Nat.le_refl _, id⟩
  | k + 1, v, a => by
    unfold rdD
    by_cases h : 48 ≤ (hr b n a w).toInt ∧ (hr b n a w).toInt < 58
    · rw [if_pos h]
      have hin := hr_in (fun q => dg_m1 (q ▸ h))
      have ih := rdD_le b n w k (nI 10 * v + hr b n a w - nI 48) (a + 1)
      exact ⟨by omega, fun _ => ih.2 (by omega)⟩
    · rw [if_neg h]
      exact ⟨Nat.le_refl _, id⟩
theorem rd_le (b : Nat → Int32) (n use : Nat) (e : Nat → Int32) : ∀ (f L : Nat) (x : Option (Int32 × List Int32)) (o a : Nat) (w : Bool), a ≤ (rd b n use e f L x o a w).2.1 ∧ (a ≤ n → (rd b n use e f L x o a w).2.1 ≤ n)
  | 0, _, _, _, _, _ => by unfold rd; exact ⟨Nat.le_refl _, id⟩
  | f + 1, L, none, o, a, w => by
    unfold rd
    by_cases hL : L = 6
    · rw [if_pos hL]
      by_cases h1 : 48 ≤ (hr b n a w).toInt ∧ (hr b n a w).toInt < 58
      · rw [if_pos h1]
        exact rdD_le b n w 4 (nI 0) a
      · rw [if_neg h1]
        by_cases h2 : 0 < nmx use (hr b n a w)
        · rw [if_pos h2]
          have hin := hr_in (b := b) (n := n) (a := a) (w := w) (fun q => by rw [q, nmx_m1] at h2; omega)
          exact ⟨by show a ≤ a + 1; omega, fun _ => by show a + 1 ≤ n; omega⟩
        · rw [if_neg h2]
          by_cases h3 : o < 5 ∧ hr b n a w = nI 33
          · rw [if_pos h3]
            have hin := hr_in (b := b) (n := n) (a := a) (w := w) (fun q => by rw [q] at h3; exact absurd h3.2 (by decide +kernel))
            have ih := rd_le b n use e f 6 none (o + 1) (a + 1) w
            exact ⟨by show a ≤ (rd b n use e f 6 none (o + 1) (a + 1) w).2.1; omega, fun _ => ih.2 (by omega)⟩
          · rw [if_neg h3]
            by_cases h4 : o < 5 ∧ hr b n a w = nI 40
            · rw [if_pos h4]
              have hin := hr_in (b := b) (n := n) (a := a) (w := w) (fun q => by rw [q] at h4; exact absurd h4.2 (by decide +kernel))
              have ih := rd_le b n use e f 1 none (o + 1) (a + 1) w
              generalize rd b n use e f 1 none (o + 1) (a + 1) w = r at ih
              show a ≤ (if hr b n r.2.1 r.2.2 = nI 41 then r.2.1 + 1 else r.2.1) ∧ (a ≤ n → (if hr b n r.2.1 r.2.2 = nI 41 then r.2.1 + 1 else r.2.1) ≤ n)
              by_cases h5 : hr b n r.2.1 r.2.2 = nI 41
              · rw [if_pos h5]
                have hin2 := hr_in (b := b) (n := n) (a := r.2.1) (w := r.2.2) (fun q => by rw [q] at h5; exact absurd h5 (by decide +kernel))
                exact ⟨by omega, fun _ => by omega⟩
              · rw [if_neg h5]
                exact ⟨by omega, fun _ => ih.2 (by omega)⟩
            · rw [if_neg h4]
              exact ⟨Nat.le_refl _, id⟩
    · rw [if_neg hL]
      have h1 := rd_le b n use e f (L + 1) none o a w
      have h2 := rd_le b n use e f L (some (rd b n use e f (L + 1) none o a w).1) o (rd b n use e f (L + 1) none o a w).2.1 (rd b n use e f (L + 1) none o a w).2.2
      exact ⟨Nat.le_trans h1.1 h2.1, fun h => h2.2 (h1.2 h)⟩
  | f + 1, L, some x, o, a, w => by
    unfold rd
    by_cases hs : 0 < L ∧ stn (hr b n a w) = L
    · rw [if_pos hs]
      have hin := hr_in (b := b) (n := n) (a := a) (w := w) (fun q => by rw [q, stn_m1] at hs; omega)
      have h1 := rd_le b n use e f (L + 1) none o (a + 1) w
      by_cases h3 : L = 3
      · rw [if_pos h3]
        exact ⟨by show a ≤ (rd b n use e f (L + 1) none o (a + 1) w).2.1; omega, fun _ => h1.2 (by omega)⟩
      · rw [if_neg h3]
        have h2 := rd_le b n use e f L (some (rdJ (hr b n a w) x (rd b n use e f (L + 1) none o (a + 1) w).1)) o (rd b n use e f (L + 1) none o (a + 1) w).2.1 (rd b n use e f (L + 1) none o (a + 1) w).2.2
        exact ⟨by omega, fun _ => h2.2 (h1.2 (by omega))⟩
    · rw [if_neg hs]
      exact ⟨Nat.le_refl _, id⟩
