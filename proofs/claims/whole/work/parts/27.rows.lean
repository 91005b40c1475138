/-! rows: where a book stands, and books that move -/
theorem c_placeOf_l (C : am_H) (t : Nat) (ht : t = 9 ∨ t = 23) (x : Int32) (M : am_M) (nb i : Nat) (hn : M t 7 = nI nb) (hnb : nb ≤ 6) (hi : i < nb) (he : M (t + 5) i = x) (hl : ∀ j, j < i → M (t + 5) j ≠ x) : ∀ k j, j + k = i → am_lim C (am_R i8_placeOf) (am_tx i8_placeOf) 2 [.ref t, .int x, .int (nI j)] [] M = some (some (.int (nI i)), M)
  | 0, j, h => by
    have : j = i := by omega
    subst this
    rw [sg8_placeOf_2 C t ht]
    simp (disch := omega) only [false_or, nle9, nI_dec9, nI_add, pk_mul, pk_sub, nI_clamp, nI_in9, nI_pos9, nI_lt9, nI_le9, nI_eq9, nI_eq09, nI_le09, am_k_m1, if_true, if_false, ite_not, Classical.not_not, hn, he]
    rw [if_pos hi]
  | k + 1, j, h => by
    have hj : j < nb := by omega
    rw [sg8_placeOf_2 C t ht]
    simp (disch := omega) only [false_or, nle9, nI_dec9, nI_add, pk_mul, pk_sub, nI_clamp, nI_in9, nI_pos9, nI_lt9, nI_le9, nI_eq9, nI_eq09, nI_le09, am_k_m1, if_true, if_false, ite_not, Classical.not_not, hn]
    rw [if_pos hj, if_neg (hl j (by omega))]
    exact c_placeOf_l C t ht x M nb i hn hnb hi he hl k (j + 1) (by omega)
theorem c_placeOf (d : Nat) (t : Nat) (ht : t = 9 ∨ t = 23) (x : Int32) (M : am_M) (nb i : Nat) (hn : M t 7 = nI nb) (hnb : nb ≤ 6) (hi : i < nb) (he : M (t + 5) i = x) (hl : ∀ j, j < i → M (t + 5) j ≠ x) : am_call (d + 1) i8_placeOf [.ref t, .int x] M = some (some (.int (nI i)), M) := by
  rw [ec8_placeOf _ t ht]
  exact c_placeOf_l _ t ht x M nb i hn hnb hi he hl i 0 (by omega)
theorem m_placeOf_l (C : am_H) (x : Int32) (M : am_M) (i : Nat) (hi : i < 6) (he : M 69 (56 + i) = x) (hl : ∀ j, j < i → M 69 (56 + j) ≠ x) : ∀ k j, j + k = i → am_lim C (am_R i12_placeOf) (am_tx i12_placeOf) 2 [.ref 68, .int x, .int (nI j)] [] M = some (some (.int (nI i)), M)
  | 0, j, h => by
    have : j = i := by omega
    subst this
    rw [sg12_placeOf_2]
    simp (disch := omega) only [false_or, nle9, nI_dec9, nI_add, pk_mul, pk_sub, nI_clamp, nI_in9, nI_pos9, nI_lt9, nI_le9, nI_eq9, nI_eq09, nI_le09, am_k_m1, if_true, if_false, ite_not, Classical.not_not, he]
  | k + 1, j, h => by
    rw [sg12_placeOf_2]
    simp (disch := omega) only [false_or, nle9, nI_dec9, nI_add, pk_mul, pk_sub, nI_clamp, nI_in9, nI_pos9, nI_lt9, nI_le9, nI_eq9, nI_eq09, nI_le09, am_k_m1, if_true, if_false, ite_not, Classical.not_not]
    rw [if_neg (hl j (by omega))]
    exact m_placeOf_l C x M i hi he hl k (j + 1) (by omega)
theorem m_placeOf (d : Nat) (x : Int32) (M : am_M) (i : Nat) (hi : i < 6) (he : M 69 (56 + i) = x) (hl : ∀ j, j < i → M 69 (56 + j) ≠ x) : am_call (d + 1) i12_placeOf [.ref 68, .int x] M = some (some (.int (nI i)), M) := by
  rw [ec12_placeOf]
  exact m_placeOf_l _ x M i hi he hl i 0 (by omega)
/-- the row r, the one at f gone to p -/
def mvr (r : Nat → Int32) (f p i : Nat) : Int32 := if i = p then r f else if f ≤ i ∧ i < p then r (i + 1) else if p < i ∧ i ≤ f then r (i - 1) else r i
def mvA (r : Nat → Int32) (f j i : Nat) : Int32 := if f ≤ i ∧ i < j then r (i + 1) else r i
def mvB (r : Nat → Int32) (f j i : Nat) : Int32 := if j < i ∧ i ≤ f then r (i - 1) else r i
theorem c_move_a (C : am_H) (t : Nat) (ht : t = 9 ∨ t = 23) (x : Int32) (M : am_M) (r : Nat → Int32) (f p : Nat) (hf : f < 6) (hp : p < 6) : ∀ k j, j + k = max f p → f ≤ j → am_lim C (am_R i8_moveBook) (am_tx i8_moveBook) 10 [.ref t, .int (nI f), .int (nI p), .int x, .int (nI j)] [] (am_setc M (t + 5) (mvA r f j)) = am_lim C (am_R i8_moveBook) (am_tx i8_moveBook) 41 [.ref t, .int (nI f), .int (nI p), .int x, .int (nI f)] [] (am_setc M (t + 5) (mvA r f (max f p)))
  | 0, j, h, hfj => by
    rw [sg8_moveBook_10 C t ht]
    simp (disch := omega) only [false_or, nle9, nI_dec9, nI_add, pk_mul, pk_sub, nI_clamp, nI_in9, nI_pos9, nI_lt9, nI_le9, nI_eq9, nI_eq09, nI_le09, am_k_m1, if_true, if_false, ite_not, Classical.not_not]
    rw [if_neg (by omega), show j = max f p by omega]
  | k + 1, j, h, hfj => by
    rw [sg8_moveBook_10 C t ht]
    simp (disch := omega) only [false_or, nle9, nI_dec9, nI_add, pk_mul, pk_sub, nI_clamp, nI_in9, nI_pos9, nI_lt9, nI_le9, nI_eq9, nI_eq09, nI_le09, am_k_m1, if_true, if_false, ite_not, Classical.not_not]
    rw [if_pos (by omega), up_sc, stc_eq, ← c_move_a C t ht x M r f p hf hp k (j + 1) (by omega) (by omega)]
    have e : upd (mvA r f j) j (mvA r f j (j + 1)) = mvA r f (j + 1) := by
      funext i
      by_cases hi : i = j
      · subst hi
        rw [upd_eq]
        unfold mvA
        rw [if_neg (by omega), if_pos (by omega)]
      · rw [upd_ne hi]
        unfold mvA
        by_cases h1 : f ≤ i ∧ i < j
        · rw [if_pos h1, if_pos (by omega)]
        · rw [if_neg h1, if_neg (by omega)]
    rw [e]
theorem c_move_b (C : am_H) (t : Nat) (ht : t = 9 ∨ t = 23) (x : Int32) (M : am_M) (r : Nat → Int32) (f p : Nat) (hf : f < 6) (hp : p < 6) : ∀ k j, p + k = max j p → j ≤ f → (p < f → p ≤ j) → (f ≤ p → j = f) → am_lim C (am_R i8_moveBook) (am_tx i8_moveBook) 41 [.ref t, .int (nI f), .int (nI p), .int x, .int (nI j)] [] (am_setc M (t + 5) (mvB r f j)) = some (none, am_setc M (t + 5) (upd (mvB r f (min f p)) p x))
  | 0, j, h, hjf, hpj, hfp => by
    rw [sg8_moveBook_41 C t ht]
    simp (disch := omega) only [false_or, nle9, nI_dec9, nI_add, pk_mul, pk_sub, nI_clamp, nI_in9, nI_pos9, nI_lt9, nI_le9, nI_eq9, nI_eq09, nI_le09, am_k_m1, if_true, if_false, ite_not, Classical.not_not, am_k_m1]
    rw [if_pos (by omega), up_sc]
    have e : mvB r f j = mvB r f (min f p) := by
      funext i
      unfold mvB
      by_cases h1 : j < i ∧ i ≤ f
      · rw [if_pos h1, if_pos (by omega)]
      · rw [if_neg h1, if_neg (by omega)]
    rw [e]
  | k + 1, j, h, hjf, hpj, hfp => by
    rw [sg8_moveBook_41 C t ht]
    simp (disch := omega) only [false_or, nle9, nI_dec9, nI_add, pk_mul, pk_sub, nI_clamp, nI_in9, nI_pos9, nI_lt9, nI_le9, nI_eq9, nI_eq09, nI_le09, am_k_m1, if_true, if_false, ite_not, Classical.not_not, am_k_m1]
    rw [up_sc, stc_eq, ← c_move_b C t ht x M r f p hf hp k (j - 1) (by omega) (by omega) (by omega) (by omega)]
    have e : upd (mvB r f j) j (mvB r f j (j - 1)) = mvB r f (j - 1) := by
      funext i
      by_cases hi : i = j
      · subst hi
        rw [upd_eq]
        unfold mvB
        rw [if_neg (by omega), if_pos (by omega)]
      · rw [upd_ne hi]
        unfold mvB
        by_cases h1 : j < i ∧ i ≤ f
        · rw [if_pos h1, if_pos (by omega)]
        · rw [if_neg h1, if_neg (by omega)]
    rw [e]
theorem c_moveBook (d : Nat) (t : Nat) (ht : t = 9 ∨ t = 23) (M : am_M) (f p : Nat) (hf : f < 6) (hp : p < 6) : am_call (d + 1) i8_moveBook [.ref t, .int (nI f), .int (nI p)] M = some (none, am_setc M (t + 5) (mvr (M (t + 5)) f p)) := by
  rw [ec8_moveBook _ t ht]
  simp (disch := omega) only [false_or, nle9, nI_dec9, nI_add, pk_mul, pk_sub, nI_clamp, nI_in9, nI_pos9, nI_lt9, nI_le9, nI_eq9, nI_eq09, nI_le09, am_k_m1, if_true, if_false, ite_not, Classical.not_not]
  have h1 := c_move_a (am_call d) t ht (M (t + 5) f) M (M (t + 5)) f p hf hp (max f p - f) f (by omega) (by omega)
  have e1 : mvA (M (t + 5)) f f = M (t + 5) := by
    funext i
    unfold mvA
    rw [if_neg (by omega)]
  rw [e1, stc_self] at h1
  rw [h1]
  have h2 := c_move_b (am_call d) t ht (M (t + 5) f) M (mvA (M (t + 5)) f (max f p)) f p hf hp (max f p - p) f (by omega) (by omega) (by omega) (by omega)
  have e2 : mvB (mvA (M (t + 5)) f (max f p)) f f = mvA (M (t + 5)) f (max f p) := by
    funext i
    unfold mvB
    rw [if_neg (by omega)]
  rw [e2] at h2
  rw [h2]
  have e3 : upd (mvB (mvA (M (t + 5)) f (max f p)) f (min f p)) p (M (t + 5) f) = mvr (M (t + 5)) f p := by
    funext i
    by_cases hi : i = p
    · subst hi
      rw [upd_eq]
      unfold mvr
      rw [if_pos rfl]
    · rw [upd_ne hi]
      unfold mvr mvB mvA
      rw [if_neg hi]
      by_cases h3 : min f p < i ∧ i ≤ f
      · rw [if_pos h3, if_neg (by omega), if_neg (by omega), if_pos (by omega)]
      · rw [if_neg h3]
        by_cases h4 : f ≤ i ∧ i < max f p
        · rw [if_pos h4, if_pos (by omega)]
        · rw [if_neg h4, if_neg (by omega), if_neg (by omega)]
  rw [e3]
