/-! the reference: a book goes to a place -/
def rowU (S : Nat → Int32) (n : Nat) (g : Nat → Int32) : Nat → Int32 := fun j => if 56 ≤ j ∧ j < 56 + n then g (j - 56) else S j
theorem rowU_lo {S : Nat → Int32} {n : Nat} {g : Nat → Int32} {j : Nat} (h : j < 56) : rowU S n g j = S j := if_neg (by omega)
theorem rowU_at {S : Nat → Int32} {n : Nat} {g : Nat → Int32} {i : Nat} (h : i < n) : rowU S n g (56 + i) = g i := by
  unfold rowU
  rw [if_pos (by omega), Nat.add_sub_cancel_left]
theorem rowU_upd {S : Nat → Int32} {n : Nat} {g : Nat → Int32} {i : Nat} {x : Int32} (h : i < n) : upd (rowU S n g) (56 + i) x = rowU S n (upd g i x) := by
  funext j
  by_cases e : j = 56 + i
  · subst e
    rw [upd_eq, rowU_at h, upd_eq]
  · rw [upd_ne e]
    unfold rowU
    by_cases c : 56 ≤ j ∧ j < 56 + n
    · rw [if_pos c, if_pos c, upd_ne (by omega)]
    · rw [if_neg c, if_neg c]
theorem rowU_self {S : Nat → Int32} {n : Nat} : rowU S n (fun i => S (56 + i)) = S := by
  funext j
  unfold rowU
  by_cases c : 56 ≤ j ∧ j < 56 + n
  · rw [if_pos c]
    show S (56 + (j - 56)) = S j
    rw [show 56 + (j - 56) = j by omega]
  · rw [if_neg c]
theorem rowU_congr {S : Nat → Int32} {n : Nat} {g h : Nat → Int32} (e : ∀ i, i < n → g i = h i) : rowU S n g = rowU S n h := by
  funext j
  unfold rowU
  by_cases c : 56 ≤ j ∧ j < 56 + n
  · rw [if_pos c, if_pos c, e _ (by omega)]
  · rw [if_neg c, if_neg c]
theorem m_goes_a (C : am_H) (x : Int32) (M : am_M) (S r : Nat → Int32) (n f p : Nat) (hS : S 1 = nI n) (hn : n ≤ 6) (hf : f < n) (hp : p < n) : ∀ k j, j + k = n - 1 → f ≤ j → am_lim C (am_R i12_goes) (am_tx i12_goes) 9 [.ref 68, .int x, .int (nI p), .int (nI f), .int (nI j)] [] (am_setc M 69 (rowU S n (mvA r f j))) = am_lim C (am_R i12_goes) (am_tx i12_goes) 60 [.ref 68, .int x, .int (nI p), .int (nI f), .int (nI (n - 1))] [] (am_setc M 69 (rowU S n (mvA r f (n - 1))))
  | 0, j, h, hfj => by
    have : j = n - 1 := by omega
    subst this
    rw [sg12_goes_9]
    simp (disch := omega) only [false_or, nle9, nI_dec9, nI_add, pk_mul, pk_sub, nI_clamp, nI_in9, nI_pos9, nI_lt9, nI_le9, nI_eq9, nI_eq09, nI_le09, am_k_m1, if_true, if_false, ite_not, Classical.not_not, stc_eq, rowU_lo, hS]
    rw [if_neg (by omega)]
  | k + 1, j, h, hfj => by
    rw [sg12_goes_9]
    simp (disch := omega) only [false_or, nle9, nI_dec9, nI_add, pk_mul, pk_sub, nI_clamp, nI_in9, nI_pos9, nI_lt9, nI_le9, nI_eq9, nI_eq09, nI_le09, am_k_m1, if_true, if_false, ite_not, Classical.not_not, stc_eq, rowU_lo, hS]
    rw [if_pos (by omega), up_sc, Nat.add_assoc, rowU_at (by omega), rowU_upd (by omega), ← m_goes_a C x M S r n f p hS hn hf hp k (j + 1) (by omega) (by omega)]
    have e : upd (mvA r f j) j (mvA r f j (j + 1)) = mvA r f (j + 1) := by
      funext i
      by_cases hi : i = j
      · subst hi
        rw [upd_eq]
        unfold mvA
        rw [if_neg (by omega), if_pos (by omega)]
      · rw [upd_ne hi]
        unfold mvA
        by_cases h1 : f ≤ i ∧ i < j
        · rw [if_pos h1, if_pos (by omega)]
        · rw [if_neg h1, if_neg (by omega)]
    rw [e]
theorem m_goes_b (C : am_H) (x : Int32) (M : am_M) (S r : Nat → Int32) (n f p : Nat) (hn : n ≤ 6) (hf : f < n) (hp : p < n) : ∀ k j, p + k = j → j ≤ n - 1 → am_lim C (am_R i12_goes) (am_tx i12_goes) 60 [.ref 68, .int x, .int (nI p), .int (nI f), .int (nI j)] [] (am_setc M 69 (rowU S n (mvB r (n - 1) j))) = some (some (.int (nI f)), am_setc M 69 (rowU S n (upd (mvB r (n - 1) p) p x)))
  | 0, j, h, hj => by
    have : j = p := by omega
    subst this
    rw [sg12_goes_60]
    simp (disch := omega) only [false_or, nle9, nI_dec9, nI_add, pk_mul, pk_sub, nI_clamp, nI_in9, nI_pos9, nI_lt9, nI_le9, nI_eq9, nI_eq09, nI_le09, am_k_m1, if_true, if_false, ite_not, Classical.not_not]
    rw [if_pos (by omega), up_sc, rowU_upd (by omega)]
  | k + 1, j, h, hj => by
    rw [sg12_goes_60]
    simp (disch := omega) only [false_or, nle9, nI_dec9, nI_add, pk_mul, pk_sub, nI_clamp, nI_in9, nI_pos9, nI_lt9, nI_le9, nI_eq9, nI_eq09, nI_le09, am_k_m1, if_true, if_false, ite_not, Classical.not_not]
    rw [up_sc, stc_eq, show 56 + j - 1 = 56 + (j - 1) by omega, rowU_at (by omega), rowU_upd (by omega), ← m_goes_b C x M S r n f p hn hf hp k (j - 1) (by omega) (by omega)]
    have e : upd (mvB r (n - 1) j) j (mvB r (n - 1) j (j - 1)) = mvB r (n - 1) (j - 1) := by
      funext i
      by_cases hi : i = j
      · subst hi
        rw [upd_eq]
        unfold mvB
        rw [if_neg (by omega), if_pos (by omega)]
      · rw [upd_ne hi]
        unfold mvB
        by_cases h1 : j < i ∧ i ≤ n - 1
        · rw [if_pos h1, if_pos (by omega)]
        · rw [if_neg h1, if_neg (by omega)]
    rw [e]
theorem m_goes (d : Nat) (M : am_M) (n f p : Nat) (x : Int32) (hS : M 69 1 = nI n) (hn : n ≤ 6) (hf : f < n) (hp : p < n) (he : M 69 (56 + f) = x) (hl : ∀ j, j < f → M 69 (56 + j) ≠ x) : am_call (d + 2) i12_goes [.ref 68, .int x, .int (nI p)] M = some (some (.int (nI f)), am_setc M 69 (rowU (M 69) n (mvr (fun i => M 69 (56 + i)) f p))) := by
  rw [ec12_goes, m_placeOf _ x M f (by omega) he hl]
  simp only [Option.bind_some, Option.toList_some, Option.toList_none, List.cons_append, List.nil_append, bi_eq0, bi_eq1, bi_nem, if_true, if_false, ite_not, Classical.not_not, sg12_goes_5]
  have h1 := m_goes_a (am_call (d + 1)) x M (M 69) (fun i => M 69 (56 + i)) n f p hS hn hf hp (n - 1 - f) f (by omega) (by omega)
  have e1 : mvA (fun i => M 69 (56 + i)) f f = (fun i => M 69 (56 + i)) := by
    funext i
    unfold mvA
    rw [if_neg (by omega)]
  rw [e1, rowU_self, stc_self] at h1
  rw [h1]
  have h2 := m_goes_b (am_call (d + 1)) x M (M 69) (mvA (fun i => M 69 (56 + i)) f (n - 1)) n f p hn hf hp (n - 1 - p) (n - 1) (by omega) (by omega)
  have e2 : mvB (mvA (fun i => M 69 (56 + i)) f (n - 1)) (n - 1) (n - 1) = mvA (fun i => M 69 (56 + i)) f (n - 1) := by
    funext i
    unfold mvB
    rw [if_neg (by omega)]
  rw [e2] at h2
  rw [h2]
  congr 3
  refine rowU_congr (fun i hi => ?_)
  by_cases c : i = p
  · subst c
    rw [upd_eq]
    unfold mvr
    rw [if_pos rfl]
    exact he.symm
  · rw [upd_ne c]
    unfold mvr mvB mvA
    rw [if_neg c]
    by_cases h3 : p < i ∧ i ≤ n - 1
    · rw [if_pos h3]
      by_cases h4 : f ≤ i - 1 ∧ i - 1 < n - 1
      · rw [if_pos h4, if_neg (by omega), if_neg (by omega), show i - 1 + 1 = i by omega]
      · rw [if_neg h4, if_neg (by omega), if_pos (by omega)]
    · rw [if_neg h3]
      by_cases h4 : f ≤ i ∧ i < n - 1
      · rw [if_pos h4, if_pos (by omega)]
      · rw [if_neg h4, if_neg (by omega), if_neg (by omega)]
