/-! TEXTS: the reference's methods are that reader -/
def prs (M : am_M) (a o : Nat) (w : Bool) : am_M := am_setc M 68 (upd (upd (upd (M 68) 7 (nI a)) 8 (nI o)) 13 (bif w then nI 1 else nI 0))
theorem prs_7 {M : am_M} {a o : Nat} {w : Bool} : prs M a o w 68 7 = nI a := by
  unfold prs
  rw [stc_eq, upd_ne (by decide), upd_ne (by decide), upd_eq]
theorem prs_8 {M : am_M} {a o : Nat} {w : Bool} : prs M a o w 68 8 = nI o := by
  unfold prs
  rw [stc_eq, upd_ne (by decide), upd_eq]
theorem prs_13 {M : am_M} {a o : Nat} {w : Bool} : prs M a o w 68 13 = (bif w then nI 1 else nI 0) := by
  unfold prs
  rw [stc_eq, upd_eq]
theorem prs_o {M : am_M} {a o : Nat} {w : Bool} {j : Nat} (h : j ≠ 7 ∧ j ≠ 8 ∧ j ≠ 13) : prs M a o w 68 j = M 68 j := by
  unfold prs
  rw [stc_eq, upd_ne h.2.2, upd_ne h.2.1, upd_ne h.1]
theorem prs_c {M : am_M} {a o : Nat} {w : Bool} {j : Nat} (h : j ≠ 68) : prs M a o w j = M j := by
  unfold prs
  rw [stc_ne h]
theorem prs_u7 {M : am_M} {a o a' : Nat} {w : Bool} : am_up (prs M a o w) 68 7 (nI a') = prs M a' o w := by
  unfold prs
  rw [up_sc]
  congr 1
  funext j
  by_cases h : j = 7
  · subst h
    rw [upd_eq, upd_ne (by decide), upd_ne (by decide), upd_eq]
  · rw [upd_ne h]
    unfold upd
    simp only [h, if_false]
theorem prs_u8 {M : am_M} {a o o' : Nat} {w : Bool} : am_up (prs M a o w) 68 8 (nI o') = prs M a o' w := by
  unfold prs
  rw [up_sc]
  congr 1
  funext j
  by_cases h : j = 8
  · subst h
    rw [upd_eq, upd_ne (by decide), upd_eq]
  · rw [upd_ne h]
    unfold upd
    simp only [h, if_false]
theorem prs_u13 {M : am_M} {a o : Nat} {w : Bool} (w' : Bool) : am_up (prs M a o w) 68 13 (bif w' then nI 1 else nI 0) = prs M a o w' := by
  unfold prs
  rw [up_sc]
  congr 1
  funext j
  by_cases h : j = 13
  · subst h
    rw [upd_eq, upd_eq]
  · rw [upd_ne h, upd_ne h, upd_ne h]
/-- what the reader is given -/
def prC (M : am_M) (b : Nat → Int32) (fs n use : Nat) (e : Nat → Int32) : Prop := M 68 5 = nI fs ∧ M 68 6 = nI n ∧ fs + n ≤ 237 ∧ M 68 9 = nI use ∧ use ≤ 1 ∧ M 68 10 = e 1 ∧ M 68 11 = e 2 ∧ M 68 12 = e 3 ∧ ∀ i, i < n → M 69 (fs + i) = b i
section MTX
variable {M : am_M} {b : Nat → Int32} {fs n use : Nat} {e : Nat → Int32}
theorem t_here (hC : prC M b fs n use e) (d a o : Nat) (w : Bool) (ha : a ≤ n) : am_call (d + 1) i12_here [.ref 68] (prs M a o w) = some (some (.int (hr b n a w)), prs M a o w) := by
  obtain ⟨h5, h6, hfs, h9, hu, h10, h11, h12, hb⟩ := hC
  rw [ec12_here, prs_7, prs_o (j := 6) (by decide), prs_13, prs_o (j := 5) (by decide), prs_c (j := 69) (by decide), h5, h6]
  simp (disch := omega) only [false_or, nle9, nI_dec9, nI_add, pk_mul, pk_sub, nI_clamp, nI_in9, nI_pos9, nI_lt9, nI_le9, nI_eq9, nI_eq09, nI_le09, am_k_m1, if_true, if_false, ite_not, Classical.not_not]
  by_cases c : a < n
  · rw [if_pos c]
    cases w with
    | true =>
      rw [if_neg (by decide), hr_m1 (by simp)]
    | false =>
      rw [if_pos (by decide), hb a c]
      unfold hr
      rw [if_pos ⟨c, rfl⟩]
  · rw [if_neg c, hr_m1 (fun q => c q.1)]
theorem t_takes (hC : prC M b fs n use e) (d a o : Nat) (w : Bool) (ha : a ≤ n) (c : Int32) : am_call (d + 2) i12_takes [.ref 68, .int c] (prs M a o w) = some (some (.int (bi (hr b n a w = c))), prs M (if hr b n a w = c then a + 1 else a) o w) := by
  rw [ec12_takes, t_here hC _ _ _ _ ha]
  simp only [Option.bind_some, Option.toList_some, Option.toList_none, List.cons_append, List.nil_append, bi_eq0, bi_eq1, bi_nem, if_true, if_false, ite_not, Classical.not_not, sg12_takes_4]
  by_cases h : hr b n a w = c
  · rw [if_pos h, if_pos h, bi_t _ h, prs_7, nI_add, prs_u7]
  · rw [if_neg h, if_neg h, bi_f _ h, prs_7, nI_add, prs_u7, Nat.add_zero]
theorem t_name (hC : prC M b fs n use e) (d a o : Nat) (w : Bool) (c : Int32) : am_call (d + 1) i12_name [.ref 68, .int c] (prs M a o w) = some (some (.int (nI (nmx use c))), prs M a o w) := by
  obtain ⟨h5, h6, hfs, h9, hu, h10, h11, h12, hb⟩ := hC
  rw [ec12_name, prs_o (j := 9) (by decide), h9]
  simp (disch := omega) only [false_or, nle9, nI_dec9, nI_add, pk_mul, pk_sub, nI_clamp, nI_in9, nI_pos9, nI_lt9, nI_le9, nI_eq9, nI_eq09, nI_le09, am_k_m1, if_true, if_false, ite_not, Classical.not_not]
  unfold nmx
  split
  · split
    · rfl
    · split
      · rfl
      · split <;> rfl
  · split
    · rfl
    · split
      · rfl
      · split <;> rfl
theorem t_digits (hC : prC M b fs n use e) (d : Nat) (o : Nat) (w : Bool) (c : Int32) : ∀ (k j : Nat) (v : Int32) (a : Nat), j + k = 4 → a ≤ n → am_lim (am_call (d + 2)) (am_R i12_single) (am_tx i12_single) 16 [.ref 68, .int c, .int v, .int (nI j)] [] (prs M a o w) = some (some (.int (rdD b n w k v a).1), prs M (rdD b n w k v a).2 o w)
  | 0, j, v, a, h, ha => by
    rw [sg12_single_16]
    simp (disch := omega) only [false_or, nle9, nI_dec9, nI_add, pk_mul, pk_sub, nI_clamp, nI_in9, nI_pos9, nI_lt9, nI_le9, nI_eq9, nI_eq09, nI_le09, am_k_m1, if_true, if_false, ite_not, Classical.not_not]
    rw [if_neg (by omega)]
    rfl
  | k + 1, j, v, a, h, ha => by
    rw [sg12_single_16]
    simp (disch := omega) only [false_or, nle9, nI_dec9, nI_add, pk_mul, pk_sub, nI_clamp, nI_in9, nI_pos9, nI_lt9, nI_le9, nI_eq9, nI_eq09, nI_le09, am_k_m1, if_true, if_false, ite_not, Classical.not_not]
    rw [if_pos (by omega), t_here hC _ _ _ _ ha]
    simp only [Option.bind_some, Option.toList_some, Option.toList_none, List.cons_append, List.nil_append, bi_eq0, bi_eq1, bi_nem, if_true, if_false, ite_not, Classical.not_not, sg12_single_25, m_isDigit, sg12_single_28]
    unfold rdD
    by_cases hd : 48 ≤ (hr b n a w).toInt ∧ (hr b n a w).toInt < 58
    · have hin := hr_in (fun q => dg_m1 (q ▸ hd))
      rw [if_pos hd, if_pos hd, t_here hC _ _ _ _ ha]
      simp only [Option.bind_some, Option.toList_some, Option.toList_none, List.cons_append, List.nil_append, bi_eq0, bi_eq1, bi_nem, if_true, if_false, ite_not, Classical.not_not, sg12_single_39]
      rw [prs_7, nI_add, nI_add, prs_u7]
      exact t_digits hC d o w c k (j + 1) (nI 10 * v + hr b n a w - nI 48) (a + 1) (by omega) (by omega)
    · rw [if_neg hd, if_neg hd]
end MTX
