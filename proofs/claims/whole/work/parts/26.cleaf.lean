/-! THE CLASS, its small methods (cells 0 ..) -/
theorem c_isWithin (d : Nat) (v lo hi : Int32) (M : am_M) : am_call (d + 1) i11_isWithin [.int v, .int lo, .int hi] M = some (some (.int (bi (lo.toInt ≤ v.toInt ∧ v.toInt ≤ hi.toInt))), M) := by
  rw [ec11_isWithin]
  simp only [i32_lt, i32_le]
  by_cases h1 : v.toInt < lo.toInt
  · rw [if_pos h1, bi_f _ (by omega)]
  · rw [if_neg h1]
    by_cases h2 : v.toInt ≤ hi.toInt
    · rw [if_pos h2, bi_t _ (by omega)]
    · rw [if_neg h2, bi_f _ (by omega)]
theorem c_isSaid (d : Nat) (b : Int32) (M : am_M) : am_call (d + 2) i11_isSaid [.int b] M = some (some (.int (bi (0 ≤ b.toInt ∧ b.toInt < 100))), M) := by
  rw [ec11_isSaid, c_isWithin]
  simp only [Option.bind_some, Option.toList_some, Option.toList_none, List.cons_append, List.nil_append, bi_eq0, bi_eq1, bi_nem, if_true, if_false, ite_not, Classical.not_not, sg11_isSaid_7]
  refine bi_out ?_
  rw [nI_toInt (by omega), nI_toInt (by omega)]
  omega
theorem c_isSheet (d : Nat) (b : Int32) (M : am_M) : am_call (d + 2) i11_isSheet [.int b] M = some (some (.int (bi (0 ≤ b.toInt ∧ b.toInt < 4))), M) := by
  rw [ec11_isSheet, c_isWithin]
  simp only [Option.bind_some, Option.toList_some, Option.toList_none, List.cons_append, List.nil_append, bi_eq0, bi_eq1, bi_nem, if_true, if_false, ite_not, Classical.not_not, sg11_isSheet_6]
  refine bi_out ?_
  rw [nI_toInt (by omega), nI_toInt (by omega)]
  omega
theorem c_isBook (d : Nat) (b : Int32) (M : am_M) (nb : Nat) (h : M 9 7 = nI nb) (hn : nb ≤ 6) : am_call (d + 2) i11_isBook [.ref 0, .int b] M = some (some (.int (bi (0 ≤ b.toInt ∧ b.toInt < nb))), M) := by
  rw [ec11_isBook, c_isWithin]
  simp only [Option.bind_some, Option.toList_some, Option.toList_none, List.cons_append, List.nil_append, bi_eq0, bi_eq1, bi_nem, if_true, if_false, ite_not, Classical.not_not, sg11_isBook_14]
  refine bi_out ?_
  rw [h, nI_toInt (by omega), pk_sub_toInt (by omega) (by omega)]
  omega
theorem c_isPlace (d : Nat) (b : Int32) (M : am_M) (nb : Nat) (h : M 9 7 = nI nb) (hn : nb ≤ 6) : am_call (d + 2) i11_isPlace [.ref 0, .int b] M = some (some (.int (bi (0 ≤ b.toInt ∧ b.toInt < nb))), M) := by
  rw [ec11_isPlace, c_isWithin]
  simp only [Option.bind_some, Option.toList_some, Option.toList_none, List.cons_append, List.nil_append, bi_eq0, bi_eq1, bi_nem, if_true, if_false, ite_not, Classical.not_not, sg11_isPlace_14]
  refine bi_out ?_
  rw [h, nI_toInt (by omega), pk_sub_toInt (by omega) (by omega)]
  omega
theorem c_isPageOfBook (d : Nat) (b p : Int32) (M : am_M) (nb : Nat) (h : M 9 7 = nI nb) (hn : nb ≤ 6) : am_call (d + 3) i11_isPageOfBook [.ref 0, .int b, .int p] M = some (some (.int (bi ((0 ≤ b.toInt ∧ b.toInt < nb) ∧ 0 ≤ p.toInt ∧ p.toInt < 6))), M) := by
  rw [ec11_isPageOfBook, c_isBook _ _ _ nb h hn]
  simp only [Option.bind_some, Option.toList_some, Option.toList_none, List.cons_append, List.nil_append, bi_eq0, bi_eq1, bi_nem, if_true, if_false, ite_not, Classical.not_not, sg11_isPageOfBook_5]
  by_cases h1 : 0 ≤ b.toInt ∧ b.toInt < nb
  · rw [if_pos h1, c_isWithin]
    simp only [Option.bind_some, Option.toList_some, Option.toList_none, List.cons_append, List.nil_append, bi_eq0, bi_eq1, bi_nem, if_true, if_false, ite_not, Classical.not_not, sg11_isPageOfBook_14]
    rw [nI_toInt (by omega), nI_toInt (by omega)]
    by_cases h2 : 0 ≤ p.toInt ∧ p.toInt < 6
    · rw [if_pos (by omega), bi_t _ ⟨h1, h2⟩]
    · rw [if_neg (by omega), bi_f _ (fun q => h2 q.2)]
  · rw [if_neg h1, bi_f _ (fun q => h1 q.1)]
theorem c_isRowQuestion (d : Nat) (w : Int32) (M : am_M) (nb : Nat) (h : M 9 7 = nI nb) (hn : nb ≤ 6) : am_call (d + 3) i11_isRowQuestion [.ref 0, .int w] M = some (some (.int (bi (w = -1 ∨ (0 ≤ w.toInt ∧ w.toInt < nb)))), M) := by
  rw [ec11_isRowQuestion, am_k_m1]
  by_cases h1 : w = -1
  · rw [if_pos h1, bi_t _ (Or.inl h1)]
  · rw [if_neg h1, c_isPlace _ _ _ nb h hn]
    simp only [Option.bind_some, Option.toList_some, Option.toList_none, List.cons_append, List.nil_append, bi_eq0, bi_eq1, bi_nem, if_true, if_false, ite_not, Classical.not_not, sg11_isRowQuestion_10]
    by_cases h2 : 0 ≤ w.toInt ∧ w.toInt < nb
    · rw [if_pos h2, bi_t _ (Or.inr h2)]
    · rw [if_neg h2, bi_f _ (fun q => q.elim h1 h2)]
theorem c_isMissing (d h : Nat) (M : am_M) (hh : h < 4) : am_call (d + 1) i11_isMissing [.ref 0, .int (nI h)] M = some (some (.int (bi (M 60 h = 0))), M) := by
  rw [ec11_isMissing]
  simp (disch := omega) only [false_or, nle9, nI_dec9, nI_add, pk_mul, pk_sub, nI_clamp, nI_in9, nI_pos9, nI_lt9, nI_le9, nI_eq9, nI_eq09, nI_le09, am_k_m1, if_true, if_false, ite_not, Classical.not_not]
  by_cases h1 : M 60 h = 0
  · rw [if_pos h1, bi_t _ h1]
  · rw [if_neg h1, bi_f _ h1]
theorem c_error (d k : Nat) (M : am_M) (hk : k < 6) : am_call (d + 1) i11_error [.ref 0, .int (nI k)] M = some (some (.int (am_k (-1000000000) - nI k)), am_up M 67 k (M 67 k + nI 1)) := by
  rw [ec11_error]
  simp (disch := omega) only [false_or, nle9, nI_dec9, nI_add, pk_mul, pk_sub, nI_clamp, nI_in9, nI_pos9, nI_lt9, nI_le9, nI_eq9, nI_eq09, nI_le09, am_k_m1, if_true, if_false, ite_not, Classical.not_not]
theorem c_said (d : Nat) (t : Nat) (ht : t = 9 ∨ t = 23) (b p : Nat) (M : am_M) (h : b * 6 + p < 36) : am_call (d + 1) i8_said [.ref t, .int (nI b), .int (nI p)] M = some (some (.int (M (t + 4) (b * 6 + p))), M) := by
  rw [ec8_said _ t ht]
  simp (disch := omega) only [false_or, nle9, nI_dec9, nI_add, pk_mul, pk_sub, nI_clamp, nI_in9, nI_pos9, nI_lt9, nI_le9, nI_eq9, nI_eq09, nI_le09, am_k_m1, if_true, if_false, ite_not, Classical.not_not]
theorem c_kindOf (d : Nat) (t : Nat) (ht : t = 9 ∨ t = 23) (b k : Nat) (M : am_M) (hb : b < 6) (hk : k ≤ 6) (h : M (t + 1) b = nI k) : am_call (d + 1) i8_kindOf [.ref t, .int (nI b)] M = some (some (.ref (2 + k)), M) := by
  rw [ec8_kindOf _ t ht]
  simp (disch := omega) only [false_or, nle9, nI_dec9, nI_add, pk_mul, pk_sub, nI_clamp, nI_in9, nI_pos9, nI_lt9, nI_le9, nI_eq9, nI_eq09, nI_le09, am_k_m1, if_true, if_false, ite_not, Classical.not_not, h]
  have : ∀ k, k ≤ 6 → ([2, 3, 4, 5, 6, 7, 8] : List Nat).getD k 0 = 2 + k := by decide
  rw [this k hk]
