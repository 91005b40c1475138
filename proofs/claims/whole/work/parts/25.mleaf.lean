/-! THE REFERENCE, its small methods (cells 68 ..) -/
theorem m_in (d : Nat) (a b c : Int64) (M : am_M) : am_call (d + 1) i12_in [.long a, .long b, .long c] M = some (some (.int (bi (b.toInt ≤ a.toInt ∧ a.toInt ≤ c.toInt))), M) := by
  rw [ec12_in]
  simp only [lgc_lt, lgc_le, i64_lt, i64_le]
  by_cases h1 : a.toInt < b.toInt
  · rw [if_pos h1, bi_f _ (by omega)]
  · rw [if_neg h1]
    by_cases h2 : a.toInt ≤ c.toInt
    · rw [if_pos h2, bi_t _ (by omega)]
    · rw [if_neg h2, bi_f _ (by omega)]
theorem m_isBook (d : Nat) (b : Int32) (M : am_M) (nb : Nat) (h : M 69 1 = nI nb) (hn : nb ≤ 6) : am_call (d + 2) i12_isBook [.ref 68, .int b] M = some (some (.int (bi (0 ≤ b.toInt ∧ b.toInt < nb))), M) := by
  rw [ec12_isBook, m_in]
  simp only [Option.bind_some, Option.toList_some, Option.toList_none, List.cons_append, List.nil_append, bi_eq0, bi_eq1, bi_nem, if_true, if_false, ite_not, Classical.not_not, sg12_isBook_15]
  refine bi_out ?_
  rw [h, Int32.toInt_toInt64, Int32.toInt_toInt64, lN_toInt (by omega), pk_sub_toInt (by omega) (by omega)]
  omega
theorem m_isPage (d : Nat) (b : Int32) (M : am_M) : am_call (d + 2) i12_isPage [.int b] M = some (some (.int (bi (0 ≤ b.toInt ∧ b.toInt < 6))), M) := by
  rw [ec12_isPage, m_in]
  simp only [Option.bind_some, Option.toList_some, Option.toList_none, List.cons_append, List.nil_append, bi_eq0, bi_eq1, bi_nem, if_true, if_false, ite_not, Classical.not_not, sg12_isPage_9]
  refine bi_out ?_
  rw [Int32.toInt_toInt64, lN_toInt (by omega), lN_toInt (by omega)]
  omega
theorem m_isSaid (d : Nat) (b : Int32) (M : am_M) : am_call (d + 2) i12_isSaid [.int b] M = some (some (.int (bi (0 ≤ b.toInt ∧ b.toInt < 100))), M) := by
  rw [ec12_isSaid, m_in]
  simp only [Option.bind_some, Option.toList_some, Option.toList_none, List.cons_append, List.nil_append, bi_eq0, bi_eq1, bi_nem, if_true, if_false, ite_not, Classical.not_not, sg12_isSaid_9]
  refine bi_out ?_
  rw [Int32.toInt_toInt64, lN_toInt (by omega), lN_toInt (by omega)]
  omega
theorem m_isMind (d : Nat) (b : Int32) (M : am_M) : am_call (d + 2) i12_isMind [.int b] M = some (some (.int (bi (0 ≤ b.toInt ∧ b.toInt < 70))), M) := by
  rw [ec12_isMind, m_in]
  simp only [Option.bind_some, Option.toList_some, Option.toList_none, List.cons_append, List.nil_append, bi_eq0, bi_eq1, bi_nem, if_true, if_false, ite_not, Classical.not_not, sg12_isMind_9]
  refine bi_out ?_
  rw [Int32.toInt_toInt64, lN_toInt (by omega), lN_toInt (by omega)]
  omega
theorem m_isDigit (d : Nat) (b : Int32) (M : am_M) : am_call (d + 2) i12_isDigit [.int b] M = some (some (.int (bi (48 ≤ b.toInt ∧ b.toInt < 58))), M) := by
  rw [ec12_isDigit, m_in]
  simp only [Option.bind_some, Option.toList_some, Option.toList_none, List.cons_append, List.nil_append, bi_eq0, bi_eq1, bi_nem, if_true, if_false, ite_not, Classical.not_not, sg12_isDigit_11]
  refine bi_out ?_
  rw [Int32.toInt_toInt64, lN_toInt (by omega), lN_toInt (by omega)]
  omega
theorem m_isSheet (d : Nat) (b : Int32) (M : am_M) : am_call (d + 2) i12_isSheet [.int b] M = some (some (.int (bi (0 ≤ b.toInt ∧ b.toInt < 4))), M) := by
  rw [ec12_isSheet, m_in]
  simp only [Option.bind_some, Option.toList_some, Option.toList_none, List.cons_append, List.nil_append, bi_eq0, bi_eq1, bi_nem, if_true, if_false, ite_not, Classical.not_not, sg12_isSheet_9]
  refine bi_out ?_
  rw [Int32.toInt_toInt64, lN_toInt (by omega), lN_toInt (by omega)]
  omega
theorem m_spot (d : Nat) (b w : Nat) (M : am_M) : am_call (d + 1) i12_spot [.int (nI b), .int (nI w)] M = some (some (.int (nI (2 + 9 * b + w))), M) := by
  rw [ec12_spot]
  simp only [nI_add, pk_mul]
theorem m_its (d : Nat) (b w : Nat) (M : am_M) (h : 2 + 9 * b + w < 237) : am_call (d + 2) i12_its [.ref 68, .int (nI b), .int (nI w)] M = some (some (.int (M 69 (2 + 9 * b + w))), M) := by
  rw [ec12_its, m_spot]
  simp (disch := omega) only [Option.bind_some, Option.toList_some, Option.toList_none, List.cons_append, List.nil_append, bi_eq0, bi_eq1, bi_nem, if_true, if_false, ite_not, Classical.not_not, false_or, nle9, nI_dec9, nI_add, pk_mul, pk_sub, nI_clamp, nI_in9, nI_pos9, nI_lt9, nI_le9, nI_eq9, nI_eq09, nI_le09, am_k_m1, if_true, if_false, ite_not, Classical.not_not, sg12_its_9]
theorem m_pageAt (d : Nat) (b p : Nat) (M : am_M) (h : 5 + 9 * b + p < 237) : am_call (d + 2) i12_pageAt [.ref 68, .int (nI b), .int (nI p)] M = some (some (.int (M 69 (2 + 9 * b + (3 + p)))), M) := by
  rw [ec12_pageAt]
  simp (disch := omega) only [Option.bind_some, Option.toList_some, Option.toList_none, List.cons_append, List.nil_append, bi_eq0, bi_eq1, bi_nem, if_true, if_false, ite_not, Classical.not_not, false_or, nle9, nI_dec9, nI_add, pk_mul, pk_sub, nI_clamp, nI_in9, nI_pos9, nI_lt9, nI_le9, nI_eq9, nI_eq09, nI_le09, am_k_m1, if_true, if_false, ite_not, Classical.not_not, m_spot, sg12_pageAt_11]
theorem m_becomes (d : Nat) (k : Nat) (v : Int32) (M : am_M) (h : k < 237) : am_call (d + 1) i12_becomes [.ref 68, .int (nI k), .int v] M = some (some (.int (M 69 k)), am_up M 69 k v) := by
  rw [ec12_becomes]
  simp (disch := omega) only [Option.bind_some, Option.toList_some, Option.toList_none, List.cons_append, List.nil_append, bi_eq0, bi_eq1, bi_nem, if_true, if_false, ite_not, Classical.not_not, false_or, nle9, nI_dec9, nI_add, pk_mul, pk_sub, nI_clamp, nI_in9, nI_pos9, nI_lt9, nI_le9, nI_eq9, nI_eq09, nI_le09, am_k_m1, if_true, if_false, ite_not, Classical.not_not]
theorem m_held (d : Nat) (v lo hi : Int32) (M : am_M) : am_call (d + 1) i12_held [.int v, .int lo, .int hi] M = some (some (.int (if v < lo then lo else if v ≤ hi then v else hi)), M) := by
  rw [ec12_held]
  split
  · rfl
  · split <;> rfl
/-- an error is counted -/
theorem m_errs (d k : Nat) (M : am_M) (hk : k < 6) : am_call (d + 1) i12_errs [.ref 68, .int (am_k (-1000000000) - nI k)] M = some (some (.int (am_k (-1000000000) - nI k)), am_up M 72 k (M 72 k + nI 1)) := by
  have e : am_k (-1000000000) - (am_k (-1000000000) - nI k) = nI k := by
    rw [i32_eq, Int32.toInt_sub, Int32.toInt_sub, am_k_int (by omega) (by omega), nI_toInt (by omega)]
    simp only [Int.bmod_def]
    omega
  rw [ec12_errs]
  rw [sg12_errs_8, e]
  simp (disch := omega) only [Option.bind_some, Option.toList_some, Option.toList_none, List.cons_append, List.nil_append, bi_eq0, bi_eq1, bi_nem, if_true, if_false, ite_not, Classical.not_not, false_or, nle9, nI_dec9, nI_add, pk_mul, pk_sub, nI_clamp, nI_in9, nI_pos9, nI_lt9, nI_le9, nI_eq9, nI_eq09, nI_le09, am_k_m1, if_true, if_false, ite_not, Classical.not_not]
theorem m_poems (d : Nat) (o w m : Int32) (M : am_M) : am_call (d + 2) i12_poems [.ref 68, .int o, .int w, .int m] M = some (some (.int (if w = o then (if w + m < nI 0 then nI 0 else if w + m ≤ nI 99 then w + m else nI 99) else w)), M) := by
  rw [ec12_poems]
  split
  · simp only [m_held, Option.bind_some, Option.toList_some, Option.toList_none, List.cons_append, List.nil_append, bi_eq0, bi_eq1, bi_nem, if_true, if_false, ite_not, Classical.not_not, sg12_poems_14]
  · rfl
