/-! MERGED and SENSED by the class; what a kind gives and takes, on both sides -/
theorem c_isThere (d x : Nat) (hx : x = 33 ∨ x = 37) (M : am_M) (n : Nat) (h : M x 1 = nI n) (hn : n ≤ 50) : am_call (d + 1) i10_isThere [.ref x] M = some (some (.int (if n = 0 then nI 0 else nI 1)), M) := by
  rw [ec10_isThere _ x hx, h]
  simp (disch := omega) only [false_or, nle9, nI_dec9, nI_add, pk_mul, pk_sub, nI_clamp, nI_in9, nI_pos9, nI_lt9, nI_le9, nI_eq9, nI_eq09, nI_le09, am_k_m1, if_true, if_false, ite_not, Classical.not_not]
  by_cases c : n = 0
  · rw [if_pos c, if_pos c]
  · rw [if_neg c, if_neg c]
theorem hd99_c (w : Int32) : (if nI 0 < (if w < nI 99 then w else nI 99) then (if w < nI 99 then w else nI 99) else nI 0) = hd99 w := by
  have z0 : (nI 0).toInt = 0 := nI_toInt (by omega)
  have z9 : (nI 99).toInt = 99 := nI_toInt (by omega)
  unfold hd99
  by_cases h1 : w < nI 0
  · have h1' := (i32_lt _ _).mp h1
    rw [if_pos (show w < nI 99 from (i32_lt _ _).mpr (by omega)), if_neg (fun q => by have := (i32_lt _ _).mp q; omega), if_pos h1]
  · have h1' : ¬ w.toInt < (nI 0).toInt := fun q => h1 ((i32_lt _ _).mpr q)
    rw [if_neg h1]
    by_cases h2 : w < nI 99
    · have h2' := (i32_lt _ _).mp h2
      rw [if_pos h2, if_pos (show w ≤ nI 99 from (i32_le _ _).mpr (by omega))]
      by_cases h3 : nI 0 < w
      · rw [if_pos h3]
      · have h3' : ¬ (nI 0).toInt < w.toInt := fun q => h3 ((i32_lt _ _).mpr q)
        rw [if_neg h3]
        exact (i32_eq _ _).mpr (by omega)
    · have h2' : ¬ w.toInt < (nI 99).toInt := fun q => h2 ((i32_lt _ _).mpr q)
      rw [if_neg h2, if_pos (show nI 0 < nI 99 from (i32_lt _ _).mpr (by omega))]
      by_cases h3 : w ≤ nI 99
      · have h3' := (i32_le _ _).mp h3
        rw [if_pos h3]
        exact (i32_eq _ _).mpr (by omega)
      · rw [if_neg h3]
theorem hd99_n (n : Nat) (h : n < 2147483648) : hd99 (nI n) = nI (min n 99) := by
  unfold hd99
  simp (disch := omega) only [nI_lt9, nI_le9]
  rw [if_neg (by omega)]
  by_cases c : n ≤ 99
  · rw [if_pos c, Nat.min_eq_left c]
  · rw [if_neg c, Nat.min_eq_right (by omega)]
theorem hd99_r (w : Int32) : ∃ n, n ≤ 99 ∧ hd99 w = nI n := by
  have z0 : (nI 0).toInt = 0 := nI_toInt (by omega)
  have z9 : (nI 99).toInt = 99 := nI_toInt (by omega)
  unfold hd99
  by_cases h1 : w < nI 0
  · rw [if_pos h1]; exact ⟨0, by omega, rfl⟩
  · rw [if_neg h1]
    have h1' : ¬ w.toInt < (nI 0).toInt := fun q => h1 ((i32_lt _ _).mpr q)
    by_cases h3 : w ≤ nI 99
    · have h3' := (i32_le _ _).mp h3
      rw [if_pos h3]
      obtain ⟨j, a, b⟩ := i32_of (x := w) (n := 100) (by omega) (by omega) (by omega)
      exact ⟨j, by omega, b⟩
    · rw [if_neg h3]; exact ⟨99, by omega, rfl⟩
theorem mgS_r (S : Nat → Int32) (x y z : Int32) : ∃ n, n ≤ 99 ∧ mgS S x y z = nI n := by
  unfold mgS
  exact hd99_r _
theorem c_merged (d : Nat) (M : am_M) (S : Nat → Int32) (x y z : Int32) (h : TR (M 33) (M 34) S 0) : ∃ M', am_call (d + 3) i1_merged [.ref 30, .int x, .int y, .int z] M = some (some (.int (mgS S x y z)), M') ∧ ∀ a, a ≠ 35 → M' a = M a := by
  rw [ec1_merged]
  rcases h with ⟨h1, h2⟩ | ⟨n, code, hn, h1, hg, h2, h0, hl, hc⟩
  · change S 65 = -1 at h1
    have hneg : S 65 < 0 := by rw [h1]; decide +kernel
    refine ⟨M, ?_, fun _ _ => rfl⟩
    rw [c_isThere _ 33 (by omega) M 0 h2 (by omega)]
    simp only [Option.bind_some, Option.toList_some, Option.toList_none, List.cons_append, List.nil_append, bi_eq0, bi_eq1, bi_nem, if_true, if_false, ite_not, Classical.not_not, sg1_merged_7]
    rw [if_pos nI_0, hd99_c]
    unfold mgS
    rw [if_pos hneg]
  · obtain ⟨M', a1, a2⟩ := c_worth d 33 (by omega) x y z M S 0 n code hn h1 hg h2 hl hc
    change S 65 = nI n at h1
    have hneg : ¬ S 65 < 0 := by rw [h1]; exact nI_pos (by omega)
    refine ⟨M', ?_, a2⟩
    rw [c_isThere _ 33 (by omega) M code.length h2 hl]
    simp only [Option.bind_some, Option.toList_some, Option.toList_none, List.cons_append, List.nil_append, bi_eq0, bi_eq1, bi_nem, if_true, if_false, ite_not, Classical.not_not, sg1_merged_7]
    rw [if_neg (show ¬ code.length = 0 by omega), if_neg (by decide +kernel), a1]
    simp only [Option.bind_some, Option.toList_some, Option.toList_none, List.cons_append, List.nil_append, bi_eq0, bi_eq1, bi_nem, if_true, if_false, ite_not, Classical.not_not, sg1_merged_20]
    rw [hd99_c]
    unfold mgS
    rw [if_neg hneg]
theorem c_sensed (d : Nat) (M : am_M) (S : Nat → Int32) (x y z : Int32) (h : TR (M 37) (M 38) S 1) : ∃ M', am_call (d + 3) i1_sensed [.ref 30, .int x, .int y, .int z] M = some (some (.int (snS S x y z)), M') ∧ ∀ a, a ≠ 39 → M' a = M a := by
  rw [ec1_sensed]
  rcases h with ⟨h1, h2⟩ | ⟨n, code, hn, h1, hg, h2, h0, hl, hc⟩
  · change S 66 = -1 at h1
    have hneg : S 66 < 0 := by rw [h1]; decide +kernel
    refine ⟨M, ?_, fun _ _ => rfl⟩
    rw [c_isThere _ 37 (by omega) M 0 h2 (by omega)]
    simp only [Option.bind_some, Option.toList_some, Option.toList_none, List.cons_append, List.nil_append, bi_eq0, bi_eq1, bi_nem, if_true, if_false, ite_not, Classical.not_not, sg1_sensed_7]
    rw [if_pos nI_0]
    unfold snS
    rw [if_pos hneg]
    by_cases c : x < y
    · rw [if_pos c, if_pos c]
    · rw [if_neg c, if_neg c]
  · obtain ⟨M', a1, a2⟩ := c_worth d 37 (by omega) x y z M S 1 n code hn h1 hg h2 hl hc
    change S 66 = nI n at h1
    have hneg : ¬ S 66 < 0 := by rw [h1]; exact nI_pos (by omega)
    refine ⟨M', ?_, a2⟩
    rw [c_isThere _ 37 (by omega) M code.length h2 hl]
    simp only [Option.bind_some, Option.toList_some, Option.toList_none, List.cons_append, List.nil_append, bi_eq0, bi_eq1, bi_nem, if_true, if_false, ite_not, Classical.not_not, sg1_sensed_7]
    rw [if_neg (show ¬ code.length = 0 by omega), if_neg (by decide +kernel), a1]
    simp only [Option.bind_some, Option.toList_some, Option.toList_none, List.cons_append, List.nil_append, bi_eq0, bi_eq1, bi_nem, if_true, if_false, ite_not, Classical.not_not, sg1_sensed_20]
    unfold snS
    rw [if_neg hneg]
def gv (k m v : Int32) : Int32 := if k = nI 2 then nI 99 - v else if k = nI 3 then (if v < nI 50 then nI 0 else v) else if k = nI 5 then hd99 (nI 99 - v + m) else if k = nI 6 then hd99 ((if v < nI 50 then nI 0 else v) + m) else v
def pm (o w m : Int32) : Int32 := if w = o then hd99 (w + m) else w
def hdd (v lo hi : Int32) : Int32 := if v < lo then lo else if v ≤ hi then v else hi
def tk (k m o w g : Int32) : Int32 := if k = nI 1 then (o + w) / nI 2 else if k = nI 2 then pm o w m else if k = nI 4 then hdd ((o + w) / nI 2) (o - m) (o + m) else if k = nI 5 then (if g - g / nI 2 * nI 2 = nI 1 then pm o w m else o) else if k = nI 6 then (if w < nI 10 * m then o else w) else w
theorem m_gives (d b : Nat) (v : Int32) (M : am_M) (hb : b < 6) : am_call (d + 3) i12_gives [.ref 68, .int (nI b), .int v] M = some (some (.int (gv (M 69 (2 + 9 * b)) (M 69 (2 + 9 * b + 1)) v)), M) := by
  rw [ec12_gives, m_its _ b 1 M (by omega)]
  simp only [Option.bind_some, Option.toList_some, Option.toList_none, List.cons_append, List.nil_append, bi_eq0, bi_eq1, bi_nem, if_true, if_false, ite_not, Classical.not_not, sg12_gives_6]
  rw [m_its _ b 0 M (by omega)]
  simp only [Option.bind_some, Option.toList_some, Option.toList_none, List.cons_append, List.nil_append, bi_eq0, bi_eq1, bi_nem, if_true, if_false, ite_not, Classical.not_not, sg12_gives_26, Nat.add_zero]
  rw [show d + 2 = d + 1 + 1 from rfl]
  unfold gv
  generalize M 69 (2 + 9 * b) = k
  generalize M 69 (2 + 9 * b + 1) = m
  by_cases h2 : k = nI 2
  · simp only [if_pos h2]
    split <;> rfl
  · simp only [if_neg h2]
    by_cases h3 : k = nI 3
    · simp only [if_pos h3]
      split <;> rfl
    · simp only [if_neg h3]
      by_cases h5 : k = nI 5
      · subst h5
        simp (disch := omega) only [nI_eq9, Nat.reduceEqDiff, if_false, if_true, m_held, Option.bind_some, Option.toList_some, Option.toList_none, List.cons_append, List.nil_append, bi_eq0, bi_eq1, bi_nem, if_true, if_false, ite_not, Classical.not_not, sg12_gives_80]
        split <;> rfl
      · simp only [if_neg h5]
        by_cases h6 : k = nI 6
        · subst h6
          simp (disch := omega) only [nI_eq9, Nat.reduceEqDiff, if_false, if_true, m_held, Option.bind_some, Option.toList_some, Option.toList_none, List.cons_append, List.nil_append, bi_eq0, bi_eq1, bi_nem, if_true, if_false, ite_not, Classical.not_not, sg12_gives_91]
          split <;> rfl
        · simp only [if_neg h6, ite_self]
theorem m_takes0 (d b : Nat) (o w : Int32) (M : am_M) (hb : b < 6) : am_call (d + 3) i12_takes0 [.ref 68, .int (nI b), .int o, .int w] M = some (some (.int (tk (M 69 (2 + 9 * b)) (M 69 (2 + 9 * b + 1)) o w (M 69 0))), M) := by
  rw [ec12_takes0, m_its _ b 1 M (by omega)]
  simp only [Option.bind_some, Option.toList_some, Option.toList_none, List.cons_append, List.nil_append, bi_eq0, bi_eq1, bi_nem, if_true, if_false, ite_not, Classical.not_not, sg12_takes0_6]
  rw [m_its _ b 0 M (by omega)]
  simp only [Option.bind_some, Option.toList_some, Option.toList_none, List.cons_append, List.nil_append, bi_eq0, bi_eq1, bi_nem, if_true, if_false, ite_not, Classical.not_not, sg12_takes0_14, Nat.add_zero]
  have hp : ∀ m, am_call (d + 2) i12_poems [.ref 68, .int o, .int w, .int m] M = some (some (.int (pm o w m)), M) := fun m => m_poems d o w m M
  unfold tk
  generalize M 69 (2 + 9 * b) = k
  generalize M 69 (2 + 9 * b + 1) = m
  generalize M 69 0 = g
  by_cases h1 : k = nI 1
  · simp only [if_pos h1]
  · simp only [if_neg h1]
    by_cases h2 : k = nI 2
    · simp only [if_pos h2, hp, Option.bind_some, Option.toList_some, Option.toList_none, List.cons_append, List.nil_append, bi_eq0, bi_eq1, bi_nem, if_true, if_false, ite_not, Classical.not_not, sg12_takes0_66]
    · simp only [if_neg h2]
      by_cases h4 : k = nI 4
      · subst h4
        rw [show d + 2 = d + 1 + 1 from rfl]
        simp (disch := omega) only [nI_eq9, Nat.reduceEqDiff, if_false, if_true, m_held, Option.bind_some, Option.toList_some, Option.toList_none, List.cons_append, List.nil_append, bi_eq0, bi_eq1, bi_nem, if_true, if_false, ite_not, Classical.not_not, sg12_takes0_83]
        rfl
      · simp only [if_neg h4]
        by_cases h5 : k = nI 5
        · subst h5
          simp (disch := omega) only [nI_eq9, Nat.reduceEqDiff, if_false, if_true, hp, Option.bind_some, Option.toList_some, Option.toList_none, List.cons_append, List.nil_append, bi_eq0, bi_eq1, bi_nem, if_true, if_false, ite_not, Classical.not_not, sg12_takes0_104]
          split <;> rfl
        · simp only [if_neg h5]
          by_cases h6 : k = nI 6
          · subst h6
            simp (disch := omega) only [nI_eq9, Nat.reduceEqDiff, if_false, if_true]
            split <;> rfl
          · simp only [if_neg h6, ite_self]
theorem gr_n (v : Nat) (h : v < 2147483648) : (if nI v < nI 50 then nI 0 else nI v) = nI (if v < 50 then 0 else v) := by
  simp (disch := omega) only [nI_lt9]
  split <;> rfl
theorem mn99 (n : Nat) (h : n < 2147483648) : (if nI n < nI 99 then nI n else nI 99) = nI (min n 99) := by
  simp (disch := omega) only [nI_lt9]
  by_cases c : n < 99
  · rw [if_pos c, Nat.min_eq_left (by omega)]
  · rw [if_neg c, Nat.min_eq_right (by omega)]
theorem gv_0 {k m v : Int32} (h : k = nI 0 ∨ k = nI 1 ∨ k = nI 4) : gv k m v = v := by
  unfold gv
  rcases h with rfl | rfl | rfl <;> simp (disch := omega) only [nI_eq9, Nat.reduceEqDiff, if_false]
theorem gv_2 {m v : Int32} : gv (nI 2) m v = nI 99 - v := if_pos rfl
theorem gv_3 {m v : Int32} : gv (nI 3) m v = if v < nI 50 then nI 0 else v := by
  unfold gv
  simp (disch := omega) only [nI_eq9, Nat.reduceEqDiff, if_false, if_true]
theorem gv_5 {m v : Int32} : gv (nI 5) m v = hd99 (nI 99 - v + m) := by
  unfold gv
  simp (disch := omega) only [nI_eq9, Nat.reduceEqDiff, if_false, if_true]
theorem gv_6 {m v : Int32} : gv (nI 6) m v = hd99 ((if v < nI 50 then nI 0 else v) + m) := by
  unfold gv
  simp (disch := omega) only [nI_eq9, Nat.reduceEqDiff, if_false, if_true]
theorem k_cases {k : Nat} (h : k ≤ 6) : k = 0 ∨ k = 1 ∨ k = 2 ∨ k = 3 ∨ k = 4 ∨ k = 5 ∨ k = 6 := by omega
theorem gv_r {k m v : Nat} (hk : k ≤ 6) (hm : m ≤ 9) (hv : v ≤ 99) : ∃ n, n ≤ 99 ∧ gv (nI k) (nI m) (nI v) = nI n := by
  rcases k_cases hk with rfl | rfl | rfl | rfl | rfl | rfl | rfl
  · exact ⟨v, hv, gv_0 (by simp)⟩
  · exact ⟨v, hv, gv_0 (by simp)⟩
  · exact ⟨99 - v, by omega, by rw [gv_2, pk_sub (by omega)]⟩
  · refine ⟨if v < 50 then 0 else v, ?_, by rw [gv_3, gr_n _ (by omega)]⟩
    split <;> omega
  · exact ⟨v, hv, gv_0 (by simp)⟩
  · obtain ⟨n, a, b⟩ := hd99_r (nI 99 - nI v + nI m)
    exact ⟨n, a, by rw [gv_5, b]⟩
  · obtain ⟨n, a, b⟩ := hd99_r ((if nI v < nI 50 then nI 0 else nI v) + nI m)
    exact ⟨n, a, by rw [gv_6, b]⟩
theorem cg_0 (d m v : Nat) (M : am_M) (hm : m ≤ 9) (hv : v ≤ 99) : am_call (d + 2) i5_given [.ref 2, .int (nI v), .int (nI m)] M = some (some (.int (gv (nI 0) (nI m) (nI v))), M) := by
  rw [gv_0 (by simp)]
  exact ec5_given _ _ _ _ _
theorem cg_1 (d m v : Nat) (M : am_M) (hm : m ≤ 9) (hv : v ≤ 99) : am_call (d + 2) i5_given [.ref 3, .int (nI v), .int (nI m)] M = some (some (.int (gv (nI 1) (nI m) (nI v))), M) := by
  rw [gv_0 (by simp)]
  exact ec5_given _ _ _ _ _
theorem cg_2 (d m v : Nat) (M : am_M) (hm : m ≤ 9) (hv : v ≤ 99) : am_call (d + 2) i7_given [.ref 4, .int (nI v), .int (nI m)] M = some (some (.int (gv (nI 2) (nI m) (nI v))), M) := by
  rw [gv_2]
  exact ec7_given _ _ _ _ _
theorem cg_3 (d m v : Nat) (M : am_M) (hm : m ≤ 9) (hv : v ≤ 99) : am_call (d + 2) i6_given [.ref 5, .int (nI v), .int (nI m)] M = some (some (.int (gv (nI 3) (nI m) (nI v))), M) := by
  rw [gv_3, ec6_given]
  split <;> rfl
theorem cg_4 (d m v : Nat) (M : am_M) (hm : m ≤ 9) (hv : v ≤ 99) : am_call (d + 2) i5_given [.ref 6, .int (nI v), .int (nI m)] M = some (some (.int (gv (nI 4) (nI m) (nI v))), M) := by
  rw [gv_0 (by simp)]
  exact ec5_given _ _ _ _ _
theorem cg_5 (d m v : Nat) (M : am_M) (hm : m ≤ 9) (hv : v ≤ 99) : am_call (d + 2) i4_given [.ref 7, .int (nI v), .int (nI m)] M = some (some (.int (gv (nI 5) (nI m) (nI v))), M) := by
  rw [gv_5, ec4_given_k7, ec7_given]
  simp only [Option.bind_some, Option.toList_some, Option.toList_none, List.cons_append, List.nil_append, bi_eq0, bi_eq1, bi_nem, if_true, if_false, ite_not, Classical.not_not, sg4_given_k7_8]
  rw [pk_sub (by omega), nI_add, mn99 _ (by omega), hd99_n _ (by omega)]
theorem cg_6 (d m v : Nat) (M : am_M) (hm : m ≤ 9) (hv : v ≤ 99) : am_call (d + 2) i0_given [.ref 8, .int (nI v), .int (nI m)] M = some (some (.int (gv (nI 6) (nI m) (nI v))), M) := by
  rw [gv_6, gr_n _ (by omega), nI_add, ec0_given_k8, ec6_given]
  have h : (if v < 50 then 0 else v) ≤ 99 := by split <;> omega
  have e : (if nI v < nI 50 then some (some (Value.int (nI 0)), M) else some (some (Value.int (nI v)), M)) = some (some (Value.int (nI (if v < 50 then 0 else v))), M) := by
    rw [← gr_n _ (by omega)]
    split <;> rfl
  rw [e]
  simp only [Option.bind_some, Option.toList_some, Option.toList_none, List.cons_append, List.nil_append, bi_eq0, bi_eq1, bi_nem, if_true, if_false, ite_not, Classical.not_not, sg0_given_k8_8]
  rw [nI_add, mn99 _ (by omega), hd99_n _ (by omega)]
theorem c_given (d : Nat) (t : Nat) (ht : t = 9 ∨ t = 23) (b k m v : Nat) (M : am_M) (hb : b < 6) (hk : k ≤ 6) (hm : m ≤ 9) (hv : v ≤ 99) (h1 : M (t + 1) b = nI k) (h2 : M (t + 2) b = nI m) : am_call (d + 3) i8_given [.ref t, .int (nI b), .int (nI v)] M = some (some (.int (gv (nI k) (nI m) (nI v))), M) := by
  have hK := c_kindOf (d + 1) t ht b k M hb hk h1
  rcases k_cases hk with rfl | rfl | rfl | rfl | rfl | rfl | rfl
  · rw [ec8_given_k2 _ t ht, hK]
    simp only [Option.bind_some, Option.toList_some, Option.toList_none, List.cons_append, List.nil_append, bi_eq0, bi_eq1, bi_nem, if_true, if_false, ite_not, Classical.not_not, sg8_given_k2_5 _ t ht]
    simp (disch := omega) only [false_or, nle9, nI_dec9, nI_add, pk_mul, pk_sub, nI_clamp, nI_in9, nI_pos9, nI_lt9, nI_le9, nI_eq9, nI_eq09, nI_le09, am_k_m1, if_true, if_false, ite_not, Classical.not_not]
    rw [h2, cg_0 d m v M hm hv]
    simp only [Option.bind_some, Option.toList_some, Option.toList_none, List.cons_append, List.nil_append, bi_eq0, bi_eq1, bi_nem, if_true, if_false, ite_not, Classical.not_not, sg8_given_k2_15 _ t ht]
  · rw [ec8_given_k3 _ t ht, hK]
    simp only [Option.bind_some, Option.toList_some, Option.toList_none, List.cons_append, List.nil_append, bi_eq0, bi_eq1, bi_nem, if_true, if_false, ite_not, Classical.not_not, sg8_given_k3_5 _ t ht]
    simp (disch := omega) only [false_or, nle9, nI_dec9, nI_add, pk_mul, pk_sub, nI_clamp, nI_in9, nI_pos9, nI_lt9, nI_le9, nI_eq9, nI_eq09, nI_le09, am_k_m1, if_true, if_false, ite_not, Classical.not_not]
    rw [h2, cg_1 d m v M hm hv]
    simp only [Option.bind_some, Option.toList_some, Option.toList_none, List.cons_append, List.nil_append, bi_eq0, bi_eq1, bi_nem, if_true, if_false, ite_not, Classical.not_not, sg8_given_k3_15 _ t ht]
  · rw [ec8_given_k4 _ t ht, hK]
    simp only [Option.bind_some, Option.toList_some, Option.toList_none, List.cons_append, List.nil_append, bi_eq0, bi_eq1, bi_nem, if_true, if_false, ite_not, Classical.not_not, sg8_given_k4_5 _ t ht]
    simp (disch := omega) only [false_or, nle9, nI_dec9, nI_add, pk_mul, pk_sub, nI_clamp, nI_in9, nI_pos9, nI_lt9, nI_le9, nI_eq9, nI_eq09, nI_le09, am_k_m1, if_true, if_false, ite_not, Classical.not_not]
    rw [h2, cg_2 d m v M hm hv]
    simp only [Option.bind_some, Option.toList_some, Option.toList_none, List.cons_append, List.nil_append, bi_eq0, bi_eq1, bi_nem, if_true, if_false, ite_not, Classical.not_not, sg8_given_k4_15 _ t ht]
  · rw [ec8_given_k5 _ t ht, hK]
    simp only [Option.bind_some, Option.toList_some, Option.toList_none, List.cons_append, List.nil_append, bi_eq0, bi_eq1, bi_nem, if_true, if_false, ite_not, Classical.not_not, sg8_given_k5_5 _ t ht]
    simp (disch := omega) only [false_or, nle9, nI_dec9, nI_add, pk_mul, pk_sub, nI_clamp, nI_in9, nI_pos9, nI_lt9, nI_le9, nI_eq9, nI_eq09, nI_le09, am_k_m1, if_true, if_false, ite_not, Classical.not_not]
    rw [h2, cg_3 d m v M hm hv]
    simp only [Option.bind_some, Option.toList_some, Option.toList_none, List.cons_append, List.nil_append, bi_eq0, bi_eq1, bi_nem, if_true, if_false, ite_not, Classical.not_not, sg8_given_k5_15 _ t ht]
  · rw [ec8_given_k6 _ t ht, hK]
    simp only [Option.bind_some, Option.toList_some, Option.toList_none, List.cons_append, List.nil_append, bi_eq0, bi_eq1, bi_nem, if_true, if_false, ite_not, Classical.not_not, sg8_given_k6_5 _ t ht]
    simp (disch := omega) only [false_or, nle9, nI_dec9, nI_add, pk_mul, pk_sub, nI_clamp, nI_in9, nI_pos9, nI_lt9, nI_le9, nI_eq9, nI_eq09, nI_le09, am_k_m1, if_true, if_false, ite_not, Classical.not_not]
    rw [h2, cg_4 d m v M hm hv]
    simp only [Option.bind_some, Option.toList_some, Option.toList_none, List.cons_append, List.nil_append, bi_eq0, bi_eq1, bi_nem, if_true, if_false, ite_not, Classical.not_not, sg8_given_k6_15 _ t ht]
  · rw [ec8_given_k7 _ t ht, hK]
    simp only [Option.bind_some, Option.toList_some, Option.toList_none, List.cons_append, List.nil_append, bi_eq0, bi_eq1, bi_nem, if_true, if_false, ite_not, Classical.not_not, sg8_given_k7_5 _ t ht]
    simp (disch := omega) only [false_or, nle9, nI_dec9, nI_add, pk_mul, pk_sub, nI_clamp, nI_in9, nI_pos9, nI_lt9, nI_le9, nI_eq9, nI_eq09, nI_le09, am_k_m1, if_true, if_false, ite_not, Classical.not_not]
    rw [h2, cg_5 d m v M hm hv]
    simp only [Option.bind_some, Option.toList_some, Option.toList_none, List.cons_append, List.nil_append, bi_eq0, bi_eq1, bi_nem, if_true, if_false, ite_not, Classical.not_not, sg8_given_k7_15 _ t ht]
  · rw [ec8_given_k8 _ t ht, hK]
    simp only [Option.bind_some, Option.toList_some, Option.toList_none, List.cons_append, List.nil_append, bi_eq0, bi_eq1, bi_nem, if_true, if_false, ite_not, Classical.not_not, sg8_given_k8_5 _ t ht]
    simp (disch := omega) only [false_or, nle9, nI_dec9, nI_add, pk_mul, pk_sub, nI_clamp, nI_in9, nI_pos9, nI_lt9, nI_le9, nI_eq9, nI_eq09, nI_le09, am_k_m1, if_true, if_false, ite_not, Classical.not_not]
    rw [h2, cg_6 d m v M hm hv]
    simp only [Option.bind_some, Option.toList_some, Option.toList_none, List.cons_append, List.nil_append, bi_eq0, bi_eq1, bi_nem, if_true, if_false, ite_not, Classical.not_not, sg8_given_k8_15 _ t ht]
