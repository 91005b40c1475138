/-! TEXTS: the reference's methods are that reader (the methods that call one another) -/
theorem rd_none {b : Nat → Int32} {n use : Nat} {e : Nat → Int32} {f L o a : Nat} {w : Bool} (h : L ≠ 6) : rd b n use e (f + 1) L none o a w = rd b n use e f L (some (rd b n use e f (L + 1) none o a w).1) o (rd b n use e f (L + 1) none o a w).2.1 (rd b n use e f (L + 1) none o a w).2.2 := by
  conv => lhs; unfold rd
  rw [if_neg h]
theorem rd_some {b : Nat → Int32} {n use : Nat} {e : Nat → Int32} {f L o a : Nat} {w : Bool} {x : Int32 × List Int32} (h : 0 < L ∧ stn (hr b n a w) = L) (h3 : L ≠ 3) : rd b n use e (f + 1) L (some x) o a w = rd b n use e f L (some (rdJ (hr b n a w) x (rd b n use e f (L + 1) none o (a + 1) w).1)) o (rd b n use e f (L + 1) none o (a + 1) w).2.1 (rd b n use e f (L + 1) none o (a + 1) w).2.2 := by
  conv => lhs; unfold rd
  rw [if_pos h, if_neg h3]
theorem rd_some3 {b : Nat → Int32} {n use : Nat} {e : Nat → Int32} {f o a : Nat} {w : Bool} {x : Int32 × List Int32} (h : stn (hr b n a w) = 3) : rd b n use e (f + 1) 3 (some x) o a w = (rdJ (hr b n a w) x (rd b n use e f 4 none o (a + 1) w).1, (rd b n use e f 4 none o (a + 1) w).2.1, (rd b n use e f 4 none o (a + 1) w).2.2) := by
  conv => lhs; unfold rd
  rw [if_pos ⟨by decide, h⟩, if_pos rfl]
theorem rd_end {b : Nat → Int32} {n use : Nat} {e : Nat → Int32} {f L o a : Nat} {w : Bool} {x : Int32 × List Int32} (h : stn (hr b n a w) ≠ L) : rd b n use e (f + 1) L (some x) o a w = (x, a, w) := by
  conv => lhs; unfold rd
  rw [if_neg (fun q => h q.2)]
theorem nIc {a b : Nat} (h : a ≠ b) (ha : a < 2147483648) (hb : b < 2147483648) : nI a ≠ nI b := fun q => h (by rwa [nI_eq9 ha hb] at q)
theorem jn_124 (a b : Int32) : jn (nI 124) a b = (if a = 0 then (if b = 0 then nI 0 else nI 1) else nI 1) := by
  unfold jn
  simp (disch := omega) only [nI_eq9, Nat.reduceEqDiff, reduceIte, if_false, if_true, Nat.reduceLT]
theorem stn_124 : stn (nI 124) = 1 := by decide +kernel
theorem jn_38 (a b : Int32) : jn (nI 38) a b = (if a = 0 then nI 0 else if b = 0 then nI 0 else nI 1) := by
  unfold jn
  simp (disch := omega) only [nI_eq9, Nat.reduceEqDiff, reduceIte, if_false, if_true, Nat.reduceLT]
theorem stn_38 : stn (nI 38) = 2 := by decide +kernel
theorem jn_60 (a b : Int32) : jn (nI 60) a b = (if a < b then nI 1 else nI 0) := by
  unfold jn
  simp (disch := omega) only [nI_eq9, Nat.reduceEqDiff, reduceIte, if_false, if_true, Nat.reduceLT]
theorem stn_60 : stn (nI 60) = 3 := by decide +kernel
theorem jn_61 (a b : Int32) : jn (nI 61) a b = (if a = b then nI 1 else nI 0) := by
  unfold jn
  simp (disch := omega) only [nI_eq9, Nat.reduceEqDiff, reduceIte, if_false, if_true, Nat.reduceLT]
theorem stn_61 : stn (nI 61) = 3 := by decide +kernel
theorem jn_62 (a b : Int32) : jn (nI 62) a b = (if a ≤ b then nI 0 else nI 1) := by
  unfold jn
  simp (disch := omega) only [nI_eq9, Nat.reduceEqDiff, reduceIte, if_false, if_true, Nat.reduceLT]
theorem stn_62 : stn (nI 62) = 3 := by decide +kernel
theorem jn_43 (a b : Int32) : jn (nI 43) a b = a + b := by
  unfold jn
  simp (disch := omega) only [nI_eq9, Nat.reduceEqDiff, reduceIte, if_false, if_true, Nat.reduceLT]
theorem stn_43 : stn (nI 43) = 4 := by decide +kernel
theorem jn_45 (a b : Int32) : jn (nI 45) a b = a - b := by
  unfold jn
  simp (disch := omega) only [nI_eq9, Nat.reduceEqDiff, reduceIte, if_false, if_true, Nat.reduceLT]
theorem stn_45 : stn (nI 45) = 4 := by decide +kernel
theorem jn_42 (a b : Int32) : jn (nI 42) a b = a * b := by
  unfold jn
  simp (disch := omega) only [nI_eq9, Nat.reduceEqDiff, reduceIte, if_false, if_true, Nat.reduceLT]
theorem stn_42 : stn (nI 42) = 5 := by decide +kernel
theorem jn_47 (a b : Int32) : jn (nI 47) a b = (if b = 0 then nI 0 else a / b) := by
  unfold jn
  simp (disch := omega) only [nI_eq9, Nat.reduceEqDiff, reduceIte, if_false, if_true, Nat.reduceLT]
theorem stn_47 : stn (nI 47) = 5 := by decide +kernel
theorem jn_37 (a b : Int32) : jn (nI 37) a b = (if b = 0 then nI 0 else a - a / b * b) := by
  unfold jn
  simp (disch := omega) only [nI_eq9, Nat.reduceEqDiff, reduceIte, if_false, if_true, Nat.reduceLT]
theorem stn_37 : stn (nI 37) = 5 := by decide +kernel
theorem stn_is1 {c : Int32} (h : stn c = 1) : c = nI 124 := by
  unfold stn at h
  (repeat' split at h) <;> first | omega | assumption | (exact Or.inl (by assumption)) | (exact Or.inr (by assumption))
theorem stn_is2 {c : Int32} (h : stn c = 2) : c = nI 38 := by
  unfold stn at h
  (repeat' split at h) <;> first | omega | assumption | (exact Or.inl (by assumption)) | (exact Or.inr (by assumption))
theorem stn_is3 {c : Int32} (h : stn c = 3) : c = nI 60 ∨ c = nI 61 ∨ c = nI 62 := by
  unfold stn at h
  (repeat' split at h) <;> first | omega | assumption | (exact Or.inl (by assumption)) | (exact Or.inr (by assumption))
theorem stn_is4 {c : Int32} (h : stn c = 4) : c = nI 43 ∨ c = nI 45 := by
  unfold stn at h
  (repeat' split at h) <;> first | omega | assumption | (exact Or.inl (by assumption)) | (exact Or.inr (by assumption))
theorem stn_is5 {c : Int32} (h : stn c = 5) : c = nI 42 ∨ c = nI 47 ∨ c = nI 37 := by
  unfold stn at h
  (repeat' split at h) <;> first | omega | assumption | (exact Or.inl (by assumption)) | (exact Or.inr (by assumption))
section MTY
variable {M : am_M} {b : Nat → Int32} {fs n use : Nat} {e : Nat → Int32}
def tAll (M : am_M) (b : Nat → Int32) (n use : Nat) (e : Nat → Int32) (f : Nat) : Prop :=
  (∀ (d j o a : Nat) (w : Bool), o + j = 5 → a ≤ n → 16 * (n - a) + 3 ≤ f → am_call (d + 6 * j + 3) i12_single [.ref 68] (prs M a o w) = some (some (.int (rd b n use e f 6 none o a w).1.1), prs M (rd b n use e f 6 none o a w).2.1 o (rd b n use e f 6 none o a w).2.2)) ∧
  (∀ (d j o a : Nat) (w : Bool), o + j = 5 → a ≤ n → 16 * (n - a) + 5 ≤ f → am_call (d + 6 * j + 4) i12_product [.ref 68] (prs M a o w) = some (some (.int (rd b n use e f 5 none o a w).1.1), prs M (rd b n use e f 5 none o a w).2.1 o (rd b n use e f 5 none o a w).2.2)) ∧
  (∀ (d j o a : Nat) (w : Bool), o + j = 5 → a ≤ n → 16 * (n - a) + 7 ≤ f → am_call (d + 6 * j + 5) i12_sum [.ref 68] (prs M a o w) = some (some (.int (rd b n use e f 4 none o a w).1.1), prs M (rd b n use e f 4 none o a w).2.1 o (rd b n use e f 4 none o a w).2.2)) ∧
  (∀ (d j o a : Nat) (w : Bool), o + j = 5 → a ≤ n → 16 * (n - a) + 9 ≤ f → am_call (d + 6 * j + 6) i12_test [.ref 68] (prs M a o w) = some (some (.int (rd b n use e f 3 none o a w).1.1), prs M (rd b n use e f 3 none o a w).2.1 o (rd b n use e f 3 none o a w).2.2)) ∧
  (∀ (d j o a : Nat) (w : Bool), o + j = 5 → a ≤ n → 16 * (n - a) + 11 ≤ f → am_call (d + 6 * j + 7) i12_both [.ref 68] (prs M a o w) = some (some (.int (rd b n use e f 2 none o a w).1.1), prs M (rd b n use e f 2 none o a w).2.1 o (rd b n use e f 2 none o a w).2.2)) ∧
  (∀ (d j o a : Nat) (w : Bool), o + j = 5 → a ≤ n → 16 * (n - a) + 13 ≤ f → am_call (d + 6 * j + 8) i12_any [.ref 68] (prs M a o w) = some (some (.int (rd b n use e f 1 none o a w).1.1), prs M (rd b n use e f 1 none o a w).2.1 o (rd b n use e f 1 none o a w).2.2)) ∧
  (∀ (d j o a : Nat) (w : Bool) (v : Int32) (cs : List Int32) (w3 : Value), o + j = 5 → a ≤ n → 16 * (n - a) + 1 ≤ f → am_lim (am_call (d + 6 * j + 3)) (am_R i12_product) (am_tx i12_product) 10 [.ref 68, .int v, .int (hr b n a w), w3] [] (prs M a o w) = some (some (.int (rd b n use e f 5 (some (v, cs)) o a w).1.1), prs M (rd b n use e f 5 (some (v, cs)) o a w).2.1 o (rd b n use e f 5 (some (v, cs)) o a w).2.2)) ∧
  (∀ (d j o a : Nat) (w : Bool) (v : Int32) (cs : List Int32) (w3 : Value), o + j = 5 → a ≤ n → 16 * (n - a) + 1 ≤ f → am_lim (am_call (d + 6 * j + 4)) (am_R i12_sum) (am_tx i12_sum) 10 [.ref 68, .int v, .int (hr b n a w), w3] [] (prs M a o w) = some (some (.int (rd b n use e f 4 (some (v, cs)) o a w).1.1), prs M (rd b n use e f 4 (some (v, cs)) o a w).2.1 o (rd b n use e f 4 (some (v, cs)) o a w).2.2)) ∧
  (∀ (d j o a : Nat) (w : Bool) (v : Int32) (cs : List Int32) (w3 : Value), o + j = 5 → a ≤ n → 16 * (n - a) + 1 ≤ f → am_lim (am_call (d + 6 * j + 5)) (am_R i12_test) (am_tx i12_test) 9 [.ref 68, .int v, .null, .null, .null] [.int (hr b n a w)] (prs M a o w) = some (some (.int (rd b n use e f 3 (some (v, cs)) o a w).1.1), prs M (rd b n use e f 3 (some (v, cs)) o a w).2.1 o (rd b n use e f 3 (some (v, cs)) o a w).2.2)) ∧
  (∀ (d j o a : Nat) (w : Bool) (v : Int32) (cs : List Int32) (w3 : Value), o + j = 5 → a ≤ n → 16 * (n - a) + 1 ≤ f → am_lim (am_call (d + 6 * j + 6)) (am_R i12_both) (am_tx i12_both) 5 [.ref 68, .int v, w3] [] (prs M a o w) = some (some (.int (rd b n use e f 2 (some (v, cs)) o a w).1.1), prs M (rd b n use e f 2 (some (v, cs)) o a w).2.1 o (rd b n use e f 2 (some (v, cs)) o a w).2.2)) ∧
  (∀ (d j o a : Nat) (w : Bool) (v : Int32) (cs : List Int32) (w3 : Value), o + j = 5 → a ≤ n → 16 * (n - a) + 1 ≤ f → am_lim (am_call (d + 6 * j + 7)) (am_R i12_any) (am_tx i12_any) 5 [.ref 68, .int v, w3] [] (prs M a o w) = some (some (.int (rd b n use e f 1 (some (v, cs)) o a w).1.1), prs M (rd b n use e f 1 (some (v, cs)) o a w).2.1 o (rd b n use e f 1 (some (v, cs)) o a w).2.2))
theorem t_A5 (hC : prC M b fs n use e) {f : Nat} (ih : tAll M b n use e f) : ∀ (d j o a : Nat) (w : Bool), o + j = 5 → a ≤ n → 16 * (n - a) + 5 ≤ f + 1 → am_call (d + 6 * j + 4) i12_product [.ref 68] (prs M a o w) = some (some (.int (rd b n use e (f + 1) 5 none o a w).1.1), prs M (rd b n use e (f + 1) 5 none o a w).2.1 o (rd b n use e (f + 1) 5 none o a w).2.2) := by
  obtain ⟨A6, A5, A4, A3, A2, A1, B5, B4, B3, B2, B1⟩ := ih
  intro d j o a w hj ha hf
  have hle := rd_le b n use e f 6 none o a w
  rw [rd_none (by decide)]
  show am_call (d + 6 * j + 3 + 1) i12_product [.ref 68] (prs M a o w) = _
  rw [ec12_product, A6 d j o a w hj ha (by omega)]
  simp only [Option.bind_some, Option.toList_some, Option.toList_none, List.cons_append, List.nil_append, bi_eq0, bi_eq1, bi_nem, if_true, if_false, ite_not, Classical.not_not, sg12_product_4]
  rw [t_here hC (d + 6 * j + 2) _ _ _ (hle.2 ha)]
  simp only [Option.bind_some, Option.toList_some, Option.toList_none, List.cons_append, List.nil_append, bi_eq0, bi_eq1, bi_nem, if_true, if_false, ite_not, Classical.not_not, sg12_product_9]
  exact B5 d j o _ _ _ _ _ hj (hle.2 ha) (by omega)
theorem t_A4 (hC : prC M b fs n use e) {f : Nat} (ih : tAll M b n use e f) : ∀ (d j o a : Nat) (w : Bool), o + j = 5 → a ≤ n → 16 * (n - a) + 7 ≤ f + 1 → am_call (d + 6 * j + 5) i12_sum [.ref 68] (prs M a o w) = some (some (.int (rd b n use e (f + 1) 4 none o a w).1.1), prs M (rd b n use e (f + 1) 4 none o a w).2.1 o (rd b n use e (f + 1) 4 none o a w).2.2) := by
  obtain ⟨A6, A5, A4, A3, A2, A1, B5, B4, B3, B2, B1⟩ := ih
  intro d j o a w hj ha hf
  have hle := rd_le b n use e f 5 none o a w
  rw [rd_none (by decide)]
  show am_call (d + 6 * j + 4 + 1) i12_sum [.ref 68] (prs M a o w) = _
  rw [ec12_sum, A5 d j o a w hj ha (by omega)]
  simp only [Option.bind_some, Option.toList_some, Option.toList_none, List.cons_append, List.nil_append, bi_eq0, bi_eq1, bi_nem, if_true, if_false, ite_not, Classical.not_not, sg12_sum_4]
  rw [t_here hC (d + 6 * j + 3) _ _ _ (hle.2 ha)]
  simp only [Option.bind_some, Option.toList_some, Option.toList_none, List.cons_append, List.nil_append, bi_eq0, bi_eq1, bi_nem, if_true, if_false, ite_not, Classical.not_not, sg12_sum_9]
  exact B4 d j o _ _ _ _ _ hj (hle.2 ha) (by omega)
theorem t_A3 (hC : prC M b fs n use e) {f : Nat} (ih : tAll M b n use e f) : ∀ (d j o a : Nat) (w : Bool), o + j = 5 → a ≤ n → 16 * (n - a) + 9 ≤ f + 1 → am_call (d + 6 * j + 6) i12_test [.ref 68] (prs M a o w) = some (some (.int (rd b n use e (f + 1) 3 none o a w).1.1), prs M (rd b n use e (f + 1) 3 none o a w).2.1 o (rd b n use e (f + 1) 3 none o a w).2.2) := by
  obtain ⟨A6, A5, A4, A3, A2, A1, B5, B4, B3, B2, B1⟩ := ih
  intro d j o a w hj ha hf
  have hle := rd_le b n use e f 4 none o a w
  rw [rd_none (by decide)]
  show am_call (d + 6 * j + 5 + 1) i12_test [.ref 68] (prs M a o w) = _
  rw [ec12_test, A4 d j o a w hj ha (by omega)]
  simp only [Option.bind_some, Option.toList_some, Option.toList_none, List.cons_append, List.nil_append, bi_eq0, bi_eq1, bi_nem, if_true, if_false, ite_not, Classical.not_not, sg12_test_4]
  rw [t_here hC (d + 6 * j + 4) _ _ _ (hle.2 ha)]
  simp only [Option.bind_some, Option.toList_some, Option.toList_none, List.cons_append, List.nil_append, bi_eq0, bi_eq1, bi_nem, if_true, if_false, ite_not, Classical.not_not]
  exact B3 d j o _ _ _ _ .null hj (hle.2 ha) (by omega)
theorem t_A2 (hC : prC M b fs n use e) {f : Nat} (ih : tAll M b n use e f) : ∀ (d j o a : Nat) (w : Bool), o + j = 5 → a ≤ n → 16 * (n - a) + 11 ≤ f + 1 → am_call (d + 6 * j + 7) i12_both [.ref 68] (prs M a o w) = some (some (.int (rd b n use e (f + 1) 2 none o a w).1.1), prs M (rd b n use e (f + 1) 2 none o a w).2.1 o (rd b n use e (f + 1) 2 none o a w).2.2) := by
  obtain ⟨A6, A5, A4, A3, A2, A1, B5, B4, B3, B2, B1⟩ := ih
  intro d j o a w hj ha hf
  have hle := rd_le b n use e f 3 none o a w
  rw [rd_none (by decide)]
  show am_call (d + 6 * j + 6 + 1) i12_both [.ref 68] (prs M a o w) = _
  rw [ec12_both, A3 d j o a w hj ha (by omega)]
  simp only [Option.bind_some, Option.toList_some, Option.toList_none, List.cons_append, List.nil_append, bi_eq0, bi_eq1, bi_nem, if_true, if_false, ite_not, Classical.not_not, sg12_both_4]
  exact B2 d j o _ _ _ _ _ hj (hle.2 ha) (by omega)
theorem t_A1 (hC : prC M b fs n use e) {f : Nat} (ih : tAll M b n use e f) : ∀ (d j o a : Nat) (w : Bool), o + j = 5 → a ≤ n → 16 * (n - a) + 13 ≤ f + 1 → am_call (d + 6 * j + 8) i12_any [.ref 68] (prs M a o w) = some (some (.int (rd b n use e (f + 1) 1 none o a w).1.1), prs M (rd b n use e (f + 1) 1 none o a w).2.1 o (rd b n use e (f + 1) 1 none o a w).2.2) := by
  obtain ⟨A6, A5, A4, A3, A2, A1, B5, B4, B3, B2, B1⟩ := ih
  intro d j o a w hj ha hf
  have hle := rd_le b n use e f 2 none o a w
  rw [rd_none (by decide)]
  show am_call (d + 6 * j + 7 + 1) i12_any [.ref 68] (prs M a o w) = _
  rw [ec12_any, A2 d j o a w hj ha (by omega)]
  simp only [Option.bind_some, Option.toList_some, Option.toList_none, List.cons_append, List.nil_append, bi_eq0, bi_eq1, bi_nem, if_true, if_false, ite_not, Classical.not_not, sg12_any_4]
  exact B1 d j o _ _ _ _ _ hj (hle.2 ha) (by omega)
theorem t_B5 (hC : prC M b fs n use e) {f : Nat} (ih : tAll M b n use e f) : ∀ (d j o a : Nat) (w : Bool) (v : Int32) (cs : List Int32) (w3 : Value), o + j = 5 → a ≤ n → 16 * (n - a) + 1 ≤ f + 1 → am_lim (am_call (d + 6 * j + 3)) (am_R i12_product) (am_tx i12_product) 10 [.ref 68, .int v, .int (hr b n a w), w3] [] (prs M a o w) = some (some (.int (rd b n use e (f + 1) 5 (some (v, cs)) o a w).1.1), prs M (rd b n use e (f + 1) 5 (some (v, cs)) o a w).2.1 o (rd b n use e (f + 1) 5 (some (v, cs)) o a w).2.2) := by
  obtain ⟨A6, A5, A4, A3, A2, A1, B5, B4, B3, B2, B1⟩ := ih
  intro d j o a w v cs w3 hj ha hf
  rw [sg12_product_10]
  by_cases hs : stn (hr b n a w) = 5
  · have hin := hr_in (b := b) (n := n) (a := a) (w := w) (fun q => by rw [q, stn_m1] at hs; omega)
    have hle := rd_le b n use e f 6 none o (a + 1) w
    rw [rd_some ⟨by decide, hs⟩ (by decide), prs_7, nI_add, prs_u7]
    have hA := A6 d j o (a + 1) w hj (by omega) (by omega)
    have hB := fun v' cs' w3' => B5 d j o _ (rd b n use e f 6 none o (a + 1) w).2.2 v' cs' w3' hj (hle.2 (by omega)) (by omega)
    have hH := t_here hC (d + 6 * j + 2) _ o (rd b n use e f 6 none o (a + 1) w).2.2 (hle.2 (by omega))
    generalize rd b n use e f 6 none o (a + 1) w = y at hA hB hH hle ⊢
    rcases stn_is5 hs with hc | hc | hc
    · rw [hc]
      unfold rdJ
      rw [jn_42]
      try simp (disch := omega) only [nI_eq9, Nat.reduceEqDiff, if_false, if_true, reduceIte]
      rw [hA]
      simp only [Option.bind_some, Option.toList_some, Option.toList_none, List.cons_append, List.nil_append, bi_eq0, bi_eq1, bi_nem, if_true, if_false, ite_not, Classical.not_not, sg12_product_42]
      try simp (disch := omega) only [nI_eq9, Nat.reduceEqDiff, if_false, if_true, reduceIte]
      rw [hH]
      simp only [Option.bind_some, Option.toList_some, Option.toList_none, List.cons_append, List.nil_append, bi_eq0, bi_eq1, bi_nem, if_true, if_false, ite_not, Classical.not_not, sg12_product_83]
      exact hB _ _ _
    · rw [hc]
      unfold rdJ
      rw [jn_47]
      try simp (disch := omega) only [nI_eq9, Nat.reduceEqDiff, if_false, if_true, reduceIte]
      rw [hA]
      simp only [Option.bind_some, Option.toList_some, Option.toList_none, List.cons_append, List.nil_append, bi_eq0, bi_eq1, bi_nem, if_true, if_false, ite_not, Classical.not_not, sg12_product_42]
      try simp (disch := omega) only [nI_eq9, Nat.reduceEqDiff, if_false, if_true, reduceIte]
      by_cases hz : y.1.1 = 0
      · rw [if_pos hz, if_pos hz, hH]
        simp only [Option.bind_some, Option.toList_some, Option.toList_none, List.cons_append, List.nil_append, bi_eq0, bi_eq1, bi_nem, if_true, if_false, ite_not, Classical.not_not, sg12_product_83]
        exact hB _ _ _
      · rw [if_neg hz, if_neg hz]
        try rw [if_neg hz]
        rw [hH]
        simp only [Option.bind_some, Option.toList_some, Option.toList_none, List.cons_append, List.nil_append, bi_eq0, bi_eq1, bi_nem, if_true, if_false, ite_not, Classical.not_not, sg12_product_83]
        exact hB _ _ _
    · rw [hc]
      unfold rdJ
      rw [jn_37]
      try simp (disch := omega) only [nI_eq9, Nat.reduceEqDiff, if_false, if_true, reduceIte]
      rw [hA]
      simp only [Option.bind_some, Option.toList_some, Option.toList_none, List.cons_append, List.nil_append, bi_eq0, bi_eq1, bi_nem, if_true, if_false, ite_not, Classical.not_not, sg12_product_42]
      try simp (disch := omega) only [nI_eq9, Nat.reduceEqDiff, if_false, if_true, reduceIte]
      by_cases hz : y.1.1 = 0
      · rw [if_pos hz, if_pos hz, hH]
        simp only [Option.bind_some, Option.toList_some, Option.toList_none, List.cons_append, List.nil_append, bi_eq0, bi_eq1, bi_nem, if_true, if_false, ite_not, Classical.not_not, sg12_product_83]
        exact hB _ _ _
      · rw [if_neg hz, if_neg hz]
        try rw [if_neg hz]
        rw [hH]
        simp only [Option.bind_some, Option.toList_some, Option.toList_none, List.cons_append, List.nil_append, bi_eq0, bi_eq1, bi_nem, if_true, if_false, ite_not, Classical.not_not, sg12_product_83]
        exact hB _ _ _
  · rw [rd_end hs, if_neg (fun q => hs (by rw [q]; exact stn_42)), if_neg (fun q => hs (by rw [q]; exact stn_47)), if_neg (fun q => hs (by rw [q]; exact stn_37))]
theorem t_B4 (hC : prC M b fs n use e) {f : Nat} (ih : tAll M b n use e f) : ∀ (d j o a : Nat) (w : Bool) (v : Int32) (cs : List Int32) (w3 : Value), o + j = 5 → a ≤ n → 16 * (n - a) + 1 ≤ f + 1 → am_lim (am_call (d + 6 * j + 4)) (am_R i12_sum) (am_tx i12_sum) 10 [.ref 68, .int v, .int (hr b n a w), w3] [] (prs M a o w) = some (some (.int (rd b n use e (f + 1) 4 (some (v, cs)) o a w).1.1), prs M (rd b n use e (f + 1) 4 (some (v, cs)) o a w).2.1 o (rd b n use e (f + 1) 4 (some (v, cs)) o a w).2.2) := by
  obtain ⟨A6, A5, A4, A3, A2, A1, B5, B4, B3, B2, B1⟩ := ih
  intro d j o a w v cs w3 hj ha hf
  rw [sg12_sum_10]
  by_cases hs : stn (hr b n a w) = 4
  · have hin := hr_in (b := b) (n := n) (a := a) (w := w) (fun q => by rw [q, stn_m1] at hs; omega)
    have hle := rd_le b n use e f 5 none o (a + 1) w
    rw [rd_some ⟨by decide, hs⟩ (by decide), prs_7, nI_add, prs_u7]
    have hA := A5 d j o (a + 1) w hj (by omega) (by omega)
    have hB := fun v' cs' w3' => B4 d j o _ (rd b n use e f 5 none o (a + 1) w).2.2 v' cs' w3' hj (hle.2 (by omega)) (by omega)
    have hH := t_here hC (d + 6 * j + 3) _ o (rd b n use e f 5 none o (a + 1) w).2.2 (hle.2 (by omega))
    generalize rd b n use e f 5 none o (a + 1) w = y at hA hB hH hle ⊢
    rcases stn_is4 hs with hc | hc
    · rw [hc]
      unfold rdJ
      rw [jn_43]
      try simp (disch := omega) only [nI_eq9, Nat.reduceEqDiff, if_false, if_true, reduceIte]
      rw [hA]
      simp only [Option.bind_some, Option.toList_some, Option.toList_none, List.cons_append, List.nil_append, bi_eq0, bi_eq1, bi_nem, if_true, if_false, ite_not, Classical.not_not, sg12_sum_36]
      try simp (disch := omega) only [nI_eq9, Nat.reduceEqDiff, if_false, if_true, reduceIte]
      rw [hH]
      simp only [Option.bind_some, Option.toList_some, Option.toList_none, List.cons_append, List.nil_append, bi_eq0, bi_eq1, bi_nem, if_true, if_false, ite_not, Classical.not_not, sg12_sum_57]
      exact hB _ _ _
    · rw [hc]
      unfold rdJ
      rw [jn_45]
      try simp (disch := omega) only [nI_eq9, Nat.reduceEqDiff, if_false, if_true, reduceIte]
      rw [hA]
      simp only [Option.bind_some, Option.toList_some, Option.toList_none, List.cons_append, List.nil_append, bi_eq0, bi_eq1, bi_nem, if_true, if_false, ite_not, Classical.not_not, sg12_sum_36]
      try simp (disch := omega) only [nI_eq9, Nat.reduceEqDiff, if_false, if_true, reduceIte]
      rw [hH]
      simp only [Option.bind_some, Option.toList_some, Option.toList_none, List.cons_append, List.nil_append, bi_eq0, bi_eq1, bi_nem, if_true, if_false, ite_not, Classical.not_not, sg12_sum_57]
      exact hB _ _ _
  · rw [rd_end hs, if_neg (fun q => hs (by rw [q]; exact stn_43)), if_neg (fun q => hs (by rw [q]; exact stn_45))]
theorem t_B3 (hC : prC M b fs n use e) {f : Nat} (ih : tAll M b n use e f) : ∀ (d j o a : Nat) (w : Bool) (v : Int32) (cs : List Int32) (w3 : Value), o + j = 5 → a ≤ n → 16 * (n - a) + 1 ≤ f + 1 → am_lim (am_call (d + 6 * j + 5)) (am_R i12_test) (am_tx i12_test) 9 [.ref 68, .int v, .null, .null, .null] [.int (hr b n a w)] (prs M a o w) = some (some (.int (rd b n use e (f + 1) 3 (some (v, cs)) o a w).1.1), prs M (rd b n use e (f + 1) 3 (some (v, cs)) o a w).2.1 o (rd b n use e (f + 1) 3 (some (v, cs)) o a w).2.2) := by
  obtain ⟨A6, A5, A4, A3, A2, A1, B5, B4, B3, B2, B1⟩ := ih
  intro d j o a w v cs w3 hj ha hf
  rw [sg12_test_9]
  by_cases hs : stn (hr b n a w) = 3
  · have hin := hr_in (b := b) (n := n) (a := a) (w := w) (fun q => by rw [q, stn_m1] at hs; omega)
    rw [rd_some3 hs, prs_7, nI_add, prs_u7]
    have hA := A4 d j o (a + 1) w hj (by omega) (by omega)
    generalize rd b n use e f 4 none o (a + 1) w = y at hA ⊢
    rcases stn_is3 hs with hc | hc | hc
    · rw [hc]
      unfold rdJ
      rw [jn_60]
      try simp (disch := omega) only [nI_eq9, Nat.reduceEqDiff, if_false, if_true, reduceIte]
      rw [hA]
      simp only [Option.bind_some, Option.toList_some, Option.toList_none, List.cons_append, List.nil_append, bi_eq0, bi_eq1, bi_nem, if_true, if_false, ite_not, Classical.not_not, sg12_test_44]
      try simp (disch := omega) only [nI_eq9, Nat.reduceEqDiff, if_false, if_true, reduceIte]
      split <;> rfl
    · rw [hc]
      unfold rdJ
      rw [jn_61]
      try simp (disch := omega) only [nI_eq9, Nat.reduceEqDiff, if_false, if_true, reduceIte]
      rw [hA]
      simp only [Option.bind_some, Option.toList_some, Option.toList_none, List.cons_append, List.nil_append, bi_eq0, bi_eq1, bi_nem, if_true, if_false, ite_not, Classical.not_not, sg12_test_44]
      try simp (disch := omega) only [nI_eq9, Nat.reduceEqDiff, if_false, if_true, reduceIte]
      split <;> rfl
    · rw [hc]
      unfold rdJ
      rw [jn_62]
      try simp (disch := omega) only [nI_eq9, Nat.reduceEqDiff, if_false, if_true, reduceIte]
      rw [hA]
      simp only [Option.bind_some, Option.toList_some, Option.toList_none, List.cons_append, List.nil_append, bi_eq0, bi_eq1, bi_nem, if_true, if_false, ite_not, Classical.not_not, sg12_test_44]
      try simp (disch := omega) only [nI_eq9, Nat.reduceEqDiff, if_false, if_true, reduceIte]
      split <;> rfl
  · rw [rd_end hs, if_neg (fun q => hs (by rw [q]; exact stn_60)), if_neg (fun q => hs (by rw [q]; exact stn_61)), if_neg (fun q => hs (by rw [q]; exact stn_62))]
theorem t_B2 (hC : prC M b fs n use e) {f : Nat} (ih : tAll M b n use e f) : ∀ (d j o a : Nat) (w : Bool) (v : Int32) (cs : List Int32) (w3 : Value), o + j = 5 → a ≤ n → 16 * (n - a) + 1 ≤ f + 1 → am_lim (am_call (d + 6 * j + 6)) (am_R i12_both) (am_tx i12_both) 5 [.ref 68, .int v, w3] [] (prs M a o w) = some (some (.int (rd b n use e (f + 1) 2 (some (v, cs)) o a w).1.1), prs M (rd b n use e (f + 1) 2 (some (v, cs)) o a w).2.1 o (rd b n use e (f + 1) 2 (some (v, cs)) o a w).2.2) := by
  obtain ⟨A6, A5, A4, A3, A2, A1, B5, B4, B3, B2, B1⟩ := ih
  intro d j o a w v cs w3 hj ha hf
  rw [sg12_both_5, t_takes hC (d + 6 * j + 4) a o w ha]
  simp only [Option.bind_some, Option.toList_some, Option.toList_none, List.cons_append, List.nil_append, bi_eq0, bi_eq1, bi_nem, if_true, if_false, ite_not, Classical.not_not, sg12_both_11]
  by_cases hs : hr b n a w = nI 38
  · have hst : stn (hr b n a w) = 2 := by rw [hs]; exact stn_38
    have hin := hr_in (b := b) (n := n) (a := a) (w := w) (fun q => by rw [q, stn_m1] at hst; omega)
    have hle := rd_le b n use e f 3 none o (a + 1) w
    rw [rd_some ⟨by decide, hst⟩ (by decide), if_pos hs, if_pos hs]
    have hA := A3 d j o (a + 1) w hj (by omega) (by omega)
    have hB := fun v' cs' w3' => B2 d j o _ (rd b n use e f 3 none o (a + 1) w).2.2 v' cs' w3' hj (hle.2 (by omega)) (by omega)
    generalize rd b n use e f 3 none o (a + 1) w = y at hA hB hle ⊢
    rw [hs]
    unfold rdJ
    rw [jn_38, hA]
    simp only [Option.bind_some, Option.toList_some, Option.toList_none, List.cons_append, List.nil_append, bi_eq0, bi_eq1, bi_nem, if_true, if_false, ite_not, Classical.not_not, sg12_both_18]
    by_cases h1 : v = 0
    · rw [if_pos h1, if_pos h1]
      exact hB _ _ _
    · rw [if_neg h1, if_neg h1]
      by_cases h2 : y.1.1 = 0
      · rw [if_pos h2, if_pos h2]
        exact hB _ _ _
      · rw [if_neg h2, if_neg h2]
        exact hB _ _ _
  · have hst : stn (hr b n a w) ≠ 2 := fun q => hs (stn_is2 q)
    rw [rd_end hst, if_neg hs, if_neg hs]
theorem t_B1 (hC : prC M b fs n use e) {f : Nat} (ih : tAll M b n use e f) : ∀ (d j o a : Nat) (w : Bool) (v : Int32) (cs : List Int32) (w3 : Value), o + j = 5 → a ≤ n → 16 * (n - a) + 1 ≤ f + 1 → am_lim (am_call (d + 6 * j + 7)) (am_R i12_any) (am_tx i12_any) 5 [.ref 68, .int v, w3] [] (prs M a o w) = some (some (.int (rd b n use e (f + 1) 1 (some (v, cs)) o a w).1.1), prs M (rd b n use e (f + 1) 1 (some (v, cs)) o a w).2.1 o (rd b n use e (f + 1) 1 (some (v, cs)) o a w).2.2) := by
  obtain ⟨A6, A5, A4, A3, A2, A1, B5, B4, B3, B2, B1⟩ := ih
  intro d j o a w v cs w3 hj ha hf
  rw [sg12_any_5, t_takes hC (d + 6 * j + 5) a o w ha]
  simp only [Option.bind_some, Option.toList_some, Option.toList_none, List.cons_append, List.nil_append, bi_eq0, bi_eq1, bi_nem, if_true, if_false, ite_not, Classical.not_not, sg12_any_11]
  by_cases hs : hr b n a w = nI 124
  · have hst : stn (hr b n a w) = 1 := by rw [hs]; exact stn_124
    have hin := hr_in (b := b) (n := n) (a := a) (w := w) (fun q => by rw [q, stn_m1] at hst; omega)
    have hle := rd_le b n use e f 2 none o (a + 1) w
    rw [rd_some ⟨by decide, hst⟩ (by decide), if_pos hs, if_pos hs]
    have hA := A2 d j o (a + 1) w hj (by omega) (by omega)
    have hB := fun v' cs' w3' => B1 d j o _ (rd b n use e f 2 none o (a + 1) w).2.2 v' cs' w3' hj (hle.2 (by omega)) (by omega)
    generalize rd b n use e f 2 none o (a + 1) w = y at hA hB hle ⊢
    rw [hs]
    unfold rdJ
    rw [jn_124, hA]
    simp only [Option.bind_some, Option.toList_some, Option.toList_none, List.cons_append, List.nil_append, bi_eq0, bi_eq1, bi_nem, if_true, if_false, ite_not, Classical.not_not, sg12_any_18]
    by_cases h1 : v = 0
    · rw [if_pos h1, if_pos h1]
      by_cases h2 : y.1.1 = 0
      · rw [if_pos h2, if_pos h2]
        exact hB _ _ _
      · rw [if_neg h2, if_neg h2]
        exact hB _ _ _
    · rw [if_neg h1, if_neg h1]
      exact hB _ _ _
  · have hst : stn (hr b n a w) ≠ 1 := fun q => hs (stn_is1 q)
    rw [rd_end hst, if_neg hs, if_neg hs]
end MTY
