/-! what a kind takes, on both sides; shelves and rows of ints; SENSE -/
theorem in99 {x : Int32} (h0 : 0 ≤ x.toInt) (h1 : x.toInt ≤ 99) : ∃ n, n ≤ 99 ∧ x = nI n := by
  obtain ⟨j, a, b⟩ := i32_of (x := x) (n := 100) h0 (by omega) (by omega)
  exact ⟨j, by omega, b⟩
theorem hdd_c (w lo hi : Int32) (h : lo.toInt ≤ hi.toInt) : (if lo < (if w < hi then w else hi) then (if w < hi then w else hi) else lo) = hdd w lo hi := by
  unfold hdd
  by_cases h1 : w < lo
  · have h1' := (i32_lt _ _).mp h1
    rw [if_pos h1]
    by_cases h2 : w < hi
    · rw [if_pos h2, if_neg (fun q => by have := (i32_lt _ _).mp q; omega)]
    · have h2' : ¬ w.toInt < hi.toInt := fun q => h2 ((i32_lt _ _).mpr q)
      omega
  · have h1' : ¬ w.toInt < lo.toInt := fun q => h1 ((i32_lt _ _).mpr q)
    rw [if_neg h1]
    by_cases h2 : w < hi
    · have h2' := (i32_lt _ _).mp h2
      rw [if_pos h2, if_pos (show w ≤ hi from (i32_le _ _).mpr (by omega))]
      by_cases h3 : lo < w
      · rw [if_pos h3]
      · have h3' : ¬ lo.toInt < w.toInt := fun q => h3 ((i32_lt _ _).mpr q)
        rw [if_neg h3]
        exact (i32_eq _ _).mpr (by omega)
    · have h2' : ¬ w.toInt < hi.toInt := fun q => h2 ((i32_lt _ _).mpr q)
      rw [if_neg h2]
      by_cases h3 : w ≤ hi
      · have h3' := (i32_le _ _).mp h3
        rw [if_pos h3]
        by_cases h4 : lo < hi
        · rw [if_pos h4]; exact (i32_eq _ _).mpr (by omega)
        · have h4' : ¬ lo.toInt < hi.toInt := fun q => h4 ((i32_lt _ _).mpr q)
          rw [if_neg h4]; exact (i32_eq _ _).mpr (by omega)
      · rw [if_neg h3]
        by_cases h4 : lo < hi
        · rw [if_pos h4]
        · have h4' : ¬ lo.toInt < hi.toInt := fun q => h4 ((i32_lt _ _).mpr q)
          rw [if_neg h4]; exact (i32_eq _ _).mpr (by omega)
theorem tk_0 {k m o w g : Int32} (h : k = nI 0 ∨ k = nI 3) : tk k m o w g = w := by
  unfold tk
  rcases h with rfl | rfl <;> simp (disch := omega) only [nI_eq9, Nat.reduceEqDiff, if_false]
theorem tk_1 {m o w g : Int32} : tk (nI 1) m o w g = (o + w) / nI 2 := if_pos rfl
theorem tk_2 {m o w g : Int32} : tk (nI 2) m o w g = pm o w m := by
  unfold tk
  simp (disch := omega) only [nI_eq9, Nat.reduceEqDiff, if_false, if_true]
theorem tk_4 {m o w g : Int32} : tk (nI 4) m o w g = hdd ((o + w) / nI 2) (o - m) (o + m) := by
  unfold tk
  simp (disch := omega) only [nI_eq9, Nat.reduceEqDiff, if_false, if_true]
theorem tk_5 {m o w g : Int32} : tk (nI 5) m o w g = if g - g / nI 2 * nI 2 = nI 1 then pm o w m else o := by
  unfold tk
  simp (disch := omega) only [nI_eq9, Nat.reduceEqDiff, if_false, if_true]
theorem tk_6 {m o w g : Int32} : tk (nI 6) m o w g = if w < nI 10 * m then o else w := by
  unfold tk
  simp (disch := omega) only [nI_eq9, Nat.reduceEqDiff, if_false, if_true]
theorem pm_r {o w m : Nat} (hw : w ≤ 99) : ∃ n, n ≤ 99 ∧ pm (nI o) (nI w) (nI m) = nI n := by
  unfold pm
  by_cases c : nI w = nI o
  · rw [if_pos c]; exact hd99_r _
  · rw [if_neg c]; exact ⟨w, hw, rfl⟩
theorem tk_r {k m o w : Nat} {g : Int32} (hk : k ≤ 6) (hm : m ≤ 9) (ho : o ≤ 99) (hw : w ≤ 99) : ∃ n, n ≤ 99 ∧ tk (nI k) (nI m) (nI o) (nI w) g = nI n := by
  rcases k_cases hk with rfl | rfl | rfl | rfl | rfl | rfl | rfl
  · exact ⟨w, hw, tk_0 (by simp)⟩
  · exact ⟨(o + w) / 2, by omega, by rw [tk_1, nI_add, pk_div (by omega) (by omega) (by omega)]⟩
  · rw [tk_2]; exact pm_r hw
  · exact ⟨w, hw, tk_0 (by simp)⟩
  · rw [tk_4, nI_add, nI_add, pk_div (by omega) (by omega) (by omega)]
    have e1 := pk_sub_toInt (a := o) (b := m) (by omega) (by omega)
    have e2 := nI_toInt (n := o + m) (by omega)
    have e3 := nI_toInt (n := (o + w) / 2) (by omega)
    unfold hdd
    by_cases h1 : nI ((o + w) / 2) < nI o - nI m
    · have h1' := (i32_lt _ _).mp h1
      rw [if_pos h1]
      exact in99 (by omega) (by omega)
    · rw [if_neg h1]
      by_cases h2 : nI ((o + w) / 2) ≤ nI (o + m)
      · rw [if_pos h2]
        exact ⟨(o + w) / 2, by omega, rfl⟩
      · have h2' : ¬ (nI ((o + w) / 2)).toInt ≤ (nI (o + m)).toInt := fun q => h2 ((i32_le _ _).mpr q)
        rw [if_neg h2]
        exact ⟨o + m, by omega, rfl⟩
  · rw [tk_5]
    by_cases c : g - g / nI 2 * nI 2 = nI 1
    · rw [if_pos c]; exact pm_r hw
    · rw [if_neg c]; exact ⟨o, ho, rfl⟩
  · rw [tk_6]
    by_cases c : nI w < nI 10 * nI m
    · rw [if_pos c]; exact ⟨o, ho, rfl⟩
    · rw [if_neg c]; exact ⟨w, hw, rfl⟩
theorem ct_pm (d c m o w : Nat) (g : Int32) (M : am_M) (hm : m ≤ 9) (hw : w ≤ 99) : am_call (d + 1) i7_taken [.ref c, .int (nI o), .int (nI w), .int (nI m), .int g] M = some (some (.int (pm (nI o) (nI w) (nI m))), M) := by
  rw [ec7_taken, nI_add, mn99 _ (by omega)]
  unfold pm
  rw [nI_add, hd99_n _ (by omega)]
  split <;> rfl
theorem ct_0 (d m o w : Nat) (g : Int32) (M : am_M) (hm : m ≤ 9) (ho : o ≤ 99) (hw : w ≤ 99) : am_call (d + 2) i5_taken [.ref 2, .int (nI o), .int (nI w), .int (nI m), .int g] M = some (some (.int (tk (nI 0) (nI m) (nI o) (nI w) g)), M) := by
  rw [tk_0 (by simp)]
  exact ec5_taken _ _ _ _ _ _ _
theorem ct_1 (d m o w : Nat) (g : Int32) (M : am_M) (hm : m ≤ 9) (ho : o ≤ 99) (hw : w ≤ 99) : am_call (d + 2) i3_taken [.ref 3, .int (nI o), .int (nI w), .int (nI m), .int g] M = some (some (.int (tk (nI 1) (nI m) (nI o) (nI w) g)), M) := by
  rw [tk_1]
  exact ec3_taken _ _ _ _ _ _ _
theorem ct_2 (d m o w : Nat) (g : Int32) (M : am_M) (hm : m ≤ 9) (ho : o ≤ 99) (hw : w ≤ 99) : am_call (d + 2) i7_taken [.ref 4, .int (nI o), .int (nI w), .int (nI m), .int g] M = some (some (.int (tk (nI 2) (nI m) (nI o) (nI w) g)), M) := by
  rw [tk_2]
  exact ct_pm _ _ _ _ _ _ _ hm hw
theorem ct_3 (d m o w : Nat) (g : Int32) (M : am_M) (hm : m ≤ 9) (ho : o ≤ 99) (hw : w ≤ 99) : am_call (d + 2) i5_taken [.ref 5, .int (nI o), .int (nI w), .int (nI m), .int g] M = some (some (.int (tk (nI 3) (nI m) (nI o) (nI w) g)), M) := by
  rw [tk_0 (by simp)]
  exact ec5_taken _ _ _ _ _ _ _
theorem ct_4 (d m o w : Nat) (g : Int32) (M : am_M) (hm : m ≤ 9) (ho : o ≤ 99) (hw : w ≤ 99) : am_call (d + 2) i2_taken [.ref 6, .int (nI o), .int (nI w), .int (nI m), .int g] M = some (some (.int (tk (nI 4) (nI m) (nI o) (nI w) g)), M) := by
  rw [tk_4, ec2_taken_k6, ec3_taken]
  simp only [Option.bind_some, Option.toList_some, Option.toList_none, List.cons_append, List.nil_append, bi_eq0, bi_eq1, bi_nem, if_true, if_false, ite_not, Classical.not_not, sg2_taken_k6_15]
  rw [hdd_c _ _ _ (by rw [pk_sub_toInt (by omega) (by omega), nI_add, nI_toInt (by omega)]; omega)]
theorem ct_5 (d m o w : Nat) (g : Int32) (M : am_M) (hm : m ≤ 9) (ho : o ≤ 99) (hw : w ≤ 99) : am_call (d + 2) i4_taken [.ref 7, .int (nI o), .int (nI w), .int (nI m), .int g] M = some (some (.int (tk (nI 5) (nI m) (nI o) (nI w) g)), M) := by
  rw [tk_5, ec4_taken_k7, ct_pm _ _ _ _ _ _ _ hm hw]
  simp only [Option.bind_some, Option.toList_some, Option.toList_none, List.cons_append, List.nil_append, bi_eq0, bi_eq1, bi_nem, if_true, if_false, ite_not, Classical.not_not, sg4_taken_k7_17]
  split <;> rfl
theorem ct_6 (d m o w : Nat) (g : Int32) (M : am_M) (hm : m ≤ 9) (ho : o ≤ 99) (hw : w ≤ 99) : am_call (d + 2) i0_taken [.ref 8, .int (nI o), .int (nI w), .int (nI m), .int g] M = some (some (.int (tk (nI 6) (nI m) (nI o) (nI w) g)), M) := by
  rw [tk_6, ec0_taken_k8, ec5_taken]
  simp only [Option.bind_some, Option.toList_some, Option.toList_none, List.cons_append, List.nil_append, bi_eq0, bi_eq1, bi_nem, if_true, if_false, ite_not, Classical.not_not, sg0_taken_k8_21]
  split <;> rfl
/-- a row: each book once -/
def PR (r : Nat → Int32) (nb : Nat) : Prop := (∀ i, i < nb → ∃ b, b < nb ∧ r i = nI b) ∧ (∀ b, b < nb → ∃ i, i < nb ∧ r i = nI b) ∧ ∀ i j, i < nb → j < nb → r i = r j → i = j
/-- the reference's row of ints: nb books, ng nights -/
def WS (S : Nat → Int32) (nb ng : Nat) : Prop := S 1 = nI nb ∧ nb ≤ 6 ∧ S 0 = nI ng ∧ (∀ b, b < nb → (∃ k, k ≤ 6 ∧ S (2 + 9 * b) = nI k) ∧ (∃ m, m ≤ 9 ∧ S (2 + 9 * b + 1) = nI m) ∧ (S (2 + 9 * b + 2) = nI 0 ∨ S (2 + 9 * b + 2) = nI 1) ∧ ∀ p, p < 6 → ∃ v, v ≤ 99 ∧ S (2 + 9 * b + (3 + p)) = nI v) ∧ PR (fun i => S (56 + i)) nb
/-- what no book has had yet is as at first -/
def RZ (M : am_M) (t nb : Nat) : Prop := (∀ b, nb ≤ b → b < 6 → M (t + 3) b = nI 0) ∧ ∀ b, nb ≤ b → b < 6 → ∀ p, p < 6 → M (t + 4) (b * 6 + p) = nI 0
theorem RZ_c {M M' : am_M} {t nb : Nat} (h : RZ M t nb) (c3 : M' (t + 3) = M (t + 3)) (c4 : M' (t + 4) = M (t + 4)) : RZ M' t nb := by
  unfold RZ
  rw [c3, c4]
  exact h
/-- a shelf of the class (cell t) is that row -/
def RS (M : am_M) (t : Nat) (S : Nat → Int32) (nb : Nat) : Prop := M t 7 = S 1 ∧ M t 8 = S 0 ∧ (∀ b, b < nb → M (t + 1) b = S (2 + 9 * b) ∧ M (t + 2) b = S (2 + 9 * b + 1) ∧ M (t + 3) b = S (2 + 9 * b + 2) ∧ ∀ p, p < 6 → M (t + 4) (b * 6 + p) = S (2 + 9 * b + (3 + p))) ∧ (∀ i, i < nb → M (t + 5) i = S (56 + i)) ∧ RZ M t nb
/-- nothing changed but these cells -/
def Ch (L : List Nat) (M M' : am_M) : Prop := ∀ a, a ∉ L → M' a = M a
theorem Ch_rf {L : List Nat} {M : am_M} : Ch L M M := fun _ _ => rfl
theorem Ch_tr {L : List Nat} {M M1 M2 : am_M} (h : Ch L M M1) (h2 : Ch L M1 M2) : Ch L M M2 := fun a ha => (h2 a ha).trans (h a ha)
theorem Ch_mo {L L' : List Nat} {M M' : am_M} (h : Ch L M M') (hs : ∀ a ∈ L, a ∈ L') : Ch L' M M' := fun a ha => h a (fun q => ha (hs a q))
theorem Ch_1 {x : Nat} {M M' : am_M} (h : ∀ a, a ≠ x → M' a = M a) : Ch [x] M M' := fun a ha => h a (fun q => ha (by simp [q]))
theorem Ch_up {L : List Nat} {a i : Nat} {x : Int32} {M : am_M} (h : a ∈ L) : Ch L M (am_up M a i x) := fun b hb => au_b (fun q => hb (q ▸ h))
theorem Ch_sc {L : List Nat} {a : Nat} {f : Nat → Int32} {M : am_M} (h : a ∈ L) : Ch L M (am_setc M a f) := fun b hb => stc_ne (fun q => hb (q ▸ h))
theorem RS_ch {M M' : am_M} {t nb : Nat} {S : Nat → Int32} (h : RS M t S nb) (hc : M' t = M t ∧ M' (t + 1) = M (t + 1) ∧ M' (t + 2) = M (t + 2) ∧ M' (t + 3) = M (t + 3) ∧ M' (t + 4) = M (t + 4) ∧ M' (t + 5) = M (t + 5)) : RS M' t S nb := by
  obtain ⟨c0, c1, c2, c3, c4, c5⟩ := hc
  unfold RS RZ
  rw [c0, c1, c2, c3, c4, c5]
  exact h
def sn1 (S : Nat → Int32) (b p : Nat) : Int32 := snS S (S (2 + 9 * b + (3 + p))) (S (2 + 9 * b + (3 + (p + 1)))) (nI (p + 1))
def soF (S : Nat → Int32) (b : Nat) : Nat → Nat
  | 0 => 0
  | k + 1 => soF S b k + (if sn1 S b k = 0 then 0 else 1)
def alF (S : Nat → Int32) : Nat → Nat
  | 0 => 0
  | n + 1 => alF S n + soF S n 5
theorem J68_69 {M M' : am_M} (h : J68 M M') : M' 69 = M 69 := h.1 69 (by decide)
theorem m_senseOf_l (d b : Nat) (hb : b < 6) (S : Nat → Int32) (hK : txK S 1) : ∀ (k i : Nat) (M : am_M), i + k = 5 → M 69 = S → ∃ M', am_lim (am_call (d + 41)) (am_R i12_senseOf) (am_tx i12_senseOf) 4 [.ref 68, .int (nI b), .int (nI (soF S b i)), .int (nI (i + 1))] [] M = some (some (.int (nI (soF S b 5))), M') ∧ J68 M M'
  | 0, i, M, h, hM => by
    have : i = 5 := by omega
    subst this
    rw [sg12_senseOf_4, if_neg (by decide +kernel)]
    exact ⟨M, rfl, J68_rf⟩
  | k + 1, i, M, h, hM => by
    rw [sg12_senseOf_4]
    simp (disch := omega) only [false_or, nle9, nI_dec9, nI_add, pk_mul, pk_sub, nI_clamp, nI_in9, nI_pos9, nI_lt9, nI_le9, nI_eq9, nI_eq09, nI_le09, am_k_m1, if_true, if_false, ite_not, Classical.not_not, Nat.add_sub_cancel]
    rw [if_pos (by omega), show d + 41 = d + 39 + 2 from rfl, m_pageAt _ b i M (by omega)]
    simp only [Option.bind_some, Option.toList_some, Option.toList_none, List.cons_append, List.nil_append, bi_eq0, bi_eq1, bi_nem, if_true, if_false, ite_not, Classical.not_not, sg12_senseOf_20]
    rw [m_pageAt _ b (i + 1) M (by omega)]
    simp only [Option.bind_some, Option.toList_some, Option.toList_none, List.cons_append, List.nil_append, bi_eq0, bi_eq1, bi_nem, if_true, if_false, ite_not, Classical.not_not, sg12_senseOf_26]
    rw [hM]
    obtain ⟨M1, a1, a2⟩ := m_senses d M (S (2 + 9 * b + (3 + i))) (S (2 + 9 * b + (3 + (i + 1)))) (nI (i + 1)) (hM ▸ hK)
    rw [show d + 39 + 2 = d + 41 from rfl, a1, hM]
    simp only [Option.bind_some, Option.toList_some, Option.toList_none, List.cons_append, List.nil_append, bi_eq0, bi_eq1, bi_nem, if_true, if_false, ite_not, Classical.not_not, sg12_senseOf_30]
    obtain ⟨M2, b1, b2⟩ := m_senseOf_l d b hb S hK k (i + 1) M1 (by omega) ((J68_69 a2).trans hM)
    refine ⟨M2, ?_, J68_tr a2 b2⟩
    have hs : soF S b (i + 1) = soF S b i + (if sn1 S b i = 0 then 0 else 1) := rfl
    rw [hs] at b1
    rw [nI_add, nI_add, nI_add]
    change (if sn1 S b i = 0 then _ else _) = _
    by_cases c : sn1 S b i = 0
    · rw [if_pos c] at b1 ⊢
      exact b1
    · rw [if_neg c] at b1 ⊢
      exact b1
theorem m_senseOf (d b : Nat) (hb : b < 6) (M : am_M) (hK : txK (M 69) 1) : ∃ M', am_call (d + 42) i12_senseOf [.ref 68, .int (nI b)] M = some (some (.int (nI (soF (M 69) b 5))), M') ∧ J68 M M' := by
  rw [ec12_senseOf]
  exact m_senseOf_l d b hb (M 69) hK 5 0 M rfl rfl
theorem m_allSense_l (d nb : Nat) (hn : nb ≤ 6) (S : Nat → Int32) (hS : S 1 = nI nb) (hK : txK S 1) : ∀ (k i : Nat) (M : am_M), i + k = nb → M 69 = S → ∃ M', am_lim (am_call (d + 42)) (am_R i12_allSense) (am_tx i12_allSense) 4 [.ref 68, .int (nI (alF S i)), .int (nI i)] [] M = some (some (.int (nI (alF S nb))), M') ∧ J68 M M'
  | 0, i, M, h, hM => by
    have : i = nb := by omega
    subst this
    rw [sg12_allSense_4, hM, hS]
    simp (disch := omega) only [false_or, nle9, nI_dec9, nI_add, pk_mul, pk_sub, nI_clamp, nI_in9, nI_pos9, nI_lt9, nI_le9, nI_eq9, nI_eq09, nI_le09, am_k_m1, if_true, if_false, ite_not, Classical.not_not]
    rw [if_neg (by omega)]
    exact ⟨M, rfl, J68_rf⟩
  | k + 1, i, M, h, hM => by
    rw [sg12_allSense_4, hM, hS]
    simp (disch := omega) only [false_or, nle9, nI_dec9, nI_add, pk_mul, pk_sub, nI_clamp, nI_in9, nI_pos9, nI_lt9, nI_le9, nI_eq9, nI_eq09, nI_le09, am_k_m1, if_true, if_false, ite_not, Classical.not_not]
    rw [if_pos (by omega)]
    obtain ⟨M1, a1, a2⟩ := m_senseOf d i (by omega) M (hM ▸ hK)
    rw [a1, hM]
    simp only [Option.bind_some, Option.toList_some, Option.toList_none, List.cons_append, List.nil_append, bi_eq0, bi_eq1, bi_nem, if_true, if_false, ite_not, Classical.not_not, sg12_allSense_20]
    rw [nI_add, nI_add]
    obtain ⟨M2, b1, b2⟩ := m_allSense_l d nb hn S hS hK k (i + 1) M1 (by omega) ((J68_69 a2).trans hM)
    exact ⟨M2, b1, J68_tr a2 b2⟩
theorem m_allSense (d nb : Nat) (hn : nb ≤ 6) (M : am_M) (hS : M 69 1 = nI nb) (hK : txK (M 69) 1) : ∃ M', am_call (d + 43) i12_allSense [.ref 68] M = some (some (.int (nI (alF (M 69) nb))), M') ∧ J68 M M' := by
  rw [ec12_allSense]
  exact m_allSense_l d nb hn (M 69) hS hK nb 0 M (by omega) rfl
theorem c_senseOf_l (d t b nb : Nat) (ht : t = 9 ∨ t = 23) (hb : b < nb) (hn : nb ≤ 6) (S : Nat → Int32) : ∀ (k i : Nat) (M : am_M), i + k = 5 → RS M t S nb → TR (M 37) (M 38) S 1 → ∃ M', am_lim (am_call (d + 3)) (am_R i8_senseOf) (am_tx i8_senseOf) 5 [.ref t, .int (nI b), .ref 30, .int (nI (soF S b i)), .int (nI (i + 1))] [] M = some (some (.int (nI (soF S b 5))), M') ∧ Ch [39] M M'
  | 0, i, M, h, hM, hT => by
    have : i = 5 := by omega
    subst this
    rw [sg8_senseOf_5 _ t ht, if_neg (by decide +kernel)]
    exact ⟨M, rfl, Ch_rf⟩
  | k + 1, i, M, h, hM, hT => by
    have hR := hM
    obtain ⟨-, -, r3, -⟩ := hM
    obtain ⟨-, -, -, r6⟩ := r3 b hb
    rw [sg8_senseOf_5 _ t ht]
    simp (disch := omega) only [false_or, nle9, nI_dec9, nI_add, pk_mul, pk_sub, nI_clamp, nI_in9, nI_pos9, nI_lt9, nI_le9, nI_eq9, nI_eq09, nI_le09, am_k_m1, if_true, if_false, ite_not, Classical.not_not, Nat.add_sub_cancel]
    rw [if_pos (by omega), c_said _ t ht b i M (by omega)]
    simp only [Option.bind_some, Option.toList_some, Option.toList_none, List.cons_append, List.nil_append, bi_eq0, bi_eq1, bi_nem, if_true, if_false, ite_not, Classical.not_not, sg8_senseOf_22 _ t ht]
    rw [c_said _ t ht b (i + 1) M (by omega)]
    simp only [Option.bind_some, Option.toList_some, Option.toList_none, List.cons_append, List.nil_append, bi_eq0, bi_eq1, bi_nem, if_true, if_false, ite_not, Classical.not_not, sg8_senseOf_29 _ t ht]
    rw [r6 i (by omega), r6 (i + 1) (by omega)]
    obtain ⟨M1, a1, a2⟩ := c_sensed d M S (S (2 + 9 * b + (3 + i))) (S (2 + 9 * b + (3 + (i + 1)))) (nI (i + 1)) hT
    rw [a1]
    simp only [Option.bind_some, Option.toList_some, Option.toList_none, List.cons_append, List.nil_append, bi_eq0, bi_eq1, bi_nem, if_true, if_false, ite_not, Classical.not_not, sg8_senseOf_34 _ t ht]
    obtain ⟨M2, b1, b2⟩ := c_senseOf_l d t b nb ht hb hn S k (i + 1) M1 (by omega) (RS_ch hR (by refine ⟨?_, ?_, ?_, ?_, ?_, ?_⟩ <;> exact a2 _ (by omega))) (by rw [a2 37 (by decide), a2 38 (by decide)]; exact hT)
    refine ⟨M2, ?_, Ch_tr (Ch_1 a2) b2⟩
    have hs : soF S b (i + 1) = soF S b i + (if sn1 S b i = 0 then 0 else 1) := rfl
    rw [hs] at b1
    rw [nI_add, nI_add]
    change (if sn1 S b i = 0 then _ else _) = _
    by_cases c : sn1 S b i = 0
    · rw [if_pos c] at b1 ⊢
      exact b1
    · rw [if_neg c] at b1 ⊢
      exact b1
theorem c_senseOf (d t b nb : Nat) (ht : t = 9 ∨ t = 23) (hb : b < nb) (hn : nb ≤ 6) (S : Nat → Int32) (M : am_M) (hR : RS M t S nb) (hT : TR (M 37) (M 38) S 1) : ∃ M', am_call (d + 4) i8_senseOf [.ref t, .int (nI b), .ref 30] M = some (some (.int (nI (soF S b 5))), M') ∧ Ch [39] M M' := by
  rw [ec8_senseOf _ t ht]
  exact c_senseOf_l d t b nb ht hb hn S 5 0 M rfl hR hT
theorem c_allSense_l (d t nb : Nat) (ht : t = 9 ∨ t = 23) (hn : nb ≤ 6) (S : Nat → Int32) (hS : S 1 = nI nb) : ∀ (k i : Nat) (M : am_M), i + k = nb → RS M t S nb → TR (M 37) (M 38) S 1 → ∃ M', am_lim (am_call (d + 4)) (am_R i8_senseOfAll) (am_tx i8_senseOfAll) 4 [.ref t, .ref 30, .int (nI (alF S i)), .int (nI i)] [] M = some (some (.int (nI (alF S nb))), M') ∧ Ch [39] M M'
  | 0, i, M, h, hM, hT => by
    have : i = nb := by omega
    subst this
    rw [sg8_senseOfAll_4 _ t ht, hM.1, hS]
    simp (disch := omega) only [false_or, nle9, nI_dec9, nI_add, pk_mul, pk_sub, nI_clamp, nI_in9, nI_pos9, nI_lt9, nI_le9, nI_eq9, nI_eq09, nI_le09, am_k_m1, if_true, if_false, ite_not, Classical.not_not]
    rw [if_neg (by omega)]
    exact ⟨M, rfl, Ch_rf⟩
  | k + 1, i, M, h, hM, hT => by
    rw [sg8_senseOfAll_4 _ t ht, hM.1, hS]
    simp (disch := omega) only [false_or, nle9, nI_dec9, nI_add, pk_mul, pk_sub, nI_clamp, nI_in9, nI_pos9, nI_lt9, nI_le9, nI_eq9, nI_eq09, nI_le09, am_k_m1, if_true, if_false, ite_not, Classical.not_not]
    rw [if_pos (by omega)]
    obtain ⟨M1, a1, a2⟩ := c_senseOf d t i nb ht (by omega) hn S M hM hT
    rw [a1]
    simp only [Option.bind_some, Option.toList_some, Option.toList_none, List.cons_append, List.nil_append, bi_eq0, bi_eq1, bi_nem, if_true, if_false, ite_not, Classical.not_not, sg8_senseOfAll_19 _ t ht]
    rw [nI_add, nI_add]
    have a3 : ∀ a, a ≠ 39 → M1 a = M a := fun a ha => a2 a (by simp [ha])
    obtain ⟨M2, b1, b2⟩ := c_allSense_l d t nb ht hn S hS k (i + 1) M1 (by omega) (RS_ch hM (by refine ⟨?_, ?_, ?_, ?_, ?_, ?_⟩ <;> exact a3 _ (by omega))) (by rw [a3 37 (by decide), a3 38 (by decide)]; exact hT)
    exact ⟨M2, b1, Ch_tr a2 b2⟩
theorem c_allSense (d t nb : Nat) (ht : t = 9 ∨ t = 23) (hn : nb ≤ 6) (S : Nat → Int32) (hS : S 1 = nI nb) (M : am_M) (hR : RS M t S nb) (hT : TR (M 37) (M 38) S 1) : ∃ M', am_call (d + 5) i8_senseOfAll [.ref t, .ref 30] M = some (some (.int (nI (alF S nb))), M') ∧ Ch [39] M M' := by
  rw [ec8_senseOfAll _ t ht]
  exact c_allSense_l d t nb ht hn S hS nb 0 M (by omega) hR hT
