/-! the public calls: count, told, trace, wantedBy, nights, then -/
theorem J6_69 {L : List Nat} {M M' : am_M} (h : J6 (69 :: L) M M') (e : M' 69 = M 69) : J6 L M M' := ⟨fun a ha hb => by
  by_cases c : a = 69
  · rw [c]; exact e
  · exact h.1 a (by simp [c, ha]) hb, h.2⟩
theorem pn0 : am_k (-1) = pnM 0 := am_k_m1
/-- the first of some -/
def fst1 (P : Nat → Bool) : Nat → Nat → Option Nat
  | _, 0 => none
  | i, k + 1 => if P i = true then some i else fst1 P (i + 1) k
theorem fst1_t {P : Nat → Bool} {i k : Nat} (h : P i = true) : fst1 P i (k + 1) = some i := if_pos h
theorem fst1_f {P : Nat → Bool} {i k : Nat} (h : ¬ P i = true) : fst1 P i (k + 1) = fst1 P (i + 1) k := if_neg h
def oC (o : Option Nat) (e : Nat) (M : am_M) : am_Res := match o with
  | some j => some (some (.int (nI j)), M)
  | none => some (some (.int (eR e)), eC M e)
def oM (o : Option Nat) (e : Nat) (M : am_M) : am_Res := match o with
  | some j => some (some (.int (nI j)), M)
  | none => some (some (.int (eR e)), eM M e)
theorem PO_o {d i j e : Nat} {as : List Value} {M M1 : am_M} (o : Option Nat) (hI : IV M M) (h1 : am_call (d + 60) i (.ref 0 :: as) M = oC o e M1) (hC : Ch Cs M M1) (h2 : ∀ N, Ch (67 :: Cs) M N → ∃ N', am_call (d + 60) j (.ref 68 :: as) N = oM o e N' ∧ J6 Ms N N') : PO d i j as M := by
  cases o with
  | some v => exact PO_a hI h1 hC (h2 M1 (Ch_mo hC (fun a ha => List.mem_cons_of_mem _ ha)))
  | none => exact PO_e (k := e) hI h1 hC (h2 (eC M1 e) (Ch_tr (Ch_mo hC (fun a ha => List.mem_cons_of_mem _ ha)) (Ch_up (List.mem_cons_self ..))))
/-- books under glass -/
def glF (S : Nat → Int32) : Nat → Nat
  | 0 => 0
  | b + 1 => glF S b + (if S (2 + 9 * b + 2) = 0 then 0 else 1)
theorem c_under_l (C : am_H) (S : Nat → Int32) (nb : Nat) (hn : nb ≤ 6) (M : am_M) (h7 : M 9 7 = nI nb) (hg : ∀ b, b < nb → M 12 b = S (2 + 9 * b + 2)) : ∀ (k i : Nat), i + k = nb → am_lim C (am_R i8_underGlass) (am_tx i8_underGlass) 4 [.ref 9, .int (nI (glF S i)), .int (nI i)] [] M = some (some (.int (nI (glF S nb))), M)
  | 0, i, h => by
    have : i = nb := by omega
    subst this
    rw [sg8_underGlass_4, h7]
    simp (disch := omega) only [false_or, nle9, nI_dec9, nI_add, pk_mul, pk_sub, nI_clamp, nI_in9, nI_pos9, nI_lt9, nI_le9, nI_eq9, nI_eq09, nI_le09, am_k_m1, if_true, if_false, ite_not, Classical.not_not]
    rw [if_neg (by omega)]
  | k + 1, i, h => by
    rw [sg8_underGlass_4, h7]
    simp (disch := omega) only [false_or, nle9, nI_dec9, nI_add, pk_mul, pk_sub, nI_clamp, nI_in9, nI_pos9, nI_lt9, nI_le9, nI_eq9, nI_eq09, nI_le09, am_k_m1, if_true, if_false, ite_not, Classical.not_not]
    rw [if_pos (by omega), hg i (by omega)]
    have ih := c_under_l C S nb hn M h7 hg k (i + 1) (by omega)
    have e : glF S (i + 1) = glF S i + (if S (2 + 9 * i + 2) = 0 then 0 else 1) := rfl
    rw [e] at ih
    by_cases c : S (2 + 9 * i + 2) = 0
    · rw [if_pos c] at ih ⊢; exact ih
    · rw [if_neg c] at ih ⊢; exact ih
theorem m_glass_l (d : Nat) (nb ng : Nat) (M : am_M) (hW : WS (M 69) nb ng) : ∀ (k i : Nat), i + k = nb → am_lim (am_call (d + 2)) (am_R i12_glasses) (am_tx i12_glasses) 4 [.ref 68, .int (nI (glF (M 69) i)), .int (nI i)] [] M = some (some (.int (nI (glF (M 69) nb))), M)
  | 0, i, h => by
    have : i = nb := by omega
    subst this
    have hn := hW.2.1
    rw [sg12_glasses_4, hW.1]
    simp (disch := omega) only [false_or, nle9, nI_dec9, nI_add, pk_mul, pk_sub, nI_clamp, nI_in9, nI_pos9, nI_lt9, nI_le9, nI_eq9, nI_eq09, nI_le09, am_k_m1, if_true, if_false, ite_not, Classical.not_not]
    rw [if_neg (by omega)]
  | k + 1, i, h => by
    have hn := hW.2.1
    rw [sg12_glasses_4, hW.1]
    simp (disch := omega) only [false_or, nle9, nI_dec9, nI_add, pk_mul, pk_sub, nI_clamp, nI_in9, nI_pos9, nI_lt9, nI_le9, nI_eq9, nI_eq09, nI_le09, am_k_m1, if_true, if_false, ite_not, Classical.not_not]
    rw [if_pos (by omega), m_its _ i 2 M (by omega)]
    simp only [Option.bind_some, Option.toList_some, Option.toList_none, List.cons_append, List.nil_append, bi_eq0, bi_eq1, bi_nem, if_true, if_false, ite_not, Classical.not_not, sg12_glasses_21]
    have ih := m_glass_l d nb ng M hW k (i + 1) (by omega)
    have e : glF (M 69) (i + 1) = glF (M 69) i + (if M 69 (2 + 9 * i + 2) = 0 then 0 else 1) := rfl
    rw [e] at ih
    rcases (hW.2.2.2.1 i (by omega)).2.2.1 with y | y
    · rw [y, if_pos nI_0] at ih
      rw [y, nI_add, nI_add]; exact ih
    · rw [y, if_neg (show ¬ nI 1 = 0 by decide +kernel)] at ih
      rw [y, nI_add, nI_add]; exact ih
theorem po_count (d : Nat) (w : Int32) (M : am_M) (hI : IV M M) : PO d i11_count i12_count [.int w] M := by
  obtain ⟨nb, ng, hW, hg, hR, hD⟩ := hI.1
  have hn := hW.2.1
  have h7 : M 9 7 = nI nb := hR.1.trans hW.1
  have h8 : M 9 8 = nI ng := hR.2.1.trans hW.2.2.1
  have cB : ∀ (d' : Nat) (x : Int32) (N : am_M), N 9 7 = M 9 7 → am_call (d' + 2) i11_isBook [.ref 0, .int x] N = some (some (.int (bi (0 ≤ x.toInt ∧ x.toInt < nb))), N) := fun d' x N h => c_isBook d' x N nb (h.trans h7) hn
  have cP : ∀ (d' : Nat) (x : Int32) (N : am_M), N 9 7 = M 9 7 → am_call (d' + 2) i11_isPlace [.ref 0, .int x] N = some (some (.int (bi (0 ≤ x.toInt ∧ x.toInt < nb))), N) := fun d' x N h => c_isPlace d' x N nb (h.trans h7) hn
  have cPB : ∀ (d' : Nat) (x y : Int32) (N : am_M), N 9 7 = M 9 7 → am_call (d' + 3) i11_isPageOfBook [.ref 0, .int x, .int y] N = some (some (.int (bi ((0 ≤ x.toInt ∧ x.toInt < nb) ∧ 0 ≤ y.toInt ∧ y.toInt < 6))), N) := fun d' x y N h => c_isPageOfBook d' x y N nb (h.trans h7) hn
  have mB : ∀ (d' : Nat) (x : Int32) (N : am_M), N 69 = M 69 → am_call (d' + 2) i12_isBook [.ref 68, .int x] N = some (some (.int (bi (0 ≤ x.toInt ∧ x.toInt < nb))), N) := fun d' x N h => m_isBook d' x N nb (by rw [h]; exact hW.1) hn
  by_cases hw : 0 ≤ w.toInt ∧ w.toInt < 8
  · obtain ⟨w', hw', rfl⟩ := i32_of (n := 8) hw.1 hw.2 (by omega)
    have h8c : w' = 0 ∨ w' = 1 ∨ w' = 2 ∨ w' = 3 ∨ w' = 4 ∨ w' = 5 ∨ w' = 6 ∨ w' = 7 := by omega
    rcases h8c with rfl | rfl | rfl | rfl | rfl | rfl | rfl | rfl
    · refine PO_a hI (r := M 69 1) (M1 := M) ?_ Ch_rf ⟨M, ?_, J6_rf⟩
      · rw [ec11_count]
        simp only [if_true]
        rw [hR.1]
      · rw [ec12_count]
        simp only [if_true]
    · refine PO_a hI (r := M 69 0) (M1 := M) ?_ Ch_rf ⟨M, ?_, J6_rf⟩
      · rw [ec11_count]
        simp (disch := omega) only [nI_eq9, Nat.reduceEqDiff, if_true, if_false]
        rw [hR.2.1]
      · rw [ec12_count]
        simp (disch := omega) only [nI_eq9, Nat.reduceEqDiff, if_true, if_false]
    · obtain ⟨M1, a1, a2⟩ := c_allSense (d + 54) 9 nb (by omega) hn (M 69) hW.1 M hR hD.2.2.2.2.2.2.2.2
      have f1 : M1 69 = M 69 := a2 69 (by decide)
      obtain ⟨M2, q1, q2⟩ := m_allSense (d + 16) nb hn M1 (by rw [f1]; exact hW.1) (by rw [f1]; exact TR_K hD.2.2.2.2.2.2.2.2)
      rw [f1] at q1
      refine PO_a hI (r := nI (alF (M 69) nb)) (M1 := M1) ?_ (Ch_mo a2 (by decide)) ⟨M2, ?_, J6_mo (L := []) (J6_J q2) (by decide)⟩
      · rw [ec11_count]
        simp (disch := omega) only [nI_eq9, Nat.reduceEqDiff, if_true, if_false]
        rw [a1]
        simp only [Option.bind_some, Option.toList_some, Option.toList_none, List.cons_append, List.nil_append, bi_eq0, bi_eq1, bi_nem, if_true, if_false, ite_not, Classical.not_not, sg11_count_75]
      · rw [ec12_count]
        simp (disch := omega) only [nI_eq9, Nat.reduceEqDiff, if_true, if_false]
        rw [q1]
        simp only [Option.bind_some, Option.toList_some, Option.toList_none, List.cons_append, List.nil_append, bi_eq0, bi_eq1, bi_nem, if_true, if_false, ite_not, Classical.not_not, sg12_count_66]
    · have hc0 := c_under_l (am_call (d + 58)) (M 69) nb hn M h7 (fun b hb => (hR.2.2.1 b hb).2.2.1) nb 0 (by omega)
      change am_lim (am_call (d + 58)) (am_R i8_underGlass) (am_tx i8_underGlass) 4 [.ref 9, .int (nI 0), .int (nI 0)] [] M = _ at hc0
      have hg0 := m_glass_l (d + 56) nb ng M hW nb 0 (by omega)
      change am_lim (am_call (d + 58)) (am_R i12_glasses) (am_tx i12_glasses) 4 [.ref 68, .int (nI 0), .int (nI 0)] [] M = _ at hg0
      refine PO_a hI (r := nI (glF (M 69) nb)) (M1 := M) ?_ Ch_rf ⟨M, ?_, J6_rf⟩
      · rw [ec11_count]
        simp (disch := omega) only [nI_eq9, Nat.reduceEqDiff, if_true, if_false]
        rw [ec8_underGlass, hc0]
        simp only [Option.bind_some, Option.toList_some, Option.toList_none, List.cons_append, List.nil_append, bi_eq0, bi_eq1, bi_nem, if_true, if_false, ite_not, Classical.not_not, sg11_count_83]
      · rw [ec12_count]
        simp (disch := omega) only [nI_eq9, Nat.reduceEqDiff, if_true, if_false]
        rw [ec12_glasses, hg0]
        simp only [Option.bind_some, Option.toList_some, Option.toList_none, List.cons_append, List.nil_append, bi_eq0, bi_eq1, bi_nem, if_true, if_false, ite_not, Classical.not_not, sg12_count_71]
    · refine PO_a hI (r := M 69 63) (M1 := M) ?_ Ch_rf ⟨M, ?_, J6_rf⟩
      · rw [ec11_count]
        simp (disch := omega) only [nI_eq9, Nat.reduceEqDiff, if_true, if_false]
        rw [hD.2.1]
      · rw [ec12_count]
        simp (disch := omega) only [nI_eq9, Nat.reduceEqDiff, if_true, if_false]
    · refine PO_a hI (r := M 69 64) (M1 := M) ?_ Ch_rf ⟨M, ?_, J6_rf⟩
      · rw [ec11_count]
        simp (disch := omega) only [nI_eq9, Nat.reduceEqDiff, if_true, if_false]
        rw [hD.2.2.2.2.2.1]
      · rw [ec12_count]
        simp (disch := omega) only [nI_eq9, Nat.reduceEqDiff, if_true, if_false]
    · obtain ⟨tr, -, t1, t2, -⟩ := hI.2.2.2.2.1
      refine PO_a hI (r := nI tr) (M1 := M) ?_ Ch_rf ⟨M, ?_, J6_rf⟩
      · rw [ec11_count]
        simp (disch := omega) only [nI_eq9, Nat.reduceEqDiff, if_true, if_false]
        rw [t1]
      · rw [ec12_count]
        simp (disch := omega) only [nI_eq9, Nat.reduceEqDiff, if_true, if_false]
        rw [t2]
    · refine PO_a hI (r := M 69 62) (M1 := M) ?_ Ch_rf ⟨M, ?_, J6_rf⟩
      · rw [ec11_count]
        simp (disch := omega) only [nI_eq9, Nat.reduceEqDiff, if_true, if_false]
        rw [hD.2.2.2.1]
      · rw [ec12_count]
        simp (disch := omega) only [nI_eq9, Nat.reduceEqDiff, if_true, if_false]
  · have hne : ∀ j, j < 8 → w ≠ nI j := fun j hj q => by
      rw [q, nI_toInt (by omega)] at hw
      omega
    refine PO_e (k := 1) hI (M1 := M) ?_ Ch_rf ⟨eC M 1, ?_, J6_rf⟩
    · rw [ec11_count, if_neg (hne 0 (by omega)), if_neg (hne 1 (by omega)), if_neg (hne 2 (by omega)), if_neg (hne 3 (by omega)), if_neg (hne 4 (by omega)), if_neg (hne 5 (by omega)), if_neg (hne 6 (by omega)), if_neg (hne 7 (by omega)), ce _ 1 _ (by omega)]
      simp only [Option.bind_some, Option.toList_some, Option.toList_none, List.cons_append, List.nil_append, bi_eq0, bi_eq1, bi_nem, if_true, if_false, ite_not, Classical.not_not, sg11_count_121]
    · rw [ec12_count, if_neg (hne 0 (by omega)), if_neg (hne 1 (by omega)), if_neg (hne 2 (by omega)), if_neg (hne 3 (by omega)), if_neg (hne 4 (by omega)), if_neg (hne 5 (by omega)), if_neg (hne 6 (by omega)), if_neg (hne 7 (by omega)), me1]
      simp only [Option.bind_some, Option.toList_some, Option.toList_none, List.cons_append, List.nil_append, bi_eq0, bi_eq1, bi_nem, if_true, if_false, ite_not, Classical.not_not, sg12_count_107]
theorem po_told (d : Nat) (k : Int32) (M : am_M) (hI : IV M M) : PO d i11_told i12_told [.int k] M := by
  obtain ⟨nb, ng, hW, hg, hR, hD⟩ := hI.1
  have hn := hW.2.1
  have h7 : M 9 7 = nI nb := hR.1.trans hW.1
  have h8 : M 9 8 = nI ng := hR.2.1.trans hW.2.2.1
  have cB : ∀ (d' : Nat) (x : Int32) (N : am_M), N 9 7 = M 9 7 → am_call (d' + 2) i11_isBook [.ref 0, .int x] N = some (some (.int (bi (0 ≤ x.toInt ∧ x.toInt < nb))), N) := fun d' x N h => c_isBook d' x N nb (h.trans h7) hn
  have cP : ∀ (d' : Nat) (x : Int32) (N : am_M), N 9 7 = M 9 7 → am_call (d' + 2) i11_isPlace [.ref 0, .int x] N = some (some (.int (bi (0 ≤ x.toInt ∧ x.toInt < nb))), N) := fun d' x N h => c_isPlace d' x N nb (h.trans h7) hn
  have cPB : ∀ (d' : Nat) (x y : Int32) (N : am_M), N 9 7 = M 9 7 → am_call (d' + 3) i11_isPageOfBook [.ref 0, .int x, .int y] N = some (some (.int (bi ((0 ≤ x.toInt ∧ x.toInt < nb) ∧ 0 ≤ y.toInt ∧ y.toInt < 6))), N) := fun d' x y N h => c_isPageOfBook d' x y N nb (h.trans h7) hn
  have mB : ∀ (d' : Nat) (x : Int32) (N : am_M), N 69 = M 69 → am_call (d' + 2) i12_isBook [.ref 68, .int x] N = some (some (.int (bi (0 ≤ x.toInt ∧ x.toInt < nb))), N) := fun d' x N h => m_isBook d' x N nb (by rw [h]; exact hW.1) hn
  have cM5 : ∀ (d' : Nat) (x : Int32) (N : am_M), am_call (d' + 1) i11_isWithin [.int x, .int (nI 1), .int (nI 5)] N = some (some (.int (bi (1 ≤ x.toInt ∧ x.toInt < 6))), N) := fun d' x N => (cW d' x 1 5 N (by omega) (by omega)).trans (bi_out (by omega))
  have mM5 : ∀ (d' : Nat) (x : Int32) (N : am_M), am_call (d' + 1) i12_in [.long x.toInt64, .long (lN 1), .long (lN 5)] N = some (some (.int (bi (1 ≤ x.toInt ∧ x.toInt < 6))), N) := fun d' x N => (mW d' x 1 5 N (by omega) (by omega)).trans (bi_out (by omega))
  by_cases hk : 1 ≤ k.toInt ∧ k.toInt < 6
  · obtain ⟨k', hk', rfl⟩ := i32_of (n := 6) (x := k) (by omega) hk.2 (by omega)
    refine PO_a hI (r := M 72 k') (M1 := M) ?_ Ch_rf ⟨M, ?_, J6_rf⟩
    · rw [ec11_told, cM5]
      simp only [Option.bind_some, Option.toList_some, Option.toList_none, List.cons_append, List.nil_append, bi_eq0, bi_eq1, bi_nem, if_true, if_false, ite_not, Classical.not_not, sg11_told_6]
      rw [if_pos (hk)]
      simp (disch := omega) only [false_or, nle9, nI_dec9, nI_add, pk_mul, pk_sub, nI_clamp, nI_in9, nI_pos9, nI_lt9, nI_le9, nI_eq9, nI_eq09, nI_le09, am_k_m1, if_true, if_false, ite_not, Classical.not_not]
      rw [hI.2.2.2.1 k' hk']
    · rw [ec12_told, mM5]
      simp only [Option.bind_some, Option.toList_some, Option.toList_none, List.cons_append, List.nil_append, bi_eq0, bi_eq1, bi_nem, if_true, if_false, ite_not, Classical.not_not, sg12_told_9]
      rw [if_pos (hk)]
      simp (disch := omega) only [false_or, nle9, nI_dec9, nI_add, pk_mul, pk_sub, nI_clamp, nI_in9, nI_pos9, nI_lt9, nI_le9, nI_eq9, nI_eq09, nI_le09, am_k_m1, if_true, if_false, ite_not, Classical.not_not, sg12_told_27]
  · refine PO_e (k := 1) hI (M1 := M) ?_ Ch_rf ⟨eC M 1, ?_, J6_rf⟩
    · rw [ec11_told, cM5]
      simp only [Option.bind_some, Option.toList_some, Option.toList_none, List.cons_append, List.nil_append, bi_eq0, bi_eq1, bi_nem, if_true, if_false, ite_not, Classical.not_not, sg11_told_6]
      rw [if_neg (hk), ce _ 1 _ (by omega)]
      simp only [Option.bind_some, Option.toList_some, Option.toList_none, List.cons_append, List.nil_append, bi_eq0, bi_eq1, bi_nem, if_true, if_false, ite_not, Classical.not_not, sg11_told_14]
    · rw [ec12_told, mM5]
      simp only [Option.bind_some, Option.toList_some, Option.toList_none, List.cons_append, List.nil_append, bi_eq0, bi_eq1, bi_nem, if_true, if_false, ite_not, Classical.not_not, sg12_told_9]
      rw [if_neg (hk), me1]
      simp only [Option.bind_some, Option.toList_some, Option.toList_none, List.cons_append, List.nil_append, bi_eq0, bi_eq1, bi_nem, if_true, if_false, ite_not, Classical.not_not, sg12_told_27]
theorem po_trace (d : Nat) (i : Int32) (M : am_M) (hI : IV M M) : PO d i11_trace i12_trace [.int i] M := by
  obtain ⟨nb, ng, hW, hg, hR, hD⟩ := hI.1
  have hn := hW.2.1
  have h7 : M 9 7 = nI nb := hR.1.trans hW.1
  have h8 : M 9 8 = nI ng := hR.2.1.trans hW.2.2.1
  have cB : ∀ (d' : Nat) (x : Int32) (N : am_M), N 9 7 = M 9 7 → am_call (d' + 2) i11_isBook [.ref 0, .int x] N = some (some (.int (bi (0 ≤ x.toInt ∧ x.toInt < nb))), N) := fun d' x N h => c_isBook d' x N nb (h.trans h7) hn
  have cP : ∀ (d' : Nat) (x : Int32) (N : am_M), N 9 7 = M 9 7 → am_call (d' + 2) i11_isPlace [.ref 0, .int x] N = some (some (.int (bi (0 ≤ x.toInt ∧ x.toInt < nb))), N) := fun d' x N h => c_isPlace d' x N nb (h.trans h7) hn
  have cPB : ∀ (d' : Nat) (x y : Int32) (N : am_M), N 9 7 = M 9 7 → am_call (d' + 3) i11_isPageOfBook [.ref 0, .int x, .int y] N = some (some (.int (bi ((0 ≤ x.toInt ∧ x.toInt < nb) ∧ 0 ≤ y.toInt ∧ y.toInt < 6))), N) := fun d' x y N h => c_isPageOfBook d' x y N nb (h.trans h7) hn
  have mB : ∀ (d' : Nat) (x : Int32) (N : am_M), N 69 = M 69 → am_call (d' + 2) i12_isBook [.ref 68, .int x] N = some (some (.int (bi (0 ≤ x.toInt ∧ x.toInt < nb))), N) := fun d' x N h => m_isBook d' x N nb (by rw [h]; exact hW.1) hn
  obtain ⟨tr, htr, t1, t2, t3⟩ := hI.2.2.2.2.1
  have cT : ∀ (d' : Nat) (x : Int32) (N : am_M), am_call (d' + 1) i11_isWithin [.int x, .int (nI 0), .int (nI tr - nI 1)] N = some (some (.int (bi (0 ≤ x.toInt ∧ x.toInt < tr))), N) := fun d' x N => (c_isWithin d' x _ _ N).trans (bi_out (by rw [nI_toInt (by omega), pk_sub_toInt (by omega) (by omega)]; omega))
  have mT : ∀ (d' : Nat) (x : Int32) (N : am_M), am_call (d' + 1) i12_in [.long x.toInt64, .long (lN 0), .long (nI tr - nI 1).toInt64] N = some (some (.int (bi (0 ≤ x.toInt ∧ x.toInt < tr))), N) := fun d' x N => (m_in d' _ _ _ N).trans (bi_out (by rw [Int32.toInt_toInt64, Int32.toInt_toInt64, lN_toInt (by omega), pk_sub_toInt (by omega) (by omega)]; omega))
  by_cases hi : 0 ≤ i.toInt ∧ i.toInt < tr
  · obtain ⟨i', hi', rfl⟩ := i32_of (n := tr) hi.1 hi.2 (by omega)
    refine PO_a hI (r := M 77 i') (M1 := M) ?_ Ch_rf ⟨M, ?_, J6_rf⟩
    · rw [ec11_trace, t1, cT]
      simp only [Option.bind_some, Option.toList_some, Option.toList_none, List.cons_append, List.nil_append, bi_eq0, bi_eq1, bi_nem, if_true, if_false, ite_not, Classical.not_not, sg11_trace_14]
      rw [if_pos (hi)]
      simp (disch := omega) only [false_or, nle9, nI_dec9, nI_add, pk_mul, pk_sub, nI_clamp, nI_in9, nI_pos9, nI_lt9, nI_le9, nI_eq9, nI_eq09, nI_le09, am_k_m1, if_true, if_false, ite_not, Classical.not_not]
      rw [t3 i' hi']
    · rw [ec12_trace, t2, mT]
      simp only [Option.bind_some, Option.toList_some, Option.toList_none, List.cons_append, List.nil_append, bi_eq0, bi_eq1, bi_nem, if_true, if_false, ite_not, Classical.not_not, sg12_trace_13]
      rw [if_pos (hi)]
      simp (disch := omega) only [false_or, nle9, nI_dec9, nI_add, pk_mul, pk_sub, nI_clamp, nI_in9, nI_pos9, nI_lt9, nI_le9, nI_eq9, nI_eq09, nI_le09, am_k_m1, if_true, if_false, ite_not, Classical.not_not, sg12_trace_31]
  · refine PO_e (k := 2) hI (M1 := M) ?_ Ch_rf ⟨eC M 2, ?_, J6_rf⟩
    · rw [ec11_trace, t1, cT]
      simp only [Option.bind_some, Option.toList_some, Option.toList_none, List.cons_append, List.nil_append, bi_eq0, bi_eq1, bi_nem, if_true, if_false, ite_not, Classical.not_not, sg11_trace_14]
      rw [if_neg (hi), ce _ 2 _ (by omega)]
      simp only [Option.bind_some, Option.toList_some, Option.toList_none, List.cons_append, List.nil_append, bi_eq0, bi_eq1, bi_nem, if_true, if_false, ite_not, Classical.not_not, sg11_trace_22]
    · rw [ec12_trace, eC_b (by decide), t2, mT]
      simp only [Option.bind_some, Option.toList_some, Option.toList_none, List.cons_append, List.nil_append, bi_eq0, bi_eq1, bi_nem, if_true, if_false, ite_not, Classical.not_not, sg12_trace_13]
      rw [if_neg (hi), me2]
      simp only [Option.bind_some, Option.toList_some, Option.toList_none, List.cons_append, List.nil_append, bi_eq0, bi_eq1, bi_nem, if_true, if_false, ite_not, Classical.not_not, sg12_trace_31]
theorem c_want_l (d : Nat) (x y v : Int32) (S : Nat → Int32) : ∀ (k i : Nat) (M : am_M), i + k = 100 → TR (M 33) (M 34) S 0 → ∃ M', am_lim (am_call (d + 3)) (am_R i11_wantedBy) (am_tx i11_wantedBy) 30 [.ref 0, .int x, .int y, .int v, .int (nI i)] [] M = oC (fst1 (fun j => decide (mgS S x y (nI j) = v)) i k) 2 M' ∧ Ch [35] M M'
  | 0, i, M, h, hT => by
    have : i = 100 := by omega
    subst this
    rw [sg11_wantedBy_30, if_neg (by decide +kernel), ce _ 2 _ (by omega)]
    simp only [Option.bind_some, Option.toList_some, Option.toList_none, List.cons_append, List.nil_append, bi_eq0, bi_eq1, bi_nem, if_true, if_false, ite_not, Classical.not_not, sg11_wantedBy_66]
    exact ⟨M, rfl, Ch_rf⟩
  | k + 1, i, M, h, hT => by
    rw [sg11_wantedBy_30]
    simp (disch := omega) only [false_or, nle9, nI_dec9, nI_add, pk_mul, pk_sub, nI_clamp, nI_in9, nI_pos9, nI_lt9, nI_le9, nI_eq9, nI_eq09, nI_le09, am_k_m1, if_true, if_false, ite_not, Classical.not_not]
    rw [if_pos (by omega)]
    obtain ⟨M1, a1, a2⟩ := c_merged d M S x y (nI i) hT
    rw [a1]
    simp only [Option.bind_some, Option.toList_some, Option.toList_none, List.cons_append, List.nil_append, bi_eq0, bi_eq1, bi_nem, if_true, if_false, ite_not, Classical.not_not, sg11_wantedBy_48]
    by_cases c : mgS S x y (nI i) = v
    · rw [if_pos c, fst1_t (decide_eq_true c)]
      exact ⟨M1, rfl, Ch_1 a2⟩
    · rw [if_neg c, fst1_f (by rw [decide_eq_false c]; decide), nI_add]
      obtain ⟨M2, b1, b2⟩ := c_want_l d x y v S k (i + 1) M1 (by omega) (by rw [a2 33 (by decide), a2 34 (by decide)]; exact hT)
      exact ⟨M2, b1, Ch_tr (Ch_1 a2) b2⟩
theorem m_want_l (d : Nat) (x y v : Int32) (S : Nat → Int32) (hK : txK S 0) : ∀ (k i : Nat) (M : am_M), i + k = 100 → M 69 = S → ∃ M', am_lim (am_call (d + 41)) (am_R i12_wantedBy) (am_tx i12_wantedBy) 31 [.ref 68, .int x, .int y, .int v, .int (nI i)] [] M = oM (fst1 (fun j => decide (mgS S x y (nI j) = v)) i k) 2 M' ∧ J68 M M'
  | 0, i, M, h, hM => by
    have : i = 100 := by omega
    subst this
    rw [sg12_wantedBy_31, if_neg (by decide +kernel), me2]
    simp only [Option.bind_some, Option.toList_some, Option.toList_none, List.cons_append, List.nil_append, bi_eq0, bi_eq1, bi_nem, if_true, if_false, ite_not, Classical.not_not, sg12_wantedBy_65]
    exact ⟨M, rfl, J68_rf⟩
  | k + 1, i, M, h, hM => by
    rw [sg12_wantedBy_31]
    simp (disch := omega) only [false_or, nle9, nI_dec9, nI_add, pk_mul, pk_sub, nI_clamp, nI_in9, nI_pos9, nI_lt9, nI_le9, nI_eq9, nI_eq09, nI_le09, am_k_m1, if_true, if_false, ite_not, Classical.not_not]
    rw [if_pos (by omega)]
    obtain ⟨M1, a1, a2⟩ := m_merged d M x y (nI i) (by rw [hM]; exact hK)
    rw [a1, hM]
    simp only [Option.bind_some, Option.toList_some, Option.toList_none, List.cons_append, List.nil_append, bi_eq0, bi_eq1, bi_nem, if_true, if_false, ite_not, Classical.not_not, sg12_wantedBy_46]
    by_cases c : mgS S x y (nI i) = v
    · rw [if_pos c, fst1_t (decide_eq_true c)]
      exact ⟨M1, rfl, a2⟩
    · rw [if_neg c, fst1_f (by rw [decide_eq_false c]; decide), nI_add]
      obtain ⟨M2, b1, b2⟩ := m_want_l d x y v S hK k (i + 1) M1 (by omega) (by rw [J68_69 a2]; exact hM)
      exact ⟨M2, b1, J68_tr a2 b2⟩
theorem po_wantedBy (d : Nat) (x y v : Int32) (M : am_M) (hI : IV M M) : PO d i11_wantedBy i12_wantedBy [.int x, .int y, .int v] M := by
  obtain ⟨nb, ng, hW, hg, hR, hD⟩ := hI.1
  have hn := hW.2.1
  have h7 : M 9 7 = nI nb := hR.1.trans hW.1
  have h8 : M 9 8 = nI ng := hR.2.1.trans hW.2.2.1
  have cB : ∀ (d' : Nat) (x : Int32) (N : am_M), N 9 7 = M 9 7 → am_call (d' + 2) i11_isBook [.ref 0, .int x] N = some (some (.int (bi (0 ≤ x.toInt ∧ x.toInt < nb))), N) := fun d' x N h => c_isBook d' x N nb (h.trans h7) hn
  have cP : ∀ (d' : Nat) (x : Int32) (N : am_M), N 9 7 = M 9 7 → am_call (d' + 2) i11_isPlace [.ref 0, .int x] N = some (some (.int (bi (0 ≤ x.toInt ∧ x.toInt < nb))), N) := fun d' x N h => c_isPlace d' x N nb (h.trans h7) hn
  have cPB : ∀ (d' : Nat) (x y : Int32) (N : am_M), N 9 7 = M 9 7 → am_call (d' + 3) i11_isPageOfBook [.ref 0, .int x, .int y] N = some (some (.int (bi ((0 ≤ x.toInt ∧ x.toInt < nb) ∧ 0 ≤ y.toInt ∧ y.toInt < 6))), N) := fun d' x y N h => c_isPageOfBook d' x y N nb (h.trans h7) hn
  have mB : ∀ (d' : Nat) (x : Int32) (N : am_M), N 69 = M 69 → am_call (d' + 2) i12_isBook [.ref 68, .int x] N = some (some (.int (bi (0 ≤ x.toInt ∧ x.toInt < nb))), N) := fun d' x N h => m_isBook d' x N nb (by rw [h]; exact hW.1) hn
  by_cases hx : 0 ≤ x.toInt ∧ x.toInt < 100
  · by_cases hy : 0 ≤ y.toInt ∧ y.toInt < 100
    · by_cases hv : 0 ≤ v.toInt ∧ v.toInt < 100
      · obtain ⟨M1, a1, a2⟩ := c_want_l (d + 56) x y v (M 69) 100 0 M rfl hD.2.2.2.2.2.2.2.1
        refine PO_o (e := 2) (M1 := M1) (fst1 (fun j => decide (mgS (M 69) x y (nI j) = v)) 0 100) hI ?_ (Ch_mo a2 (by decide)) (fun N hN => ?_)
        · rw [ec11_wantedBy, c_isSaid]
          simp only [Option.bind_some, Option.toList_some, Option.toList_none, List.cons_append, List.nil_append, bi_eq0, bi_eq1, bi_nem, if_true, if_false, ite_not, Classical.not_not, sg11_wantedBy_4]
          rw [if_pos (hx), c_isSaid]
          simp only [Option.bind_some, Option.toList_some, Option.toList_none, List.cons_append, List.nil_append, bi_eq0, bi_eq1, bi_nem, if_true, if_false, ite_not, Classical.not_not, sg11_wantedBy_11]
          rw [if_pos (hy), c_isSaid]
          simp only [Option.bind_some, Option.toList_some, Option.toList_none, List.cons_append, List.nil_append, bi_eq0, bi_eq1, bi_nem, if_true, if_false, ite_not, Classical.not_not, sg11_wantedBy_18]
          rw [if_pos (hv)]
          exact a1
        · have f69 : N 69 = M 69 := hN 69 (by decide)
          obtain ⟨N1, q1, q2⟩ := m_want_l (d + 18) x y v (M 69) (TR_K hD.2.2.2.2.2.2.2.1) 100 0 N rfl f69
          refine ⟨N1, ?_, J6_mo (L := []) (J6_J q2) (by decide)⟩
          rw [ec12_wantedBy, m_isSaid]
          simp only [Option.bind_some, Option.toList_some, Option.toList_none, List.cons_append, List.nil_append, bi_eq0, bi_eq1, bi_nem, if_true, if_false, ite_not, Classical.not_not, sg12_wantedBy_4]
          rw [if_pos (hx), m_isSaid]
          simp only [Option.bind_some, Option.toList_some, Option.toList_none, List.cons_append, List.nil_append, bi_eq0, bi_eq1, bi_nem, if_true, if_false, ite_not, Classical.not_not, sg12_wantedBy_11]
          rw [if_pos (hy), m_isSaid]
          simp only [Option.bind_some, Option.toList_some, Option.toList_none, List.cons_append, List.nil_append, bi_eq0, bi_eq1, bi_nem, if_true, if_false, ite_not, Classical.not_not, sg12_wantedBy_18]
          rw [if_pos (hv)]
          exact q1
      · refine PO_e (k := 1) hI (M1 := M) ?_ Ch_rf ⟨eC M 1, ?_, J6_rf⟩
        · rw [ec11_wantedBy, c_isSaid]
          simp only [Option.bind_some, Option.toList_some, Option.toList_none, List.cons_append, List.nil_append, bi_eq0, bi_eq1, bi_nem, if_true, if_false, ite_not, Classical.not_not, sg11_wantedBy_4]
          rw [if_pos (hx), c_isSaid]
          simp only [Option.bind_some, Option.toList_some, Option.toList_none, List.cons_append, List.nil_append, bi_eq0, bi_eq1, bi_nem, if_true, if_false, ite_not, Classical.not_not, sg11_wantedBy_11]
          rw [if_pos (hy), c_isSaid]
          simp only [Option.bind_some, Option.toList_some, Option.toList_none, List.cons_append, List.nil_append, bi_eq0, bi_eq1, bi_nem, if_true, if_false, ite_not, Classical.not_not, sg11_wantedBy_18]
          rw [if_neg (hv), ce _ 1 _ (by omega)]
          simp only [Option.bind_some, Option.toList_some, Option.toList_none, List.cons_append, List.nil_append, bi_eq0, bi_eq1, bi_nem, if_true, if_false, ite_not, Classical.not_not, sg11_wantedBy_26]
        · rw [ec12_wantedBy, m_isSaid]
          simp only [Option.bind_some, Option.toList_some, Option.toList_none, List.cons_append, List.nil_append, bi_eq0, bi_eq1, bi_nem, if_true, if_false, ite_not, Classical.not_not, sg12_wantedBy_4]
          rw [if_pos (hx), m_isSaid]
          simp only [Option.bind_some, Option.toList_some, Option.toList_none, List.cons_append, List.nil_append, bi_eq0, bi_eq1, bi_nem, if_true, if_false, ite_not, Classical.not_not, sg12_wantedBy_11]
          rw [if_pos (hy), m_isSaid]
          simp only [Option.bind_some, Option.toList_some, Option.toList_none, List.cons_append, List.nil_append, bi_eq0, bi_eq1, bi_nem, if_true, if_false, ite_not, Classical.not_not, sg12_wantedBy_18]
          rw [if_neg (hv), me1]
          simp only [Option.bind_some, Option.toList_some, Option.toList_none, List.cons_append, List.nil_append, bi_eq0, bi_eq1, bi_nem, if_true, if_false, ite_not, Classical.not_not, sg12_wantedBy_27]
    · refine PO_e (k := 1) hI (M1 := M) ?_ Ch_rf ⟨eC M 1, ?_, J6_rf⟩
      · rw [ec11_wantedBy, c_isSaid]
        simp only [Option.bind_some, Option.toList_some, Option.toList_none, List.cons_append, List.nil_append, bi_eq0, bi_eq1, bi_nem, if_true, if_false, ite_not, Classical.not_not, sg11_wantedBy_4]
        rw [if_pos (hx), c_isSaid]
        simp only [Option.bind_some, Option.toList_some, Option.toList_none, List.cons_append, List.nil_append, bi_eq0, bi_eq1, bi_nem, if_true, if_false, ite_not, Classical.not_not, sg11_wantedBy_11]
        rw [if_neg (hy), ce _ 1 _ (by omega)]
        simp only [Option.bind_some, Option.toList_some, Option.toList_none, List.cons_append, List.nil_append, bi_eq0, bi_eq1, bi_nem, if_true, if_false, ite_not, Classical.not_not, sg11_wantedBy_26]
      · rw [ec12_wantedBy, m_isSaid]
        simp only [Option.bind_some, Option.toList_some, Option.toList_none, List.cons_append, List.nil_append, bi_eq0, bi_eq1, bi_nem, if_true, if_false, ite_not, Classical.not_not, sg12_wantedBy_4]
        rw [if_pos (hx), m_isSaid]
        simp only [Option.bind_some, Option.toList_some, Option.toList_none, List.cons_append, List.nil_append, bi_eq0, bi_eq1, bi_nem, if_true, if_false, ite_not, Classical.not_not, sg12_wantedBy_11]
        rw [if_neg (hy), me1]
        simp only [Option.bind_some, Option.toList_some, Option.toList_none, List.cons_append, List.nil_append, bi_eq0, bi_eq1, bi_nem, if_true, if_false, ite_not, Classical.not_not, sg12_wantedBy_27]
  · refine PO_e (k := 1) hI (M1 := M) ?_ Ch_rf ⟨eC M 1, ?_, J6_rf⟩
    · rw [ec11_wantedBy, c_isSaid]
      simp only [Option.bind_some, Option.toList_some, Option.toList_none, List.cons_append, List.nil_append, bi_eq0, bi_eq1, bi_nem, if_true, if_false, ite_not, Classical.not_not, sg11_wantedBy_4]
      rw [if_neg (hx), ce _ 1 _ (by omega)]
      simp only [Option.bind_some, Option.toList_some, Option.toList_none, List.cons_append, List.nil_append, bi_eq0, bi_eq1, bi_nem, if_true, if_false, ite_not, Classical.not_not, sg11_wantedBy_26]
    · rw [ec12_wantedBy, m_isSaid]
      simp only [Option.bind_some, Option.toList_some, Option.toList_none, List.cons_append, List.nil_append, bi_eq0, bi_eq1, bi_nem, if_true, if_false, ite_not, Classical.not_not, sg12_wantedBy_4]
      rw [if_neg (hx), me1]
      simp only [Option.bind_some, Option.toList_some, Option.toList_none, List.cons_append, List.nil_append, bi_eq0, bi_eq1, bi_nem, if_true, if_false, ite_not, Classical.not_not, sg12_wantedBy_27]
theorem c_nights_l (d nb ng n : Nat) (hg : ng + n < 2147483648) (S : Nat → Int32) (hW : WS S nb ng) : ∀ (k i : Nat) (M : am_M), i + k = n → RS M 9 (goS S nb ng 0 i) nb → TR (M 33) (M 34) S 0 → TR (M 37) (M 38) S 1 → ∃ M', am_lim (am_call (d + 5)) (am_R i11_nights) (am_tx i11_nights) 40 [.ref 0, .int (nI n), .int (nI i)] [] M = some (some (.int (nI (alF (goS S nb ng 0 n) nb))), M') ∧ RS M' 9 (goS S nb ng 0 n) nb ∧ Ch [9, 13, 15, 35, 39] M M'
  | 0, i, M, h, hR, hT, hT1 => by
    have : i = n := by omega
    subst this
    rw [sg11_nights_40]
    simp (disch := omega) only [false_or, nle9, nI_dec9, nI_add, pk_mul, pk_sub, nI_clamp, nI_in9, nI_pos9, nI_lt9, nI_le9, nI_eq9, nI_eq09, nI_le09, am_k_m1, if_true, if_false, ite_not, Classical.not_not]
    rw [if_neg (by omega)]
    obtain ⟨M1, a1, a2⟩ := c_allSense d 9 nb (by omega) hW.2.1 (goS S nb ng 0 i) (goS_WS hW i).1 M hR (TR_S (by omega) hT1 (fun j hj => goS_hi hW (by omega) i))
    rw [a1]
    simp only [Option.bind_some, Option.toList_some, Option.toList_none, List.cons_append, List.nil_append, bi_eq0, bi_eq1, bi_nem, if_true, if_false, ite_not, Classical.not_not, sg11_nights_75]
    exact ⟨M1, rfl, RS_ch hR (by refine ⟨?_, ?_, ?_, ?_, ?_, ?_⟩ <;> exact a2 _ (by decide)), Ch_mo a2 (by decide)⟩
  | k + 1, i, M, h, hR, hT, hT1 => by
    rw [sg11_nights_40]
    simp (disch := omega) only [false_or, nle9, nI_dec9, nI_add, pk_mul, pk_sub, nI_clamp, nI_in9, nI_pos9, nI_lt9, nI_le9, nI_eq9, nI_eq09, nI_le09, am_k_m1, if_true, if_false, ite_not, Classical.not_not]
    rw [if_pos (by omega)]
    obtain ⟨M1, a1, a2, a3⟩ := c_passNight (d + 1) 9 nb (ng + i) 0 (by omega) (goS S nb ng 0 i) (goS_WS hW i) (by omega) (by omega) M hR (TR_S (by omega) hT (fun j hj => goS_hi hW (by omega) i))
    rw [a1]
    simp only [Option.bind_some, Option.toList_some, Option.toList_none, List.cons_append, List.nil_append, bi_eq0, bi_eq1, bi_nem, if_true, if_false, ite_not, Classical.not_not, sg11_nights_57]
    rw [nI_add]
    obtain ⟨M2, b1, b2, b3⟩ := c_nights_l d nb ng n hg S hW k (i + 1) M1 (by omega) a2 (by rw [a3 33 (by decide), a3 34 (by decide)]; exact hT) (by rw [a3 37 (by decide), a3 38 (by decide)]; exact hT1)
    exact ⟨M2, b1, b2, Ch_tr (Ch_mo a3 (by decide)) b3⟩
theorem po_nights (d : Nat) (n : Int32) (M : am_M) (hI : IV M M) : PO d i11_nights i12_nights [.int n] M := by
  obtain ⟨nb, ng, hW, hg, hR, hD⟩ := hI.1
  have hn := hW.2.1
  have h7 : M 9 7 = nI nb := hR.1.trans hW.1
  have h8 : M 9 8 = nI ng := hR.2.1.trans hW.2.2.1
  have cB : ∀ (d' : Nat) (x : Int32) (N : am_M), N 9 7 = M 9 7 → am_call (d' + 2) i11_isBook [.ref 0, .int x] N = some (some (.int (bi (0 ≤ x.toInt ∧ x.toInt < nb))), N) := fun d' x N h => c_isBook d' x N nb (h.trans h7) hn
  have cP : ∀ (d' : Nat) (x : Int32) (N : am_M), N 9 7 = M 9 7 → am_call (d' + 2) i11_isPlace [.ref 0, .int x] N = some (some (.int (bi (0 ≤ x.toInt ∧ x.toInt < nb))), N) := fun d' x N h => c_isPlace d' x N nb (h.trans h7) hn
  have cPB : ∀ (d' : Nat) (x y : Int32) (N : am_M), N 9 7 = M 9 7 → am_call (d' + 3) i11_isPageOfBook [.ref 0, .int x, .int y] N = some (some (.int (bi ((0 ≤ x.toInt ∧ x.toInt < nb) ∧ 0 ≤ y.toInt ∧ y.toInt < 6))), N) := fun d' x y N h => c_isPageOfBook d' x y N nb (h.trans h7) hn
  have mB : ∀ (d' : Nat) (x : Int32) (N : am_M), N 69 = M 69 → am_call (d' + 2) i12_isBook [.ref 68, .int x] N = some (some (.int (bi (0 ≤ x.toInt ∧ x.toInt < nb))), N) := fun d' x N h => m_isBook d' x N nb (by rw [h]; exact hW.1) hn
  have cM : ∀ (d' : Nat) (x : Int32) (N : am_M), am_call (d' + 1) i11_isWithin [.int x, .int (nI 1), .int (nI 200)] N = some (some (.int (bi (1 ≤ x.toInt ∧ x.toInt < 201))), N) := fun d' x N => (cW d' x 1 200 N (by omega) (by omega)).trans (bi_out (by omega))
  have mM : ∀ (d' : Nat) (x : Int32) (N : am_M), am_call (d' + 1) i12_in [.long x.toInt64, .long (lN 1), .long (lN 200)] N = some (some (.int (bi (1 ≤ x.toInt ∧ x.toInt < 201))), N) := fun d' x N => (mW d' x 1 200 N (by omega) (by omega)).trans (bi_out (by omega))
  by_cases hn0 : 1 ≤ n.toInt ∧ n.toInt < 201
  · obtain ⟨n', hn', rfl⟩ := i32_of (n := 201) (x := n) (by omega) hn0.2 (by omega)
    by_cases h9 : ng + n' ≤ 9999
    · obtain ⟨M1, a1, a2, a3⟩ := c_nights_l (d + 54) nb ng n' (by omega) (M 69) hW n' 0 M (by omega) hR hD.2.2.2.2.2.2.2.1 hD.2.2.2.2.2.2.2.2
      have f69 : M1 69 = M 69 := a3 69 (by decide)
      obtain ⟨N1, q1, q2, q3⟩ := m_go (d + 16) nb ng 0 n' (by omega) (by omega) M1 (by rw [f69]; exact hW) (by rw [f69]; exact TR_K hD.2.2.2.2.2.2.2.1)
      rw [f69] at q2
      obtain ⟨N2, s1, s2⟩ := m_allSense (d + 16) nb hn N1 (by rw [q2]; exact (goS_WS hW n').1) (by rw [q2]; exact txK_S (TR_K hD.2.2.2.2.2.2.2.2) (fun j hj => goS_hi hW (by omega) n'))
      rw [q2] at s1
      have g69 : N2 69 = goS (M 69) nb ng 0 n' := (J68_69 s2).trans q2
      have hJ : J6 [9, 13, 15, 35, 39, 69, 73] M N2 := J6_tr (J6_tr (Ch_J6 (Ch_mo a3 (by decide)) (by decide)) (J6_mo q3 (by decide))) (J6_J s2)
      have hJ2 : J6 [69, 73] M1 N2 := J6_tr q3 (J6_J s2)
      refine ⟨nI (alF (goS (M 69) nb ng 0 n') nb), M1, N2, ?_, ?_, IV_S hI hJ (by decide) ⟨nb, ng + n', ?_, h9, ?_, ?_⟩⟩
      · rw [ec11_nights, cM]
        simp only [Option.bind_some, Option.toList_some, Option.toList_none, List.cons_append, List.nil_append, bi_eq0, bi_eq1, bi_nem, if_true, if_false, ite_not, Classical.not_not, sg11_nights_8]
        rw [if_pos (hn0), h8]
        simp (disch := omega) only [false_or, nle9, nI_dec9, nI_add, pk_mul, pk_sub, nI_clamp, nI_in9, nI_pos9, nI_lt9, nI_le9, nI_eq9, nI_eq09, nI_le09, am_k_m1, if_true, if_false, ite_not, Classical.not_not]
        rw [if_pos (h9)]
        exact a1
      · rw [ec12_nights, mM]
        simp only [Option.bind_some, Option.toList_some, Option.toList_none, List.cons_append, List.nil_append, bi_eq0, bi_eq1, bi_nem, if_true, if_false, ite_not, Classical.not_not, sg12_nights_9]
        rw [if_pos (hn0), f69, hW.2.2.1]
        simp (disch := omega) only [false_or, nle9, nI_dec9, nI_add, pk_mul, pk_sub, nI_clamp, nI_in9, nI_pos9, nI_lt9, nI_le9, nI_eq9, nI_eq09, nI_le09, am_k_m1, if_true, if_false, ite_not, Classical.not_not]
        rw [if_pos (h9), show (-1 : Int32) = pnM 0 from rfl, q1]
        simp only [Option.bind_some, Option.toList_some, Option.toList_none, List.cons_append, List.nil_append, bi_eq0, bi_eq1, bi_nem, if_true, if_false, ite_not, Classical.not_not, sg12_nights_46]
        rw [s1]
        simp only [Option.bind_some, Option.toList_some, Option.toList_none, List.cons_append, List.nil_append, bi_eq0, bi_eq1, bi_nem, if_true, if_false, ite_not, Classical.not_not, sg12_nights_50]
      · rw [g69]; exact goS_WS hW n'
      · rw [g69]; exact RS_ch a2 (by refine ⟨?_, ?_, ?_, ?_, ?_, ?_⟩ <;> exact J6_c hJ2 (by decide) (by decide))
      · rw [g69]; exact RD_S hD (fun j hj => goS_hi hW (by omega) n') (fun a ha => J6_c hJ (by revert a; decide) (by revert a; decide))
    · refine PO_e (k := 3) hI (M1 := M) ?_ Ch_rf ⟨eC M 3, ?_, J6_rf⟩
      · rw [ec11_nights, cM]
        simp only [Option.bind_some, Option.toList_some, Option.toList_none, List.cons_append, List.nil_append, bi_eq0, bi_eq1, bi_nem, if_true, if_false, ite_not, Classical.not_not, sg11_nights_8]
        rw [if_pos (hn0), h8]
        simp (disch := omega) only [false_or, nle9, nI_dec9, nI_add, pk_mul, pk_sub, nI_clamp, nI_in9, nI_pos9, nI_lt9, nI_le9, nI_eq9, nI_eq09, nI_le09, am_k_m1, if_true, if_false, ite_not, Classical.not_not]
        rw [ce _ 3 _ (by omega)]
        simp only [Option.bind_some, Option.toList_some, Option.toList_none, List.cons_append, List.nil_append, bi_eq0, bi_eq1, bi_nem, if_true, if_false, ite_not, Classical.not_not, sg11_nights_37]
      · rw [ec12_nights, mM]
        simp only [Option.bind_some, Option.toList_some, Option.toList_none, List.cons_append, List.nil_append, bi_eq0, bi_eq1, bi_nem, if_true, if_false, ite_not, Classical.not_not, sg12_nights_9]
        rw [if_pos (hn0), eC_b (by decide), hW.2.2.1]
        simp (disch := omega) only [false_or, nle9, nI_dec9, nI_add, pk_mul, pk_sub, nI_clamp, nI_in9, nI_pos9, nI_lt9, nI_le9, nI_eq9, nI_eq09, nI_le09, am_k_m1, if_true, if_false, ite_not, Classical.not_not]
        rw [me3]
        simp only [Option.bind_some, Option.toList_some, Option.toList_none, List.cons_append, List.nil_append, bi_eq0, bi_eq1, bi_nem, if_true, if_false, ite_not, Classical.not_not, sg12_nights_39]
  · refine PO_e (k := 1) hI (M1 := M) ?_ Ch_rf ⟨eC M 1, ?_, J6_rf⟩
    · rw [ec11_nights, cM]
      simp only [Option.bind_some, Option.toList_some, Option.toList_none, List.cons_append, List.nil_append, bi_eq0, bi_eq1, bi_nem, if_true, if_false, ite_not, Classical.not_not, sg11_nights_8]
      rw [if_neg (hn0), ce _ 1 _ (by omega)]
      simp only [Option.bind_some, Option.toList_some, Option.toList_none, List.cons_append, List.nil_append, bi_eq0, bi_eq1, bi_nem, if_true, if_false, ite_not, Classical.not_not, sg11_nights_16]
    · rw [ec12_nights, mM]
      simp only [Option.bind_some, Option.toList_some, Option.toList_none, List.cons_append, List.nil_append, bi_eq0, bi_eq1, bi_nem, if_true, if_false, ite_not, Classical.not_not, sg12_nights_9]
      rw [if_neg (hn0), me1]
      simp only [Option.bind_some, Option.toList_some, Option.toList_none, List.cons_append, List.nil_append, bi_eq0, bi_eq1, bi_nem, if_true, if_false, ite_not, Classical.not_not, sg12_nights_18]
theorem po_then (d : Nat) (n b p : Int32) (M : am_M) (hI : IV M M) : PO d i11_then i12_then [.int n, .int b, .int p] M := by
  obtain ⟨nb, ng, hW, hg, hR, hD⟩ := hI.1
  have hn := hW.2.1
  have h7 : M 9 7 = nI nb := hR.1.trans hW.1
  have h8 : M 9 8 = nI ng := hR.2.1.trans hW.2.2.1
  have cB : ∀ (d' : Nat) (x : Int32) (N : am_M), N 9 7 = M 9 7 → am_call (d' + 2) i11_isBook [.ref 0, .int x] N = some (some (.int (bi (0 ≤ x.toInt ∧ x.toInt < nb))), N) := fun d' x N h => c_isBook d' x N nb (h.trans h7) hn
  have cP : ∀ (d' : Nat) (x : Int32) (N : am_M), N 9 7 = M 9 7 → am_call (d' + 2) i11_isPlace [.ref 0, .int x] N = some (some (.int (bi (0 ≤ x.toInt ∧ x.toInt < nb))), N) := fun d' x N h => c_isPlace d' x N nb (h.trans h7) hn
  have cPB : ∀ (d' : Nat) (x y : Int32) (N : am_M), N 9 7 = M 9 7 → am_call (d' + 3) i11_isPageOfBook [.ref 0, .int x, .int y] N = some (some (.int (bi ((0 ≤ x.toInt ∧ x.toInt < nb) ∧ 0 ≤ y.toInt ∧ y.toInt < 6))), N) := fun d' x y N h => c_isPageOfBook d' x y N nb (h.trans h7) hn
  have mB : ∀ (d' : Nat) (x : Int32) (N : am_M), N 69 = M 69 → am_call (d' + 2) i12_isBook [.ref 68, .int x] N = some (some (.int (bi (0 ≤ x.toInt ∧ x.toInt < nb))), N) := fun d' x N h => m_isBook d' x N nb (by rw [h]; exact hW.1) hn
  have cM : ∀ (d' : Nat) (x : Int32) (N : am_M), am_call (d' + 1) i11_isWithin [.int x, .int (nI 0), .int (nI 200)] N = some (some (.int (bi (0 ≤ x.toInt ∧ x.toInt < 201))), N) := fun d' x N => (cW d' x 0 200 N (by omega) (by omega)).trans (bi_out (by omega))
  have mM : ∀ (d' : Nat) (x : Int32) (N : am_M), am_call (d' + 1) i12_in [.long x.toInt64, .long (lN 0), .long (lN 200)] N = some (some (.int (bi (0 ≤ x.toInt ∧ x.toInt < 201))), N) := fun d' x N => (mW d' x 0 200 N (by omega) (by omega)).trans (bi_out (by omega))
  by_cases hn0 : 0 ≤ n.toInt ∧ n.toInt < 201
  · by_cases hb : 0 ≤ b.toInt ∧ b.toInt < nb
    · by_cases hp : 0 ≤ p.toInt ∧ p.toInt < 6
      · obtain ⟨n', hn', rfl⟩ := i32_of (n := 201) hn0.1 hn0.2 (by omega)
        obtain ⟨b', hb', rfl⟩ := i32_of (n := nb) hb.1 hb.2 (by omega)
        obtain ⟨p', hp', rfl⟩ := i32_of (n := 6) hp.1 hp.2 (by omega)
        obtain ⟨M1, a1, a2, a3⟩ := c_copyFrom (d + 58) 23 9 nb ng (by omega) (M 69) hW M hR
        obtain ⟨M2, b1, b2, b3⟩ := c_think (d + 54) nb ng 0 n' (by omega) (by omega) (M 69) hW M1 a2 (by rw [a3 33 (by decide), a3 34 (by decide)]; exact hD.2.2.2.2.2.2.2.1)
        have hc := c_said (d + 58) 23 (by omega) b' p' M2 (by omega)
        rw [(b2.2.2.1 b' hb').2.2.2 p' hp'] at hc
        have hC : Ch Cs M M2 := Ch_tr (Ch_mo a3 (by decide)) (Ch_mo b3 (by decide))
        have f69 : M2 69 = M 69 := hC 69 (by decide)
        obtain ⟨N1, q1, q2, q3⟩ := m_lays (d + 58) M2
        rw [f69] at q2
        have g69 : N1 69 = M 69 := (q3.1 69 (by decide) (by decide)).trans f69
        obtain ⟨N2, s1, s2, s3⟩ := m_go (d + 16) nb ng 0 n' (by omega) (by omega) N1 (by rw [g69]; exact hW) (by rw [g69]; exact TR_K hD.2.2.2.2.2.2.2.1)
        rw [g69] at s2
        obtain ⟨N3, t1, t2, t3⟩ := m_back (d + 58) (goS (M 69) nb ng 0 n' (2 + 9 * b' + (3 + p'))) (M 69) N2 (AS_J q2 s3 (by decide)) (fun j hj => by rw [s2]; exact goS_hi hW (by omega) n')
        refine PO_a hI (r := goS (M 69) nb ng 0 n' (2 + 9 * b' + (3 + p'))) (M1 := M2) ?_ hC ⟨N3, ?_, J6_69 (J6_tr (J6_tr (J6_mo q3 (by decide)) (J6_mo s3 (by decide))) (J6_mo t3 (by decide))) (t2.trans f69.symm)⟩
        · rw [ec11_then, cM]
          simp only [Option.bind_some, Option.toList_some, Option.toList_none, List.cons_append, List.nil_append, bi_eq0, bi_eq1, bi_nem, if_true, if_false, ite_not, Classical.not_not, sg11_then_8]
          rw [if_pos (hn0), cPB _ _ _ _ rfl]
          simp only [Option.bind_some, Option.toList_some, Option.toList_none, List.cons_append, List.nil_append, bi_eq0, bi_eq1, bi_nem, if_true, if_false, ite_not, Classical.not_not, sg11_then_17]
          rw [if_pos (⟨hb, hp⟩), a1]
          simp only [Option.bind_some, Option.toList_some, Option.toList_none, List.cons_append, List.nil_append, bi_eq0, bi_eq1, bi_nem, if_true, if_false, ite_not, Classical.not_not, sg11_then_37]
          rw [b1]
          simp only [Option.bind_some, Option.toList_some, Option.toList_none, List.cons_append, List.nil_append, bi_eq0, bi_eq1, bi_nem, if_true, if_false, ite_not, Classical.not_not, sg11_then_43]
          rw [hc]
          simp only [Option.bind_some, Option.toList_some, Option.toList_none, List.cons_append, List.nil_append, bi_eq0, bi_eq1, bi_nem, if_true, if_false, ite_not, Classical.not_not, sg11_then_52]
        · rw [ec12_then, mM]
          simp only [Option.bind_some, Option.toList_some, Option.toList_none, List.cons_append, List.nil_append, bi_eq0, bi_eq1, bi_nem, if_true, if_false, ite_not, Classical.not_not, sg12_then_9]
          rw [if_pos (hn0), mB _ _ _ f69]
          simp only [Option.bind_some, Option.toList_some, Option.toList_none, List.cons_append, List.nil_append, bi_eq0, bi_eq1, bi_nem, if_true, if_false, ite_not, Classical.not_not, sg12_then_17]
          rw [if_pos (hb), m_isPage]
          simp only [Option.bind_some, Option.toList_some, Option.toList_none, List.cons_append, List.nil_append, bi_eq0, bi_eq1, bi_nem, if_true, if_false, ite_not, Classical.not_not, sg12_then_24]
          rw [if_pos (hp), q1]
          simp only [Option.bind_some, Option.toList_some, Option.toList_none, List.cons_append, List.nil_append, bi_eq0, bi_eq1, bi_nem, if_true, if_false, ite_not, Classical.not_not, sg12_then_38]
          rw [pn0, s1]
          simp only [Option.bind_some, Option.toList_some, Option.toList_none, List.cons_append, List.nil_append, bi_eq0, bi_eq1, bi_nem, if_true, if_false, ite_not, Classical.not_not, sg12_then_44]
          rw [m_pageAt _ b' p' N2 (by omega)]
          simp only [Option.bind_some, Option.toList_some, Option.toList_none, List.cons_append, List.nil_append, bi_eq0, bi_eq1, bi_nem, if_true, if_false, ite_not, Classical.not_not, sg12_then_51]
          rw [s2, t1]
          simp only [Option.bind_some, Option.toList_some, Option.toList_none, List.cons_append, List.nil_append, bi_eq0, bi_eq1, bi_nem, if_true, if_false, ite_not, Classical.not_not, sg12_then_54]
      · refine PO_e (k := 1) hI (M1 := M) ?_ Ch_rf ⟨eC M 1, ?_, J6_rf⟩
        · rw [ec11_then, cM]
          simp only [Option.bind_some, Option.toList_some, Option.toList_none, List.cons_append, List.nil_append, bi_eq0, bi_eq1, bi_nem, if_true, if_false, ite_not, Classical.not_not, sg11_then_8]
          rw [if_pos (hn0), cPB _ _ _ _ rfl]
          simp only [Option.bind_some, Option.toList_some, Option.toList_none, List.cons_append, List.nil_append, bi_eq0, bi_eq1, bi_nem, if_true, if_false, ite_not, Classical.not_not, sg11_then_17]
          rw [if_neg (fun q => hp q.2), ce _ 1 _ (by omega)]
          simp only [Option.bind_some, Option.toList_some, Option.toList_none, List.cons_append, List.nil_append, bi_eq0, bi_eq1, bi_nem, if_true, if_false, ite_not, Classical.not_not, sg11_then_25]
        · rw [ec12_then, mM]
          simp only [Option.bind_some, Option.toList_some, Option.toList_none, List.cons_append, List.nil_append, bi_eq0, bi_eq1, bi_nem, if_true, if_false, ite_not, Classical.not_not, sg12_then_9]
          rw [if_pos (hn0), mB _ _ _ (eC_b (by decide))]
          simp only [Option.bind_some, Option.toList_some, Option.toList_none, List.cons_append, List.nil_append, bi_eq0, bi_eq1, bi_nem, if_true, if_false, ite_not, Classical.not_not, sg12_then_17]
          rw [if_pos (hb), m_isPage]
          simp only [Option.bind_some, Option.toList_some, Option.toList_none, List.cons_append, List.nil_append, bi_eq0, bi_eq1, bi_nem, if_true, if_false, ite_not, Classical.not_not, sg12_then_24]
          rw [if_neg (hp), me1]
          simp only [Option.bind_some, Option.toList_some, Option.toList_none, List.cons_append, List.nil_append, bi_eq0, bi_eq1, bi_nem, if_true, if_false, ite_not, Classical.not_not, sg12_then_33]
    · refine PO_e (k := 1) hI (M1 := M) ?_ Ch_rf ⟨eC M 1, ?_, J6_rf⟩
      · rw [ec11_then, cM]
        simp only [Option.bind_some, Option.toList_some, Option.toList_none, List.cons_append, List.nil_append, bi_eq0, bi_eq1, bi_nem, if_true, if_false, ite_not, Classical.not_not, sg11_then_8]
        rw [if_pos (hn0), cPB _ _ _ _ rfl]
        simp only [Option.bind_some, Option.toList_some, Option.toList_none, List.cons_append, List.nil_append, bi_eq0, bi_eq1, bi_nem, if_true, if_false, ite_not, Classical.not_not, sg11_then_17]
        rw [if_neg (fun q => hb q.1), ce _ 1 _ (by omega)]
        simp only [Option.bind_some, Option.toList_some, Option.toList_none, List.cons_append, List.nil_append, bi_eq0, bi_eq1, bi_nem, if_true, if_false, ite_not, Classical.not_not, sg11_then_25]
      · rw [ec12_then, mM]
        simp only [Option.bind_some, Option.toList_some, Option.toList_none, List.cons_append, List.nil_append, bi_eq0, bi_eq1, bi_nem, if_true, if_false, ite_not, Classical.not_not, sg12_then_9]
        rw [if_pos (hn0), mB _ _ _ (eC_b (by decide))]
        simp only [Option.bind_some, Option.toList_some, Option.toList_none, List.cons_append, List.nil_append, bi_eq0, bi_eq1, bi_nem, if_true, if_false, ite_not, Classical.not_not, sg12_then_17]
        rw [if_neg (hb), me1]
        simp only [Option.bind_some, Option.toList_some, Option.toList_none, List.cons_append, List.nil_append, bi_eq0, bi_eq1, bi_nem, if_true, if_false, ite_not, Classical.not_not, sg12_then_33]
  · refine PO_e (k := 1) hI (M1 := M) ?_ Ch_rf ⟨eC M 1, ?_, J6_rf⟩
    · rw [ec11_then, cM]
      simp only [Option.bind_some, Option.toList_some, Option.toList_none, List.cons_append, List.nil_append, bi_eq0, bi_eq1, bi_nem, if_true, if_false, ite_not, Classical.not_not, sg11_then_8]
      rw [if_neg (hn0), ce _ 1 _ (by omega)]
      simp only [Option.bind_some, Option.toList_some, Option.toList_none, List.cons_append, List.nil_append, bi_eq0, bi_eq1, bi_nem, if_true, if_false, ite_not, Classical.not_not, sg11_then_25]
    · rw [ec12_then, mM]
      simp only [Option.bind_some, Option.toList_some, Option.toList_none, List.cons_append, List.nil_append, bi_eq0, bi_eq1, bi_nem, if_true, if_false, ite_not, Classical.not_not, sg12_then_9]
      rw [if_neg (hn0), me1]
      simp only [Option.bind_some, Option.toList_some, Option.toList_none, List.cons_append, List.nil_append, bi_eq0, bi_eq1, bi_nem, if_true, if_false, ite_not, Classical.not_not, sg12_then_33]
