/-! the public calls: book, ofBook, as -/
def zr (f : Nat → Int32) (a n j : Nat) : Int32 := if a ≤ j ∧ j < a + n then nI 0 else f j
theorem zr_0 (f : Nat → Int32) (a : Nat) : zr f a 0 = f := funext fun j => if_neg (by omega)
theorem zr_in {f : Nat → Int32} {a n j : Nat} (h : a ≤ j ∧ j < a + n) : zr f a n j = nI 0 := if_pos h
theorem zr_out {f : Nat → Int32} {a n j : Nat} (h : ¬ (a ≤ j ∧ j < a + n)) : zr f a n j = f j := if_neg h
theorem zr_up (f : Nat → Int32) (a n : Nat) : upd (zr f a n) (a + n) (nI 0) = zr f a (n + 1) := by
  funext j
  by_cases e : j = a + n
  · subst e; rw [upd_eq, zr_in (by omega)]
  · rw [upd_ne e]
    by_cases c : a ≤ j ∧ j < a + n
    · rw [zr_in c, zr_in (by omega)]
    · rw [zr_out c, zr_out (by omega)]
def adM (M : am_M) (nb : Nat) (x y : Int32) : am_M := am_up (am_up (am_up (am_up M 10 nb x) 11 nb y) 14 nb (nI nb)) 9 7 (nI (nb + 1))
theorem c_addBook (d : Nat) (x y : Int32) (M : am_M) (nb : Nat) (h7 : M 9 7 = nI nb) (hb : nb < 6) : am_call (d + 1) i8_addBook [.ref 9, .int x, .int y] M = some (some (.int (nI nb)), adM M nb x y) := by
  rw [ec8_addBook, h7]
  simp (disch := omega) only [false_or, nle9, nI_dec9, nI_add, pk_mul, pk_sub, nI_clamp, nI_in9, nI_pos9, nI_lt9, nI_le9, nI_eq9, nI_eq09, nI_le09, am_k_m1, if_true, if_false, ite_not, Classical.not_not]
  rw [au_b (by decide), au_b (by decide), au_b (by decide), h7, nI_add]
  rfl
def bkS (S : Nat → Int32) (nb : Nat) (x y : Int32) : Nat → Int32 := upd (upd (upd (upd (zr S (2 + 9 * nb) 9) (2 + 9 * nb + 0) x) (2 + 9 * nb + 1) y) (56 + nb) (nI nb)) 1 (nI (nb + 1))
theorem m_book_l (d : Nat) (x : Int32) (M : am_M) (S : Nat → Int32) (nb : Nat) (hb : nb < 6) : ∀ (k i : Nat), i + k = 9 → am_lim (am_call (d + 1)) (am_R i12_book) (am_tx i12_book) 41 [.ref 68, .int x, .int (nI nb), .int (nI i)] [] (am_setc M 69 (zr S (2 + 9 * nb) i)) = am_lim (am_call (d + 1)) (am_R i12_book) (am_tx i12_book) 41 [.ref 68, .int x, .int (nI nb), .int (nI 9)] [] (am_setc M 69 (zr S (2 + 9 * nb) 9))
  | 0, i, h => by
    have : i = 9 := by omega
    subst this
    rfl
  | k + 1, i, h => by
    rw [← m_book_l d x M S nb hb k (i + 1) (by omega), sg12_book_41]
    simp (disch := omega) only [false_or, nle9, nI_dec9, nI_add, pk_mul, pk_sub, nI_clamp, nI_in9, nI_pos9, nI_lt9, nI_le9, nI_eq9, nI_eq09, nI_le09, am_k_m1, if_true, if_false, ite_not, Classical.not_not]
    rw [if_pos (by omega), m_spot]
    simp only [Option.bind_some, Option.toList_some, Option.toList_none, List.cons_append, List.nil_append, bi_eq0, bi_eq1, bi_nem, if_true, if_false, ite_not, Classical.not_not, sg12_book_56]
    simp (disch := omega) only [false_or, nle9, nI_dec9, nI_add, pk_mul, pk_sub, nI_clamp, nI_in9, nI_pos9, nI_lt9, nI_le9, nI_eq9, nI_eq09, nI_le09, am_k_m1, if_true, if_false, ite_not, Classical.not_not]
    rw [up_sc, zr_up]
theorem m_book_e (d : Nat) (x y : Int32) (k : Nat) (M : am_M) (S : Nat → Int32) (nb : Nat) (hb : nb < 6) (hS : S 1 = nI nb) (e1 : nI k / nI 10 = x) (e2 : nI k - nI k / nI 10 * nI 10 = y) : am_lim (am_call (d + 1)) (am_R i12_book) (am_tx i12_book) 41 [.ref 68, .int (nI k), .int (nI nb), .int (nI 0)] [] (am_setc M 69 S) = some (some (.int (nI nb)), am_setc M 69 (bkS S nb x y)) := by
  have h := m_book_l d (nI k) M S nb hb 9 0 rfl
  rw [zr_0] at h
  rw [h, sg12_book_41, if_neg (by decide +kernel), m_spot]
  simp only [Option.bind_some, Option.toList_some, Option.toList_none, List.cons_append, List.nil_append, bi_eq0, bi_eq1, bi_nem, if_true, if_false, ite_not, Classical.not_not, sg12_book_73]
  simp (disch := omega) only [false_or, nle9, nI_dec9, nI_add, pk_mul, pk_sub, nI_clamp, nI_in9, nI_pos9, nI_lt9, nI_le9, nI_eq9, nI_eq09, nI_le09, am_k_m1, if_true, if_false, ite_not, Classical.not_not]
  rw [m_spot]
  simp only [Option.bind_some, Option.toList_some, Option.toList_none, List.cons_append, List.nil_append, bi_eq0, bi_eq1, bi_nem, if_true, if_false, ite_not, Classical.not_not, sg12_book_87]
  simp (disch := omega) only [false_or, nle9, nI_dec9, nI_add, pk_mul, pk_sub, nI_clamp, nI_in9, nI_pos9, nI_lt9, nI_le9, nI_eq9, nI_eq09, nI_le09, am_k_m1, if_true, if_false, ite_not, Classical.not_not, up_sc, stc_eq]
  rw [e2, e1]
  have hz : upd (upd (upd (zr S (2 + 9 * nb) 9) (2 + 9 * nb + 0) x) (2 + 9 * nb + 1) y) (56 + nb) (nI nb) 1 = nI nb := by
    rw [upd_ne (by omega), upd_ne (by omega), upd_ne (by omega), zr_out (by omega), hS]
  rw [hz, nI_add]
  rfl
theorem bkS_WS {S : Nat → Int32} {nb ng k m : Nat} (h : WS S nb ng) (hb : nb < 6) (hk : k ≤ 6) (hm : m ≤ 9) : WS (bkS S nb (nI k) (nI m)) (nb + 1) ng := by
  obtain ⟨w1, w2, w3, w4, p1, p2, p3⟩ := h
  have hr : ∀ i, i < nb → bkS S nb (nI k) (nI m) (56 + i) = S (56 + i) := fun i hi => by
    unfold bkS
    rw [upd_ne (by omega), upd_ne (by omega), upd_ne (by omega), upd_ne (by omega), zr_out (by omega)]
  have hrn : bkS S nb (nI k) (nI m) (56 + nb) = nI nb := by
    unfold bkS
    rw [upd_ne (by omega), upd_eq]
  have ne : ∀ i, i < nb → S (56 + i) ≠ nI nb := fun i hi q => by
    obtain ⟨b, x1, x2⟩ := p1 i hi
    have x3 : nI b = nI nb := x2.symm.trans q
    rw [nI_eq9 (by omega) (by omega)] at x3
    omega
  refine ⟨?_, by omega, ?_, fun b hb' => ?_, fun i hi => ?_, fun b hb' => ?_, fun i j hi hj e => ?_⟩
  · unfold bkS; rw [upd_eq]
  · unfold bkS
    rw [upd_ne (by omega), upd_ne (by omega), upd_ne (by omega), upd_ne (by omega), zr_out (by omega)]
    exact w3
  · by_cases e : b = nb
    · subst e
      refine ⟨⟨k, hk, ?_⟩, ⟨m, hm, ?_⟩, Or.inl ?_, fun p hp => ⟨0, by omega, ?_⟩⟩
      · unfold bkS; rw [upd_ne (by omega), upd_ne (by omega), upd_ne (by omega)]; exact upd_eq
      · unfold bkS; rw [upd_ne (by omega), upd_ne (by omega), upd_eq]
      · unfold bkS; rw [upd_ne (by omega), upd_ne (by omega), upd_ne (by omega), upd_ne (by omega), zr_in (by omega)]
      · unfold bkS; rw [upd_ne (by omega), upd_ne (by omega), upd_ne (by omega), upd_ne (by omega), zr_in (by omega)]
    · have q : ∀ w, w < 9 → bkS S nb (nI k) (nI m) (2 + 9 * b + w) = S (2 + 9 * b + w) := fun w hw => by
        unfold bkS
        rw [upd_ne (by omega), upd_ne (by omega), upd_ne (by omega), upd_ne (by omega), zr_out (by omega)]
      obtain ⟨a1, a2, a3, a4⟩ := w4 b (by omega)
      refine ⟨?_, ?_, ?_, fun p hp => ?_⟩
      · rw [show bkS S nb (nI k) (nI m) (2 + 9 * b) = S (2 + 9 * b) from q 0 (by omega)]; exact a1
      · rw [q 1 (by omega)]; exact a2
      · rw [q 2 (by omega)]; exact a3
      · rw [q (3 + p) (by omega)]; exact a4 p hp
  · by_cases c : i = nb
    · subst c; exact ⟨i, by omega, hrn⟩
    · obtain ⟨b, x1, x2⟩ := p1 i (by omega)
      exact ⟨b, by omega, (hr i (by omega)).trans x2⟩
  · by_cases c : b = nb
    · subst c; exact ⟨b, by omega, hrn⟩
    · obtain ⟨i, x1, x2⟩ := p2 b (by omega)
      exact ⟨i, by omega, (hr i x1).trans x2⟩
  · change bkS S nb (nI k) (nI m) (56 + i) = bkS S nb (nI k) (nI m) (56 + j) at e
    by_cases ci : i = nb
    · by_cases cj : j = nb
      · omega
      · subst ci
        rw [hrn, hr j (by omega)] at e
        exact absurd e.symm (ne j (by omega))
    · by_cases cj : j = nb
      · subst cj
        rw [hrn, hr i (by omega)] at e
        exact absurd e (ne i (by omega))
      · rw [hr i (by omega), hr j (by omega)] at e
        exact p3 i j (by omega) (by omega) e
theorem bkS_RS {M M2 : am_M} {S : Nat → Int32} {nb : Nat} {x y : Int32} (h : RS M 9 S nb) (hb : nb < 6) (he : ∀ a, a ≠ 69 → M2 a = adM M nb x y a) : RS M2 9 (bkS S nb x y) (nb + 1) := by
  obtain ⟨r1, r2, r3, r4, r5⟩ := h
  have z12 : M2 (9 + 3) = M 12 := by
    rw [he (9 + 3) (by decide)]; unfold adM
    rw [au_b (by decide), au_b (by decide), au_b (by decide), au_b (by decide)]
  have z13 : M2 (9 + 4) = M 13 := by
    rw [he (9 + 4) (by decide)]; unfold adM
    rw [au_b (by decide), au_b (by decide), au_b (by decide), au_b (by decide)]
  refine ⟨?_, ?_, fun b hb' => ⟨?_, ?_, ?_, fun p hp => ?_⟩, fun i hi => ?_, fun b hb' h6 => ?_, fun b hb' h6 p hp => ?_⟩
  · rw [he 9 (by decide)]; unfold adM bkS; rw [au_s, upd_eq]
  · rw [he 9 (by decide)]; unfold adM bkS
    rw [au_j (by decide), au_b (by decide), au_b (by decide), au_b (by decide), upd_ne (by omega), upd_ne (by omega), upd_ne (by omega), upd_ne (by omega), zr_out (by omega)]
    exact r2
  · rw [he (9 + 1) (by decide)]; unfold adM bkS
    rw [au_b (by decide), au_b (by decide), au_b (by decide)]
    by_cases e : b = nb
    · subst e
      rw [upd_ne (by omega), upd_ne (by omega), upd_ne (by omega)]
      exact au_s.trans upd_eq.symm
    · rw [au_j e, upd_ne (by omega), upd_ne (by omega), upd_ne (by omega), upd_ne (by omega), zr_out (by omega)]
      exact (r3 b (by omega)).1
  · rw [he (9 + 2) (by decide)]; unfold adM bkS
    rw [au_b (by decide), au_b (by decide)]
    by_cases e : b = nb
    · subst e
      rw [upd_ne (by omega), upd_ne (by omega), upd_eq]
      exact au_s
    · rw [au_j e, au_b (by decide), upd_ne (by omega), upd_ne (by omega), upd_ne (by omega), upd_ne (by omega), zr_out (by omega)]
      exact (r3 b (by omega)).2.1
  · rw [z12]; unfold bkS
    by_cases e : b = nb
    · subst e
      rw [upd_ne (by omega), upd_ne (by omega), upd_ne (by omega), upd_ne (by omega), zr_in (by omega)]
      exact r5.1 b (Nat.le_refl _) hb
    · rw [upd_ne (by omega), upd_ne (by omega), upd_ne (by omega), upd_ne (by omega), zr_out (by omega)]
      exact (r3 b (by omega)).2.2.1
  · rw [z13]; unfold bkS
    by_cases e : b = nb
    · subst e
      rw [upd_ne (by omega), upd_ne (by omega), upd_ne (by omega), upd_ne (by omega), zr_in (by omega)]
      exact r5.2 b (Nat.le_refl _) hb p hp
    · rw [upd_ne (by omega), upd_ne (by omega), upd_ne (by omega), upd_ne (by omega), zr_out (by omega)]
      exact (r3 b (by omega)).2.2.2 p hp
  · rw [he (9 + 5) (by decide)]; unfold adM bkS
    rw [au_b (by decide)]
    by_cases e : i = nb
    · subst e
      rw [upd_ne (by omega), upd_eq]
      exact au_s
    · rw [au_j e, au_b (by decide), au_b (by decide), upd_ne (by omega), upd_ne (by omega), upd_ne (by omega), upd_ne (by omega), zr_out (by omega)]
      exact r4 i (by omega)
  · rw [z12]; exact r5.1 b (by omega) h6
  · rw [z13]; exact r5.2 b (by omega) h6 p hp
theorem po_book (d : Nat) (k : Int32) (M : am_M) (hI : IV M M) : PO d i11_book i12_book [.int k] M := by
  obtain ⟨nb, ng, hW, hg, hR, hD⟩ := hI.1
  have hn := hW.2.1
  have h7 : M 9 7 = nI nb := hR.1.trans hW.1
  have h8 : M 9 8 = nI ng := hR.2.1.trans hW.2.2.1
  have cB : ∀ (d' : Nat) (x : Int32) (N : am_M), N 9 7 = M 9 7 → am_call (d' + 2) i11_isBook [.ref 0, .int x] N = some (some (.int (bi (0 ≤ x.toInt ∧ x.toInt < nb))), N) := fun d' x N h => c_isBook d' x N nb (h.trans h7) hn
  have cP : ∀ (d' : Nat) (x : Int32) (N : am_M), N 9 7 = M 9 7 → am_call (d' + 2) i11_isPlace [.ref 0, .int x] N = some (some (.int (bi (0 ≤ x.toInt ∧ x.toInt < nb))), N) := fun d' x N h => c_isPlace d' x N nb (h.trans h7) hn
  have cPB : ∀ (d' : Nat) (x y : Int32) (N : am_M), N 9 7 = M 9 7 → am_call (d' + 3) i11_isPageOfBook [.ref 0, .int x, .int y] N = some (some (.int (bi ((0 ≤ x.toInt ∧ x.toInt < nb) ∧ 0 ≤ y.toInt ∧ y.toInt < 6))), N) := fun d' x y N h => c_isPageOfBook d' x y N nb (h.trans h7) hn
  have mB : ∀ (d' : Nat) (x : Int32) (N : am_M), N 69 = M 69 → am_call (d' + 2) i12_isBook [.ref 68, .int x] N = some (some (.int (bi (0 ≤ x.toInt ∧ x.toInt < nb))), N) := fun d' x N h => m_isBook d' x N nb (by rw [h]; exact hW.1) hn
  have cM70 : ∀ (d' : Nat) (x : Int32) (N : am_M), am_call (d' + 1) i11_isWithin [.int x, .int (nI 0), .int (nI 69)] N = some (some (.int (bi (0 ≤ x.toInt ∧ x.toInt < 70))), N) := fun d' x N => (cW d' x 0 69 N (by omega) (by omega)).trans (bi_out (by omega))
  by_cases hk : 0 ≤ k.toInt ∧ k.toInt < 70
  · by_cases h6 : nb < 6
    · obtain ⟨k', hk', rfl⟩ := i32_of (n := 70) hk.1 hk.2 (by omega)
      have e1 : nI k' / nI 10 = nI (k' / 10) := pk_div (by omega) (by omega) (by omega)
      have e2 : nI k' - nI k' / nI 10 * nI 10 = nI (k' % 10) := pk_rem (by omega) (by omega) (by omega)
      have hJ : J6 [9, 10, 11, 12, 13, 14, 69] M (am_setc (adM M nb (nI (k' / 10)) (nI (k' % 10))) 69 (bkS (M 69) nb (nI (k' / 10)) (nI (k' % 10)))) := by
        unfold adM
        refine J6_tr (J6_tr (J6_tr (J6_tr (J6_up ?_ ?_) (J6_up ?_ ?_)) (J6_up ?_ ?_)) (J6_up ?_ ?_)) (J6_sc ?_ ?_) <;> decide
      have h69 : adM M nb (nI (k' / 10)) (nI (k' % 10)) 69 = M 69 := by
        unfold adM
        rw [au_b (by decide), au_b (by decide), au_b (by decide), au_b (by decide)]
      refine ⟨nI nb, adM M nb (nI (k' / 10)) (nI (k' % 10)), am_setc (adM M nb (nI (k' / 10)) (nI (k' % 10))) 69 (bkS (M 69) nb (nI (k' / 10)) (nI (k' % 10))), ?_, ?_, IV_S hI hJ (by decide) ⟨nb + 1, ng, ?_, hg, ?_, ?_⟩⟩
      · rw [ec11_book, cM70]
        simp only [Option.bind_some, Option.toList_some, Option.toList_none, List.cons_append, List.nil_append, bi_eq0, bi_eq1, bi_nem, if_true, if_false, ite_not, Classical.not_not, sg11_book_7]
        rw [if_pos (hk), h7]
        simp (disch := omega) only [false_or, nle9, nI_dec9, nI_add, pk_mul, pk_sub, nI_clamp, nI_in9, nI_pos9, nI_lt9, nI_le9, nI_eq9, nI_eq09, nI_le09, am_k_m1, if_true, if_false, ite_not, Classical.not_not]
        rw [if_pos (h6), e2, e1, c_addBook _ _ _ M nb h7 h6]
        simp only [Option.bind_some, Option.toList_some, Option.toList_none, List.cons_append, List.nil_append, bi_eq0, bi_eq1, bi_nem, if_true, if_false, ite_not, Classical.not_not, sg11_book_49]
      · rw [ec12_book, m_isMind]
        simp only [Option.bind_some, Option.toList_some, Option.toList_none, List.cons_append, List.nil_append, bi_eq0, bi_eq1, bi_nem, if_true, if_false, ite_not, Classical.not_not, sg12_book_4]
        rw [if_pos (hk), h69, hW.1]
        simp (disch := omega) only [false_or, nle9, nI_dec9, nI_add, pk_mul, pk_sub, nI_clamp, nI_in9, nI_pos9, nI_lt9, nI_le9, nI_eq9, nI_eq09, nI_le09, am_k_m1, if_true, if_false, ite_not, Classical.not_not]
        rw [if_neg (by omega)]
        have hm := m_book_e (d + 58) (nI (k' / 10)) (nI (k' % 10)) k' (adM M nb (nI (k' / 10)) (nI (k' % 10))) (adM M nb (nI (k' / 10)) (nI (k' % 10)) 69) nb h6 (by rw [h69]; exact hW.1) e1 e2
        rw [stc_self, h69] at hm
        exact hm
      · rw [stc_eq]
        exact bkS_WS hW h6 (by omega) (by omega)
      · rw [stc_eq]
        exact bkS_RS hR h6 (fun a ha => stc_ne ha)
      · rw [stc_eq]
        exact RD_S hD (fun j hj => by unfold bkS; rw [upd_ne (by omega), upd_ne (by omega), upd_ne (by omega), upd_ne (by omega), zr_out (by omega)]) (fun a ha => J6_c hJ (by revert a; decide) (by revert a; decide))
    · refine PO_e (k := 4) hI (M1 := M) ?_ Ch_rf ⟨eC M 4, ?_, J6_rf⟩
      · rw [ec11_book, cM70]
        simp only [Option.bind_some, Option.toList_some, Option.toList_none, List.cons_append, List.nil_append, bi_eq0, bi_eq1, bi_nem, if_true, if_false, ite_not, Classical.not_not, sg11_book_7]
        rw [if_pos (hk), h7]
        simp (disch := omega) only [false_or, nle9, nI_dec9, nI_add, pk_mul, pk_sub, nI_clamp, nI_in9, nI_pos9, nI_lt9, nI_le9, nI_eq9, nI_eq09, nI_le09, am_k_m1, if_true, if_false, ite_not, Classical.not_not]
        rw [if_neg (h6), ce _ 4 _ (by omega)]
        simp only [Option.bind_some, Option.toList_some, Option.toList_none, List.cons_append, List.nil_append, bi_eq0, bi_eq1, bi_nem, if_true, if_false, ite_not, Classical.not_not, sg11_book_33]
      · rw [ec12_book, m_isMind]
        simp only [Option.bind_some, Option.toList_some, Option.toList_none, List.cons_append, List.nil_append, bi_eq0, bi_eq1, bi_nem, if_true, if_false, ite_not, Classical.not_not, sg12_book_4]
        rw [if_pos (hk), eC_b (by decide), hW.1]
        simp (disch := omega) only [false_or, nle9, nI_dec9, nI_add, pk_mul, pk_sub, nI_clamp, nI_in9, nI_pos9, nI_lt9, nI_le9, nI_eq9, nI_eq09, nI_le09, am_k_m1, if_true, if_false, ite_not, Classical.not_not]
        rw [if_pos (by omega), me4]
        simp only [Option.bind_some, Option.toList_some, Option.toList_none, List.cons_append, List.nil_append, bi_eq0, bi_eq1, bi_nem, if_true, if_false, ite_not, Classical.not_not, sg12_book_31]
  · refine PO_e (k := 1) hI (M1 := M) ?_ Ch_rf ⟨eC M 1, ?_, J6_rf⟩
    · rw [ec11_book, cM70]
      simp only [Option.bind_some, Option.toList_some, Option.toList_none, List.cons_append, List.nil_append, bi_eq0, bi_eq1, bi_nem, if_true, if_false, ite_not, Classical.not_not, sg11_book_7]
      rw [if_neg (hk), ce _ 1 _ (by omega)]
      simp only [Option.bind_some, Option.toList_some, Option.toList_none, List.cons_append, List.nil_append, bi_eq0, bi_eq1, bi_nem, if_true, if_false, ite_not, Classical.not_not, sg11_book_15]
    · rw [ec12_book, m_isMind]
      simp only [Option.bind_some, Option.toList_some, Option.toList_none, List.cons_append, List.nil_append, bi_eq0, bi_eq1, bi_nem, if_true, if_false, ite_not, Classical.not_not, sg12_book_4]
      rw [if_neg (hk), me1]
      simp only [Option.bind_some, Option.toList_some, Option.toList_none, List.cons_append, List.nil_append, bi_eq0, bi_eq1, bi_nem, if_true, if_false, ite_not, Classical.not_not, sg12_book_13]
theorem po_ofBook (d : Nat) (b w : Int32) (M : am_M) (hI : IV M M) : PO d i11_ofBook i12_ofBook [.int b, .int w] M := by
  obtain ⟨nb, ng, hW, hg, hR, hD⟩ := hI.1
  have hn := hW.2.1
  have h7 : M 9 7 = nI nb := hR.1.trans hW.1
  have h8 : M 9 8 = nI ng := hR.2.1.trans hW.2.2.1
  have cB : ∀ (d' : Nat) (x : Int32) (N : am_M), N 9 7 = M 9 7 → am_call (d' + 2) i11_isBook [.ref 0, .int x] N = some (some (.int (bi (0 ≤ x.toInt ∧ x.toInt < nb))), N) := fun d' x N h => c_isBook d' x N nb (h.trans h7) hn
  have cP : ∀ (d' : Nat) (x : Int32) (N : am_M), N 9 7 = M 9 7 → am_call (d' + 2) i11_isPlace [.ref 0, .int x] N = some (some (.int (bi (0 ≤ x.toInt ∧ x.toInt < nb))), N) := fun d' x N h => c_isPlace d' x N nb (h.trans h7) hn
  have cPB : ∀ (d' : Nat) (x y : Int32) (N : am_M), N 9 7 = M 9 7 → am_call (d' + 3) i11_isPageOfBook [.ref 0, .int x, .int y] N = some (some (.int (bi ((0 ≤ x.toInt ∧ x.toInt < nb) ∧ 0 ≤ y.toInt ∧ y.toInt < 6))), N) := fun d' x y N h => c_isPageOfBook d' x y N nb (h.trans h7) hn
  have mB : ∀ (d' : Nat) (x : Int32) (N : am_M), N 69 = M 69 → am_call (d' + 2) i12_isBook [.ref 68, .int x] N = some (some (.int (bi (0 ≤ x.toInt ∧ x.toInt < nb))), N) := fun d' x N h => m_isBook d' x N nb (by rw [h]; exact hW.1) hn
  have mM7 : ∀ (d' : Nat) (x : Int32) (N : am_M), am_call (d' + 1) i12_in [.long x.toInt64, .long (lN 0), .long (lN 6)] N = some (some (.int (bi (0 ≤ x.toInt ∧ x.toInt < 7))), N) := fun d' x N => (mW d' x 0 6 N (by omega) (by omega)).trans (bi_out (by omega))
  by_cases hb : 0 ≤ b.toInt ∧ b.toInt < nb
  · by_cases hw : 0 ≤ w.toInt ∧ w.toInt < 7
    · obtain ⟨b', hb', rfl⟩ := i32_of (n := nb) hb.1 hb.2 (by omega)
      obtain ⟨w', hw', rfl⟩ := i32_of (n := 7) hw.1 hw.2 (by omega)
      have h7c : w' = 0 ∨ w' = 1 ∨ w' = 2 ∨ w' = 3 ∨ w' = 4 ∨ w' = 5 ∨ w' = 6 := by omega
      rcases h7c with rfl | rfl | rfl | rfl | rfl | rfl | rfl
      · refine PO_a hI (r := M 69 (2 + 9 * b')) (M1 := M) ?_ Ch_rf ⟨M, ?_, J6_rf⟩
        · rw [ec11_ofBook, cB _ _ _ rfl]
          simp only [Option.bind_some, Option.toList_some, Option.toList_none, List.cons_append, List.nil_append, bi_eq0, bi_eq1, bi_nem, if_true, if_false, ite_not, Classical.not_not, sg11_ofBook_5]
          rw [if_pos (hb)]
          simp (disch := omega) only [false_or, nle9, nI_dec9, nI_add, pk_mul, pk_sub, nI_clamp, nI_in9, nI_pos9, nI_lt9, nI_le9, nI_eq9, nI_eq09, nI_le09, am_k_m1, if_true, if_false, ite_not, Classical.not_not]
          rw [show M 10 b' = M 69 (2 + 9 * b') from (hR.2.2.1 b' hb').1]
        · rw [ec12_ofBook, mB _ _ _ rfl]
          simp only [Option.bind_some, Option.toList_some, Option.toList_none, List.cons_append, List.nil_append, bi_eq0, bi_eq1, bi_nem, if_true, if_false, ite_not, Classical.not_not, sg12_ofBook_5]
          rw [if_pos (hb), mM7]
          simp only [Option.bind_some, Option.toList_some, Option.toList_none, List.cons_append, List.nil_append, bi_eq0, bi_eq1, bi_nem, if_true, if_false, ite_not, Classical.not_not, sg12_ofBook_17]
          rw [if_pos (hw), m_its _ b' 0 M (by omega)]
          simp only [Option.bind_some, Option.toList_some, Option.toList_none, List.cons_append, List.nil_append, bi_eq0, bi_eq1, bi_nem, if_true, if_false, ite_not, Classical.not_not, sg12_ofBook_74, Nat.add_zero]
      · refine PO_a hI (r := M 69 (2 + 9 * b' + 1)) (M1 := M) ?_ Ch_rf ⟨M, ?_, J6_rf⟩
        · rw [ec11_ofBook, cB _ _ _ rfl]
          simp only [Option.bind_some, Option.toList_some, Option.toList_none, List.cons_append, List.nil_append, bi_eq0, bi_eq1, bi_nem, if_true, if_false, ite_not, Classical.not_not, sg11_ofBook_5]
          rw [if_pos (hb)]
          simp (disch := omega) only [nI_eq9, Nat.reduceEqDiff, if_true, if_false]
          simp (disch := omega) only [false_or, nle9, nI_dec9, nI_add, pk_mul, pk_sub, nI_clamp, nI_in9, nI_pos9, nI_lt9, nI_le9, nI_eq9, nI_eq09, nI_le09, am_k_m1, if_true, if_false, ite_not, Classical.not_not]
          rw [show M 11 b' = M 69 (2 + 9 * b' + 1) from (hR.2.2.1 b' hb').2.1]
        · rw [ec12_ofBook, mB _ _ _ rfl]
          simp only [Option.bind_some, Option.toList_some, Option.toList_none, List.cons_append, List.nil_append, bi_eq0, bi_eq1, bi_nem, if_true, if_false, ite_not, Classical.not_not, sg12_ofBook_5]
          rw [if_pos (hb), mM7]
          simp only [Option.bind_some, Option.toList_some, Option.toList_none, List.cons_append, List.nil_append, bi_eq0, bi_eq1, bi_nem, if_true, if_false, ite_not, Classical.not_not, sg12_ofBook_17]
          rw [if_pos (hw)]
          simp (disch := omega) only [nI_eq9, Nat.reduceEqDiff, if_true, if_false]
          rw [m_its _ b' 1 M (by omega)]
          simp only [Option.bind_some, Option.toList_some, Option.toList_none, List.cons_append, List.nil_append, bi_eq0, bi_eq1, bi_nem, if_true, if_false, ite_not, Classical.not_not, sg12_ofBook_81]
      · obtain ⟨f, hf, z, hz⟩ := WS_pl hW hb'
        refine PO_a hI (r := nI f) (M1 := M) ?_ Ch_rf ⟨M, ?_, J6_rf⟩
        · rw [ec11_ofBook, cB _ _ _ rfl]
          simp only [Option.bind_some, Option.toList_some, Option.toList_none, List.cons_append, List.nil_append, bi_eq0, bi_eq1, bi_nem, if_true, if_false, ite_not, Classical.not_not, sg11_ofBook_5]
          rw [if_pos (hb)]
          simp (disch := omega) only [nI_eq9, Nat.reduceEqDiff, if_true, if_false]
          rw [c_placeOf _ 9 (by omega) _ M nb f h7 hn hf ((hR.2.2.2.1 f hf).trans z) (fun j hj => by show M 14 j ≠ _; rw [show M 14 j = M 69 (56 + j) from hR.2.2.2.1 j (by omega)]; exact hz j hj)]
          simp only [Option.bind_some, Option.toList_some, Option.toList_none, List.cons_append, List.nil_append, bi_eq0, bi_eq1, bi_nem, if_true, if_false, ite_not, Classical.not_not, sg11_ofBook_84]
        · rw [ec12_ofBook, mB _ _ _ rfl]
          simp only [Option.bind_some, Option.toList_some, Option.toList_none, List.cons_append, List.nil_append, bi_eq0, bi_eq1, bi_nem, if_true, if_false, ite_not, Classical.not_not, sg12_ofBook_5]
          rw [if_pos (hb), mM7]
          simp only [Option.bind_some, Option.toList_some, Option.toList_none, List.cons_append, List.nil_append, bi_eq0, bi_eq1, bi_nem, if_true, if_false, ite_not, Classical.not_not, sg12_ofBook_17]
          rw [if_pos (hw)]
          simp (disch := omega) only [nI_eq9, Nat.reduceEqDiff, if_true, if_false]
          rw [m_placeOf _ _ M f (by omega) z hz]
          simp only [Option.bind_some, Option.toList_some, Option.toList_none, List.cons_append, List.nil_append, bi_eq0, bi_eq1, bi_nem, if_true, if_false, ite_not, Classical.not_not, sg12_ofBook_87]
      · have hold : M 12 b' = M 69 (2 + 9 * b' + 2) := (hR.2.2.1 b' hb').2.2.1
        have hg01 := (hW.2.2.2.1 b' hb').2.2.1
        refine PO_a hI (r := M 69 (2 + 9 * b' + 2)) (M1 := M) ?_ Ch_rf ⟨M, ?_, J6_rf⟩
        · rw [ec11_ofBook, cB _ _ _ rfl]
          simp only [Option.bind_some, Option.toList_some, Option.toList_none, List.cons_append, List.nil_append, bi_eq0, bi_eq1, bi_nem, if_true, if_false, ite_not, Classical.not_not, sg11_ofBook_5]
          rw [if_pos (hb)]
          simp (disch := omega) only [nI_eq9, Nat.reduceEqDiff, if_true, if_false]
          simp (disch := omega) only [false_or, nle9, nI_dec9, nI_add, pk_mul, pk_sub, nI_clamp, nI_in9, nI_pos9, nI_lt9, nI_le9, nI_eq9, nI_eq09, nI_le09, am_k_m1, if_true, if_false, ite_not, Classical.not_not]
          rw [hold]
          rcases hg01 with y | y
          · rw [y, if_pos nI_0]
          · rw [y, if_neg (show ¬ nI 1 = 0 by decide +kernel)]
        · rw [ec12_ofBook, mB _ _ _ rfl]
          simp only [Option.bind_some, Option.toList_some, Option.toList_none, List.cons_append, List.nil_append, bi_eq0, bi_eq1, bi_nem, if_true, if_false, ite_not, Classical.not_not, sg12_ofBook_5]
          rw [if_pos (hb), mM7]
          simp only [Option.bind_some, Option.toList_some, Option.toList_none, List.cons_append, List.nil_append, bi_eq0, bi_eq1, bi_nem, if_true, if_false, ite_not, Classical.not_not, sg12_ofBook_17]
          rw [if_pos (hw)]
          simp (disch := omega) only [nI_eq9, Nat.reduceEqDiff, if_true, if_false]
          rw [m_its _ b' 2 M (by omega)]
          simp only [Option.bind_some, Option.toList_some, Option.toList_none, List.cons_append, List.nil_append, bi_eq0, bi_eq1, bi_nem, if_true, if_false, ite_not, Classical.not_not, sg12_ofBook_94]
      · obtain ⟨M1, a1, a2⟩ := c_senseOf (d + 55) 9 b' nb (by omega) hb' hn (M 69) M hR hD.2.2.2.2.2.2.2.2
        have f1 : M1 69 = M 69 := a2 69 (by decide)
        obtain ⟨M2, q1, q2⟩ := m_senseOf (d + 17) b' (by omega) M1 (by rw [f1]; exact TR_K hD.2.2.2.2.2.2.2.2)
        rw [f1] at q1
        refine PO_a hI (r := nI (soF (M 69) b' 5)) (M1 := M1) ?_ (Ch_mo a2 (by decide)) ⟨M2, ?_, J6_mo (L := []) (J6_J q2) (by decide)⟩
        · rw [ec11_ofBook, cB _ _ _ rfl]
          simp only [Option.bind_some, Option.toList_some, Option.toList_none, List.cons_append, List.nil_append, bi_eq0, bi_eq1, bi_nem, if_true, if_false, ite_not, Classical.not_not, sg11_ofBook_5]
          rw [if_pos (hb)]
          simp (disch := omega) only [nI_eq9, Nat.reduceEqDiff, if_true, if_false]
          rw [a1]
          simp only [Option.bind_some, Option.toList_some, Option.toList_none, List.cons_append, List.nil_append, bi_eq0, bi_eq1, bi_nem, if_true, if_false, ite_not, Classical.not_not, sg11_ofBook_115]
        · rw [ec12_ofBook, mB _ _ _ f1]
          simp only [Option.bind_some, Option.toList_some, Option.toList_none, List.cons_append, List.nil_append, bi_eq0, bi_eq1, bi_nem, if_true, if_false, ite_not, Classical.not_not, sg12_ofBook_5]
          rw [if_pos (hb), mM7]
          simp only [Option.bind_some, Option.toList_some, Option.toList_none, List.cons_append, List.nil_append, bi_eq0, bi_eq1, bi_nem, if_true, if_false, ite_not, Classical.not_not, sg12_ofBook_17]
          rw [if_pos (hw)]
          simp (disch := omega) only [nI_eq9, Nat.reduceEqDiff, if_true, if_false]
          rw [q1]
          simp only [Option.bind_some, Option.toList_some, Option.toList_none, List.cons_append, List.nil_append, bi_eq0, bi_eq1, bi_nem, if_true, if_false, ite_not, Classical.not_not, sg12_ofBook_100]
      · obtain ⟨⟨k', k1, k2⟩, ⟨m, m1, m2⟩, -, -⟩ := hW.2.2.2.1 b' hb'
        obtain ⟨q1, q2, -, -⟩ := hR.2.2.1 b' hb'
        refine PO_a hI (r := gv (nI k') (nI m) (nI 30)) (M1 := M) ?_ Ch_rf ⟨M, ?_, J6_rf⟩
        · rw [ec11_ofBook, cB _ _ _ rfl]
          simp only [Option.bind_some, Option.toList_some, Option.toList_none, List.cons_append, List.nil_append, bi_eq0, bi_eq1, bi_nem, if_true, if_false, ite_not, Classical.not_not, sg11_ofBook_5]
          rw [if_pos (hb)]
          simp (disch := omega) only [nI_eq9, Nat.reduceEqDiff, if_true, if_false]
          rw [c_given _ 9 (by omega) b' k' m 30 M (by omega) k1 m1 (by omega) (q1.trans k2) (q2.trans m2)]
          simp only [Option.bind_some, Option.toList_some, Option.toList_none, List.cons_append, List.nil_append, bi_eq0, bi_eq1, bi_nem, if_true, if_false, ite_not, Classical.not_not, sg11_ofBook_126]
        · rw [ec12_ofBook, mB _ _ _ rfl]
          simp only [Option.bind_some, Option.toList_some, Option.toList_none, List.cons_append, List.nil_append, bi_eq0, bi_eq1, bi_nem, if_true, if_false, ite_not, Classical.not_not, sg12_ofBook_5]
          rw [if_pos (hb), mM7]
          simp only [Option.bind_some, Option.toList_some, Option.toList_none, List.cons_append, List.nil_append, bi_eq0, bi_eq1, bi_nem, if_true, if_false, ite_not, Classical.not_not, sg12_ofBook_17]
          rw [if_pos (hw)]
          simp (disch := omega) only [nI_eq9, Nat.reduceEqDiff, if_true, if_false]
          rw [m_gives _ b' _ M (by omega)]
          simp only [Option.bind_some, Option.toList_some, Option.toList_none, List.cons_append, List.nil_append, bi_eq0, bi_eq1, bi_nem, if_true, if_false, ite_not, Classical.not_not, sg12_ofBook_108]
          rw [k2, m2]
      · obtain ⟨⟨k', k1, k2⟩, ⟨m, m1, m2⟩, -, -⟩ := hW.2.2.2.1 b' hb'
        obtain ⟨q1, q2, -, -⟩ := hR.2.2.1 b' hb'
        refine PO_a hI (r := gv (nI k') (nI m) (nI 80)) (M1 := M) ?_ Ch_rf ⟨M, ?_, J6_rf⟩
        · rw [ec11_ofBook, cB _ _ _ rfl]
          simp only [Option.bind_some, Option.toList_some, Option.toList_none, List.cons_append, List.nil_append, bi_eq0, bi_eq1, bi_nem, if_true, if_false, ite_not, Classical.not_not, sg11_ofBook_5]
          rw [if_pos (hb)]
          simp (disch := omega) only [nI_eq9, Nat.reduceEqDiff, if_true, if_false]
          rw [c_given _ 9 (by omega) b' k' m 80 M (by omega) k1 m1 (by omega) (q1.trans k2) (q2.trans m2)]
          simp only [Option.bind_some, Option.toList_some, Option.toList_none, List.cons_append, List.nil_append, bi_eq0, bi_eq1, bi_nem, if_true, if_false, ite_not, Classical.not_not, sg11_ofBook_137]
        · rw [ec12_ofBook, mB _ _ _ rfl]
          simp only [Option.bind_some, Option.toList_some, Option.toList_none, List.cons_append, List.nil_append, bi_eq0, bi_eq1, bi_nem, if_true, if_false, ite_not, Classical.not_not, sg12_ofBook_5]
          rw [if_pos (hb), mM7]
          simp only [Option.bind_some, Option.toList_some, Option.toList_none, List.cons_append, List.nil_append, bi_eq0, bi_eq1, bi_nem, if_true, if_false, ite_not, Classical.not_not, sg12_ofBook_17]
          rw [if_pos (hw)]
          simp (disch := omega) only [nI_eq9, Nat.reduceEqDiff, if_true, if_false]
          rw [m_gives _ b' _ M (by omega)]
          simp only [Option.bind_some, Option.toList_some, Option.toList_none, List.cons_append, List.nil_append, bi_eq0, bi_eq1, bi_nem, if_true, if_false, ite_not, Classical.not_not, sg12_ofBook_116]
          rw [k2, m2]
    · have hne : ∀ j, j < 7 → w ≠ nI j := fun j hj q => by
        rw [q, nI_toInt (by omega)] at hw
        omega
      refine PO_e (k := 1) hI (M1 := M) ?_ Ch_rf ⟨eC M 1, ?_, J6_rf⟩
      · rw [ec11_ofBook, cB _ _ _ rfl]
        simp only [Option.bind_some, Option.toList_some, Option.toList_none, List.cons_append, List.nil_append, bi_eq0, bi_eq1, bi_nem, if_true, if_false, ite_not, Classical.not_not, sg11_ofBook_5]
        rw [if_pos (hb), if_neg (hne 0 (by omega)), if_neg (hne 1 (by omega)), if_neg (hne 2 (by omega)), if_neg (hne 3 (by omega)), if_neg (hne 4 (by omega)), if_neg (hne 5 (by omega)), if_neg (hne 6 (by omega)), ce _ 1 _ (by omega)]
        simp only [Option.bind_some, Option.toList_some, Option.toList_none, List.cons_append, List.nil_append, bi_eq0, bi_eq1, bi_nem, if_true, if_false, ite_not, Classical.not_not, sg11_ofBook_143]
      · rw [ec12_ofBook, mB _ _ _ (eC_b (by decide))]
        simp only [Option.bind_some, Option.toList_some, Option.toList_none, List.cons_append, List.nil_append, bi_eq0, bi_eq1, bi_nem, if_true, if_false, ite_not, Classical.not_not, sg12_ofBook_5]
        rw [if_pos (hb), mM7]
        simp only [Option.bind_some, Option.toList_some, Option.toList_none, List.cons_append, List.nil_append, bi_eq0, bi_eq1, bi_nem, if_true, if_false, ite_not, Classical.not_not, sg12_ofBook_17]
        rw [if_neg (hw), me1]
        simp only [Option.bind_some, Option.toList_some, Option.toList_none, List.cons_append, List.nil_append, bi_eq0, bi_eq1, bi_nem, if_true, if_false, ite_not, Classical.not_not, sg12_ofBook_26]
  · refine PO_e (k := 1) hI (M1 := M) ?_ Ch_rf ⟨eC M 1, ?_, J6_rf⟩
    · rw [ec11_ofBook, cB _ _ _ rfl]
      simp only [Option.bind_some, Option.toList_some, Option.toList_none, List.cons_append, List.nil_append, bi_eq0, bi_eq1, bi_nem, if_true, if_false, ite_not, Classical.not_not, sg11_ofBook_5]
      rw [if_neg (hb), ce _ 1 _ (by omega)]
      simp only [Option.bind_some, Option.toList_some, Option.toList_none, List.cons_append, List.nil_append, bi_eq0, bi_eq1, bi_nem, if_true, if_false, ite_not, Classical.not_not, sg11_ofBook_13]
    · rw [ec12_ofBook, mB _ _ _ (eC_b (by decide))]
      simp only [Option.bind_some, Option.toList_some, Option.toList_none, List.cons_append, List.nil_append, bi_eq0, bi_eq1, bi_nem, if_true, if_false, ite_not, Classical.not_not, sg12_ofBook_5]
      rw [if_neg (hb), me1]
      simp only [Option.bind_some, Option.toList_some, Option.toList_none, List.cons_append, List.nil_append, bi_eq0, bi_eq1, bi_nem, if_true, if_false, ite_not, Classical.not_not, sg12_ofBook_26]
/-- whether a kind lies under another -/
def und (k a : Nat) : Prop := a = 0 ∨ k = a ∨ (3 < k ∧ k - 3 = a)
theorem und_dec (k a : Nat) : und k a ∨ ¬ und k a := Classical.em _
def un01 (k a : Nat) : Int32 := if a = 0 ∨ k = a ∨ (3 < k ∧ k - 3 = a) then nI 1 else nI 0
theorem m_isUnder (d k a : Nat) (hk : k ≤ 6) (ha : a ≤ 6) (M : am_M) : am_call (d + 1) i12_isUnder [.int (nI k), .int (nI a)] M = some (some (.int (un01 k a)), M) := by
  rw [ec12_isUnder]
  simp (disch := omega) only [false_or, nle9, nI_dec9, nI_add, pk_mul, pk_sub, nI_clamp, nI_in9, nI_pos9, nI_lt9, nI_le9, nI_eq9, nI_eq09, nI_le09, am_k_m1, if_true, if_false, ite_not, Classical.not_not]
  unfold un01
  by_cases h1 : a = 0
  · rw [if_pos h1, if_pos (Or.inl h1)]
  · rw [if_neg h1]
    by_cases h2 : k = a
    · rw [if_pos h2, if_pos (Or.inr (Or.inl h2))]
    · rw [if_neg h2]
      by_cases h3 : k ≤ 3
      · rw [if_pos h3, if_neg (by omega)]
      · rw [if_neg h3]
        by_cases h4 : k - 3 = a
        · rw [if_pos h4, if_pos (by omega)]
        · rw [if_neg h4, if_neg (by omega)]
theorem c_un_s (d k a i : Nat) (hk : k ≤ 6) (ha : a ≤ 6) (hi : i < 7) (x0 : Int32) (M : am_M) : am_lim (am_call (d + 1)) (am_R i11_isUnder) (am_tx i11_isUnder) 4 [.int x0, .int (nI a), .int (nI k), .int (nI i)] [] M = if k = a then some (some (.int (nI 1)), M) else am_lim (am_call (d + 1)) (am_R i11_isUnder) (am_tx i11_isUnder) 4 [.int x0, .int (nI a), .int (am_sta 1000 k), .int (nI (i + 1))] [] M := by
  rw [sg11_isUnder_4]
  simp (disch := omega) only [false_or, nle9, nI_dec9, nI_add, pk_mul, pk_sub, nI_clamp, nI_in9, nI_pos9, nI_lt9, nI_le9, nI_eq9, nI_eq09, nI_le09, am_k_m1, if_true, if_false, ite_not, Classical.not_not]
  rw [if_pos hi, c_isWithin, nI_toInt (by omega), nI_toInt (by omega), nI_toInt (by omega)]
  simp only [Option.bind_some, Option.toList_some, Option.toList_none, List.cons_append, List.nil_append, bi_eq0, bi_eq1, bi_nem, if_true, if_false, ite_not, Classical.not_not, sg11_isUnder_23]
  rw [if_pos (by omega)]
  simp (disch := omega) only [false_or, nle9, nI_dec9, nI_add, pk_mul, pk_sub, nI_clamp, nI_in9, nI_pos9, nI_lt9, nI_le9, nI_eq9, nI_eq09, nI_le09, am_k_m1, if_true, if_false, ite_not, Classical.not_not]
theorem c_un_e (d i : Nat) (hi : i < 7) (x0 x1 : Int32) (M : am_M) : am_lim (am_call (d + 1)) (am_R i11_isUnder) (am_tx i11_isUnder) 4 [.int x0, .int x1, .int (-1), .int (nI i)] [] M = some (some (.int (nI 0)), M) := by
  rw [sg11_isUnder_4]
  simp (disch := omega) only [false_or, nle9, nI_dec9, nI_add, pk_mul, pk_sub, nI_clamp, nI_in9, nI_pos9, nI_lt9, nI_le9, nI_eq9, nI_eq09, nI_le09, am_k_m1, if_true, if_false, ite_not, Classical.not_not]
  rw [if_pos hi, c_isWithin]
  simp only [Option.bind_some, Option.toList_some, Option.toList_none, List.cons_append, List.nil_append, bi_eq0, bi_eq1, bi_nem, if_true, if_false, ite_not, Classical.not_not, sg11_isUnder_23]
  rw [if_neg (by decide +kernel)]
theorem sta_0 : am_sta 1000 0 = -1 := rfl
theorem sta_1 : am_sta 1000 1 = nI 0 := rfl
theorem sta_2 : am_sta 1000 2 = nI 0 := rfl
theorem sta_3 : am_sta 1000 3 = nI 0 := rfl
theorem sta_4 : am_sta 1000 4 = nI 1 := rfl
theorem sta_5 : am_sta 1000 5 = nI 2 := rfl
theorem sta_6 : am_sta 1000 6 = nI 3 := rfl
theorem c_isUnder (d k a : Nat) (hk : k ≤ 6) (ha : a ≤ 6) (M : am_M) : am_call (d + 2) i11_isUnder [.int (nI k), .int (nI a)] M = some (some (.int (un01 k a)), M) := by
  rw [ec11_isUnder]
  unfold un01
  have s0 : ∀ i x0, i < 6 → am_lim (am_call (d + 1)) (am_R i11_isUnder) (am_tx i11_isUnder) 4 [.int x0, .int (nI a), .int (nI 0), .int (nI i)] [] M = if 0 = a then some (some (.int (nI 1)), M) else some (some (.int (nI 0)), M) := fun i x0 hi => by
    rw [c_un_s d 0 a i (by omega) ha (by omega), sta_0, c_un_e d (i + 1) (by omega)]
  have s1 : ∀ j i x0, i < 5 → 1 ≤ j → j ≤ 3 → am_lim (am_call (d + 1)) (am_R i11_isUnder) (am_tx i11_isUnder) 4 [.int x0, .int (nI a), .int (nI j), .int (nI i)] [] M = if j = a then some (some (.int (nI 1)), M) else if 0 = a then some (some (.int (nI 1)), M) else some (some (.int (nI 0)), M) := fun j i x0 hi h1 h3 => by
    rw [c_un_s d j a i (by omega) ha (by omega)]
    have hj : j = 1 ∨ j = 2 ∨ j = 3 := by omega
    rcases hj with rfl | rfl | rfl
    · rw [sta_1, s0 _ _ (by omega)]
    · rw [sta_2, s0 _ _ (by omega)]
    · rw [sta_3, s0 _ _ (by omega)]
  have s2 : ∀ j, 4 ≤ j → j ≤ 6 → am_sta 1000 j = nI (j - 3) := fun j h1 h3 => by
    have hj : j = 4 ∨ j = 5 ∨ j = 6 := by omega
    rcases hj with rfl | rfl | rfl <;> rfl
  by_cases c0 : k = 0
  · subst c0
    rw [s0 _ _ (by omega)]
    by_cases h : 0 = a
    · rw [if_pos h, if_pos (by omega)]
    · rw [if_neg h, if_neg (by omega)]
  · by_cases c3 : k ≤ 3
    · rw [s1 k _ _ (by omega) (by omega) c3]
      by_cases h : k = a
      · rw [if_pos h, if_pos (by omega)]
      · rw [if_neg h]
        by_cases h2 : 0 = a
        · rw [if_pos h2, if_pos (by omega)]
        · rw [if_neg h2, if_neg (by omega)]
    · rw [c_un_s d k a 0 hk ha (by omega), s2 k (by omega) hk, s1 (k - 3) _ _ (by omega) (by omega) (by omega)]
      by_cases h : k = a
      · rw [if_pos h, if_pos (by omega)]
      · rw [if_neg h]
        by_cases h2 : k - 3 = a
        · rw [if_pos h2, if_pos (by omega)]
        · rw [if_neg h2]
          by_cases h3 : 0 = a
          · rw [if_pos h3, if_pos (by omega)]
          · rw [if_neg h3, if_neg (by omega)]
theorem po_as (d : Nat) (b w : Int32) (M : am_M) (hI : IV M M) : PO d i11_as i12_as [.int b, .int w] M := by
  obtain ⟨nb, ng, hW, hg, hR, hD⟩ := hI.1
  have hn := hW.2.1
  have h7 : M 9 7 = nI nb := hR.1.trans hW.1
  have h8 : M 9 8 = nI ng := hR.2.1.trans hW.2.2.1
  have cB : ∀ (d' : Nat) (x : Int32) (N : am_M), N 9 7 = M 9 7 → am_call (d' + 2) i11_isBook [.ref 0, .int x] N = some (some (.int (bi (0 ≤ x.toInt ∧ x.toInt < nb))), N) := fun d' x N h => c_isBook d' x N nb (h.trans h7) hn
  have cP : ∀ (d' : Nat) (x : Int32) (N : am_M), N 9 7 = M 9 7 → am_call (d' + 2) i11_isPlace [.ref 0, .int x] N = some (some (.int (bi (0 ≤ x.toInt ∧ x.toInt < nb))), N) := fun d' x N h => c_isPlace d' x N nb (h.trans h7) hn
  have cPB : ∀ (d' : Nat) (x y : Int32) (N : am_M), N 9 7 = M 9 7 → am_call (d' + 3) i11_isPageOfBook [.ref 0, .int x, .int y] N = some (some (.int (bi ((0 ≤ x.toInt ∧ x.toInt < nb) ∧ 0 ≤ y.toInt ∧ y.toInt < 6))), N) := fun d' x y N h => c_isPageOfBook d' x y N nb (h.trans h7) hn
  have mB : ∀ (d' : Nat) (x : Int32) (N : am_M), N 69 = M 69 → am_call (d' + 2) i12_isBook [.ref 68, .int x] N = some (some (.int (bi (0 ≤ x.toInt ∧ x.toInt < nb))), N) := fun d' x N h => m_isBook d' x N nb (by rw [h]; exact hW.1) hn
  have cM7 : ∀ (d' : Nat) (x : Int32) (N : am_M), am_call (d' + 1) i11_isWithin [.int x, .int (nI 0), .int (nI 7 - nI 1)] N = some (some (.int (bi (0 ≤ x.toInt ∧ x.toInt < 7))), N) := fun d' x N => by
    rw [pk_sub (by omega)]
    exact (cW d' x 0 6 N (by omega) (by omega)).trans (bi_out (by omega))
  have mM7 : ∀ (d' : Nat) (x : Int32) (N : am_M), am_call (d' + 1) i12_in [.long x.toInt64, .long (lN 0), .long (lN 6)] N = some (some (.int (bi (0 ≤ x.toInt ∧ x.toInt < 7))), N) := fun d' x N => (mW d' x 0 6 N (by omega) (by omega)).trans (bi_out (by omega))
  by_cases hb : 0 ≤ b.toInt ∧ b.toInt < nb
  · by_cases hw : 0 ≤ w.toInt ∧ w.toInt < 7
    · obtain ⟨b', hb', rfl⟩ := i32_of (n := nb) hb.1 hb.2 (by omega)
      obtain ⟨w', hw', rfl⟩ := i32_of (n := 7) hw.1 hw.2 (by omega)
      obtain ⟨⟨k', k1, k2⟩, ⟨m, m1, m2⟩, -, -⟩ := hW.2.2.2.1 b' hb'
      by_cases hu : un01 k' w' = 0
      · refine PO_e (k := 5) hI (M1 := M) ?_ Ch_rf ⟨eC M 5, ?_, J6_rf⟩
        · rw [ec11_as, cB _ _ _ rfl]
          simp only [Option.bind_some, Option.toList_some, Option.toList_none, List.cons_append, List.nil_append, bi_eq0, bi_eq1, bi_nem, if_true, if_false, ite_not, Classical.not_not, sg11_as_5]
          rw [if_pos (hb), cM7]
          simp only [Option.bind_some, Option.toList_some, Option.toList_none, List.cons_append, List.nil_append, bi_eq0, bi_eq1, bi_nem, if_true, if_false, ite_not, Classical.not_not, sg11_as_19]
          rw [if_pos (hw)]
          simp (disch := omega) only [false_or, nle9, nI_dec9, nI_add, pk_mul, pk_sub, nI_clamp, nI_in9, nI_pos9, nI_lt9, nI_le9, nI_eq9, nI_eq09, nI_le09, am_k_m1, if_true, if_false, ite_not, Classical.not_not]
          rw [show M 10 b' = M 69 (2 + 9 * b') from (hR.2.2.1 b' hb').1, k2, c_isUnder _ k' w' k1 (by omega)]
          simp only [Option.bind_some, Option.toList_some, Option.toList_none, List.cons_append, List.nil_append, bi_eq0, bi_eq1, bi_nem, if_true, if_false, ite_not, Classical.not_not, sg11_as_41]
          rw [if_pos (hu), ce _ 5 _ (by omega)]
          simp only [Option.bind_some, Option.toList_some, Option.toList_none, List.cons_append, List.nil_append, bi_eq0, bi_eq1, bi_nem, if_true, if_false, ite_not, Classical.not_not, sg11_as_49]
        · rw [ec12_as, mB _ _ _ (eC_b (by decide))]
          simp only [Option.bind_some, Option.toList_some, Option.toList_none, List.cons_append, List.nil_append, bi_eq0, bi_eq1, bi_nem, if_true, if_false, ite_not, Classical.not_not, sg12_as_5]
          rw [if_pos (hb), mM7]
          simp only [Option.bind_some, Option.toList_some, Option.toList_none, List.cons_append, List.nil_append, bi_eq0, bi_eq1, bi_nem, if_true, if_false, ite_not, Classical.not_not, sg12_as_17]
          rw [if_pos (hw), m_its _ b' 0 _ (by omega)]
          simp only [Option.bind_some, Option.toList_some, Option.toList_none, List.cons_append, List.nil_append, bi_eq0, bi_eq1, bi_nem, if_true, if_false, ite_not, Classical.not_not, sg12_as_33, Nat.add_zero]
          rw [eC_b (by decide), k2, m_isUnder _ k' w' k1 (by omega)]
          simp only [Option.bind_some, Option.toList_some, Option.toList_none, List.cons_append, List.nil_append, bi_eq0, bi_eq1, bi_nem, if_true, if_false, ite_not, Classical.not_not, sg12_as_37]
          rw [if_pos (hu), me5]
          simp only [Option.bind_some, Option.toList_some, Option.toList_none, List.cons_append, List.nil_append, bi_eq0, bi_eq1, bi_nem, if_true, if_false, ite_not, Classical.not_not, sg12_as_55]
      · refine PO_a hI (r := M 69 (2 + 9 * b' + 1)) (M1 := M) ?_ Ch_rf ⟨M, ?_, J6_rf⟩
        · rw [ec11_as, cB _ _ _ rfl]
          simp only [Option.bind_some, Option.toList_some, Option.toList_none, List.cons_append, List.nil_append, bi_eq0, bi_eq1, bi_nem, if_true, if_false, ite_not, Classical.not_not, sg11_as_5]
          rw [if_pos (hb), cM7]
          simp only [Option.bind_some, Option.toList_some, Option.toList_none, List.cons_append, List.nil_append, bi_eq0, bi_eq1, bi_nem, if_true, if_false, ite_not, Classical.not_not, sg11_as_19]
          rw [if_pos (hw)]
          simp (disch := omega) only [false_or, nle9, nI_dec9, nI_add, pk_mul, pk_sub, nI_clamp, nI_in9, nI_pos9, nI_lt9, nI_le9, nI_eq9, nI_eq09, nI_le09, am_k_m1, if_true, if_false, ite_not, Classical.not_not]
          rw [show M 10 b' = M 69 (2 + 9 * b') from (hR.2.2.1 b' hb').1, k2, c_isUnder _ k' w' k1 (by omega)]
          simp only [Option.bind_some, Option.toList_some, Option.toList_none, List.cons_append, List.nil_append, bi_eq0, bi_eq1, bi_nem, if_true, if_false, ite_not, Classical.not_not, sg11_as_41]
          rw [if_neg (hu)]
          simp (disch := omega) only [false_or, nle9, nI_dec9, nI_add, pk_mul, pk_sub, nI_clamp, nI_in9, nI_pos9, nI_lt9, nI_le9, nI_eq9, nI_eq09, nI_le09, am_k_m1, if_true, if_false, ite_not, Classical.not_not]
          rw [show M 11 b' = M 69 (2 + 9 * b' + 1) from (hR.2.2.1 b' hb').2.1]
        · rw [ec12_as, mB _ _ _ rfl]
          simp only [Option.bind_some, Option.toList_some, Option.toList_none, List.cons_append, List.nil_append, bi_eq0, bi_eq1, bi_nem, if_true, if_false, ite_not, Classical.not_not, sg12_as_5]
          rw [if_pos (hb), mM7]
          simp only [Option.bind_some, Option.toList_some, Option.toList_none, List.cons_append, List.nil_append, bi_eq0, bi_eq1, bi_nem, if_true, if_false, ite_not, Classical.not_not, sg12_as_17]
          rw [if_pos (hw), m_its _ b' 0 _ (by omega)]
          simp only [Option.bind_some, Option.toList_some, Option.toList_none, List.cons_append, List.nil_append, bi_eq0, bi_eq1, bi_nem, if_true, if_false, ite_not, Classical.not_not, sg12_as_33, Nat.add_zero]
          rw [k2, m_isUnder _ k' w' k1 (by omega)]
          simp only [Option.bind_some, Option.toList_some, Option.toList_none, List.cons_append, List.nil_append, bi_eq0, bi_eq1, bi_nem, if_true, if_false, ite_not, Classical.not_not, sg12_as_37]
          rw [if_neg (hu), m_its _ b' 1 _ (by omega)]
          simp only [Option.bind_some, Option.toList_some, Option.toList_none, List.cons_append, List.nil_append, bi_eq0, bi_eq1, bi_nem, if_true, if_false, ite_not, Classical.not_not, sg12_as_46, sg12_as_55]
    · refine PO_e (k := 1) hI (M1 := M) ?_ Ch_rf ⟨eC M 1, ?_, J6_rf⟩
      · rw [ec11_as, cB _ _ _ rfl]
        simp only [Option.bind_some, Option.toList_some, Option.toList_none, List.cons_append, List.nil_append, bi_eq0, bi_eq1, bi_nem, if_true, if_false, ite_not, Classical.not_not, sg11_as_5]
        rw [if_pos (hb), cM7]
        simp only [Option.bind_some, Option.toList_some, Option.toList_none, List.cons_append, List.nil_append, bi_eq0, bi_eq1, bi_nem, if_true, if_false, ite_not, Classical.not_not, sg11_as_19]
        rw [if_neg (hw), ce _ 1 _ (by omega)]
        simp only [Option.bind_some, Option.toList_some, Option.toList_none, List.cons_append, List.nil_append, bi_eq0, bi_eq1, bi_nem, if_true, if_false, ite_not, Classical.not_not, sg11_as_27]
      · rw [ec12_as, mB _ _ _ (eC_b (by decide))]
        simp only [Option.bind_some, Option.toList_some, Option.toList_none, List.cons_append, List.nil_append, bi_eq0, bi_eq1, bi_nem, if_true, if_false, ite_not, Classical.not_not, sg12_as_5]
        rw [if_pos (hb), mM7]
        simp only [Option.bind_some, Option.toList_some, Option.toList_none, List.cons_append, List.nil_append, bi_eq0, bi_eq1, bi_nem, if_true, if_false, ite_not, Classical.not_not, sg12_as_17]
        rw [if_neg (hw), me1]
        simp only [Option.bind_some, Option.toList_some, Option.toList_none, List.cons_append, List.nil_append, bi_eq0, bi_eq1, bi_nem, if_true, if_false, ite_not, Classical.not_not, sg12_as_26]
  · refine PO_e (k := 1) hI (M1 := M) ?_ Ch_rf ⟨eC M 1, ?_, J6_rf⟩
    · rw [ec11_as, cB _ _ _ rfl]
      simp only [Option.bind_some, Option.toList_some, Option.toList_none, List.cons_append, List.nil_append, bi_eq0, bi_eq1, bi_nem, if_true, if_false, ite_not, Classical.not_not, sg11_as_5]
      rw [if_neg (hb), ce _ 1 _ (by omega)]
      simp only [Option.bind_some, Option.toList_some, Option.toList_none, List.cons_append, List.nil_append, bi_eq0, bi_eq1, bi_nem, if_true, if_false, ite_not, Classical.not_not, sg11_as_27]
    · rw [ec12_as, mB _ _ _ (eC_b (by decide))]
      simp only [Option.bind_some, Option.toList_some, Option.toList_none, List.cons_append, List.nil_append, bi_eq0, bi_eq1, bi_nem, if_true, if_false, ite_not, Classical.not_not, sg12_as_5]
      rw [if_neg (hb), me1]
      simp only [Option.bind_some, Option.toList_some, Option.toList_none, List.cons_append, List.nil_append, bi_eq0, bi_eq1, bi_nem, if_true, if_false, ite_not, Classical.not_not, sg12_as_26]
