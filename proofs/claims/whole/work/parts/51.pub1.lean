/-! the public calls: books, pages, places -/
theorem po_pageOf (d : Nat) (b p : Int32) (M : am_M) (hI : IV M M) : PO d i11_pageOf i12_pageOf [.int b, .int p] M := by
  obtain ⟨nb, ng, hW, hg, hR, hD⟩ := hI.1
  have hn := hW.2.1
  have h7 : M 9 7 = nI nb := hR.1.trans hW.1
  have h8 : M 9 8 = nI ng := hR.2.1.trans hW.2.2.1
  have cB : ∀ (d' : Nat) (x : Int32) (N : am_M), N 9 7 = M 9 7 → am_call (d' + 2) i11_isBook [.ref 0, .int x] N = some (some (.int (bi (0 ≤ x.toInt ∧ x.toInt < nb))), N) := fun d' x N h => c_isBook d' x N nb (h.trans h7) hn
  have cP : ∀ (d' : Nat) (x : Int32) (N : am_M), N 9 7 = M 9 7 → am_call (d' + 2) i11_isPlace [.ref 0, .int x] N = some (some (.int (bi (0 ≤ x.toInt ∧ x.toInt < nb))), N) := fun d' x N h => c_isPlace d' x N nb (h.trans h7) hn
  have cPB : ∀ (d' : Nat) (x y : Int32) (N : am_M), N 9 7 = M 9 7 → am_call (d' + 3) i11_isPageOfBook [.ref 0, .int x, .int y] N = some (some (.int (bi ((0 ≤ x.toInt ∧ x.toInt < nb) ∧ 0 ≤ y.toInt ∧ y.toInt < 6))), N) := fun d' x y N h => c_isPageOfBook d' x y N nb (h.trans h7) hn
  have mB : ∀ (d' : Nat) (x : Int32) (N : am_M), N 69 = M 69 → am_call (d' + 2) i12_isBook [.ref 68, .int x] N = some (some (.int (bi (0 ≤ x.toInt ∧ x.toInt < nb))), N) := fun d' x N h => m_isBook d' x N nb (by rw [h]; exact hW.1) hn
  by_cases hb : 0 ≤ b.toInt ∧ b.toInt < nb
  · by_cases hp : 0 ≤ p.toInt ∧ p.toInt < 6
    · obtain ⟨b', hb', rfl⟩ := i32_of (n := nb) hb.1 hb.2 (by omega)
      obtain ⟨p', hp', rfl⟩ := i32_of (n := 6) hp.1 hp.2 (by omega)
      refine PO_a hI (r := M 69 (2 + 9 * b' + (3 + p'))) (M1 := M) ?_ Ch_rf ⟨M, ?_, J6_rf⟩
      · rw [ec11_pageOf, cPB _ _ _ _ rfl]
        simp only [Option.bind_some, Option.toList_some, Option.toList_none, List.cons_append, List.nil_append, bi_eq0, bi_eq1, bi_nem, if_true, if_false, ite_not, Classical.not_not, sg11_pageOf_6]
        rw [if_pos (⟨hb, hp⟩), c_said _ 9 (by omega) b' p' M (by omega)]
        simp only [Option.bind_some, Option.toList_some, Option.toList_none, List.cons_append, List.nil_append, bi_eq0, bi_eq1, bi_nem, if_true, if_false, ite_not, Classical.not_not, sg11_pageOf_24]
        rw [(hR.2.2.1 b' hb').2.2.2 p' hp']
      · rw [ec12_pageOf, mB _ _ _ rfl]
        simp only [Option.bind_some, Option.toList_some, Option.toList_none, List.cons_append, List.nil_append, bi_eq0, bi_eq1, bi_nem, if_true, if_false, ite_not, Classical.not_not, sg12_pageOf_5]
        rw [if_pos (hb), m_isPage]
        simp only [Option.bind_some, Option.toList_some, Option.toList_none, List.cons_append, List.nil_append, bi_eq0, bi_eq1, bi_nem, if_true, if_false, ite_not, Classical.not_not, sg12_pageOf_12]
        rw [if_pos (hp), m_pageAt _ b' p' M (by omega)]
        simp only [Option.bind_some, Option.toList_some, Option.toList_none, List.cons_append, List.nil_append, bi_eq0, bi_eq1, bi_nem, if_true, if_false, ite_not, Classical.not_not, sg12_pageOf_21, sg12_pageOf_30]
    · refine PO_e (k := 1) hI (M1 := M) ?_ Ch_rf ⟨eC M 1, ?_, J6_rf⟩
      · rw [ec11_pageOf, cPB _ _ _ _ rfl]
        simp only [Option.bind_some, Option.toList_some, Option.toList_none, List.cons_append, List.nil_append, bi_eq0, bi_eq1, bi_nem, if_true, if_false, ite_not, Classical.not_not, sg11_pageOf_6]
        rw [if_neg (fun q => hp q.2), ce _ 1 _ (by omega)]
        simp only [Option.bind_some, Option.toList_some, Option.toList_none, List.cons_append, List.nil_append, bi_eq0, bi_eq1, bi_nem, if_true, if_false, ite_not, Classical.not_not, sg11_pageOf_14]
      · rw [ec12_pageOf, mB _ _ _ (eC_b (by decide))]
        simp only [Option.bind_some, Option.toList_some, Option.toList_none, List.cons_append, List.nil_append, bi_eq0, bi_eq1, bi_nem, if_true, if_false, ite_not, Classical.not_not, sg12_pageOf_5]
        rw [if_pos (hb), m_isPage]
        simp only [Option.bind_some, Option.toList_some, Option.toList_none, List.cons_append, List.nil_append, bi_eq0, bi_eq1, bi_nem, if_true, if_false, ite_not, Classical.not_not, sg12_pageOf_12]
        rw [if_neg (hp), me1]
        simp only [Option.bind_some, Option.toList_some, Option.toList_none, List.cons_append, List.nil_append, bi_eq0, bi_eq1, bi_nem, if_true, if_false, ite_not, Classical.not_not, sg12_pageOf_30]
  · refine PO_e (k := 1) hI (M1 := M) ?_ Ch_rf ⟨eC M 1, ?_, J6_rf⟩
    · rw [ec11_pageOf, cPB _ _ _ _ rfl]
      simp only [Option.bind_some, Option.toList_some, Option.toList_none, List.cons_append, List.nil_append, bi_eq0, bi_eq1, bi_nem, if_true, if_false, ite_not, Classical.not_not, sg11_pageOf_6]
      rw [if_neg (fun q => hb q.1), ce _ 1 _ (by omega)]
      simp only [Option.bind_some, Option.toList_some, Option.toList_none, List.cons_append, List.nil_append, bi_eq0, bi_eq1, bi_nem, if_true, if_false, ite_not, Classical.not_not, sg11_pageOf_14]
    · rw [ec12_pageOf, mB _ _ _ (eC_b (by decide))]
      simp only [Option.bind_some, Option.toList_some, Option.toList_none, List.cons_append, List.nil_append, bi_eq0, bi_eq1, bi_nem, if_true, if_false, ite_not, Classical.not_not, sg12_pageOf_5]
      rw [if_neg (hb), me1]
      simp only [Option.bind_some, Option.toList_some, Option.toList_none, List.cons_append, List.nil_append, bi_eq0, bi_eq1, bi_nem, if_true, if_false, ite_not, Classical.not_not, sg12_pageOf_30]
theorem po_page (d : Nat) (b p v : Int32) (M : am_M) (hI : IV M M) : PO d i11_page i12_page [.int b, .int p, .int v] M := by
  obtain ⟨nb, ng, hW, hg, hR, hD⟩ := hI.1
  have hn := hW.2.1
  have h7 : M 9 7 = nI nb := hR.1.trans hW.1
  have h8 : M 9 8 = nI ng := hR.2.1.trans hW.2.2.1
  have cB : ∀ (d' : Nat) (x : Int32) (N : am_M), N 9 7 = M 9 7 → am_call (d' + 2) i11_isBook [.ref 0, .int x] N = some (some (.int (bi (0 ≤ x.toInt ∧ x.toInt < nb))), N) := fun d' x N h => c_isBook d' x N nb (h.trans h7) hn
  have cP : ∀ (d' : Nat) (x : Int32) (N : am_M), N 9 7 = M 9 7 → am_call (d' + 2) i11_isPlace [.ref 0, .int x] N = some (some (.int (bi (0 ≤ x.toInt ∧ x.toInt < nb))), N) := fun d' x N h => c_isPlace d' x N nb (h.trans h7) hn
  have cPB : ∀ (d' : Nat) (x y : Int32) (N : am_M), N 9 7 = M 9 7 → am_call (d' + 3) i11_isPageOfBook [.ref 0, .int x, .int y] N = some (some (.int (bi ((0 ≤ x.toInt ∧ x.toInt < nb) ∧ 0 ≤ y.toInt ∧ y.toInt < 6))), N) := fun d' x y N h => c_isPageOfBook d' x y N nb (h.trans h7) hn
  have mB : ∀ (d' : Nat) (x : Int32) (N : am_M), N 69 = M 69 → am_call (d' + 2) i12_isBook [.ref 68, .int x] N = some (some (.int (bi (0 ≤ x.toInt ∧ x.toInt < nb))), N) := fun d' x N h => m_isBook d' x N nb (by rw [h]; exact hW.1) hn
  by_cases hb : 0 ≤ b.toInt ∧ b.toInt < nb
  · by_cases hp : 0 ≤ p.toInt ∧ p.toInt < 6
    · by_cases hv : 0 ≤ v.toInt ∧ v.toInt < 100
      · obtain ⟨b', hb', rfl⟩ := i32_of (n := nb) hb.1 hb.2 (by omega)
        obtain ⟨p', hp', rfl⟩ := i32_of (n := 6) hp.1 hp.2 (by omega)
        obtain ⟨v', hv', rfl⟩ := i32_of (n := 100) hv.1 hv.2 (by omega)
        have hJ : J6 [13, 69] M (am_up (am_up M 13 (b' * 6 + p') (nI v')) 69 (2 + 9 * b' + (3 + p')) (nI v')) := J6_tr (J6_up (by simp) (by decide)) (J6_up (by simp) (by decide))
        refine ⟨M 69 (2 + 9 * b' + (3 + p')), am_up M 13 (b' * 6 + p') (nI v'), am_up (am_up M 13 (b' * 6 + p') (nI v')) 69 (2 + 9 * b' + (3 + p')) (nI v'), ?_, ?_, IV_S hI hJ (by decide) ⟨nb, ng, ?_, hg, ?_, ?_⟩⟩
        · rw [ec11_page, cPB _ _ _ _ rfl]
          simp only [Option.bind_some, Option.toList_some, Option.toList_none, List.cons_append, List.nil_append, bi_eq0, bi_eq1, bi_nem, if_true, if_false, ite_not, Classical.not_not, sg11_page_6]
          rw [if_pos (⟨hb, hp⟩), c_isSaid]
          simp only [Option.bind_some, Option.toList_some, Option.toList_none, List.cons_append, List.nil_append, bi_eq0, bi_eq1, bi_nem, if_true, if_false, ite_not, Classical.not_not, sg11_page_13]
          rw [if_pos (hv), c_said _ 9 (by omega) b' p' M (by omega)]
          simp only [Option.bind_some, Option.toList_some, Option.toList_none, List.cons_append, List.nil_append, bi_eq0, bi_eq1, bi_nem, if_true, if_false, ite_not, Classical.not_not, sg11_page_31]
          simp (disch := omega) only [false_or, nle9, nI_dec9, nI_add, pk_mul, pk_sub, nI_clamp, nI_in9, nI_pos9, nI_lt9, nI_le9, nI_eq9, nI_eq09, nI_le09, am_k_m1, if_true, if_false, ite_not, Classical.not_not]
          rw [(hR.2.2.1 b' hb').2.2.2 p' hp']
        · rw [ec12_page, mB _ _ _ (au_b (by decide))]
          simp only [Option.bind_some, Option.toList_some, Option.toList_none, List.cons_append, List.nil_append, bi_eq0, bi_eq1, bi_nem, if_true, if_false, ite_not, Classical.not_not, sg12_page_5]
          rw [if_pos (hb), m_isPage]
          simp only [Option.bind_some, Option.toList_some, Option.toList_none, List.cons_append, List.nil_append, bi_eq0, bi_eq1, bi_nem, if_true, if_false, ite_not, Classical.not_not, sg12_page_12]
          rw [if_pos (hp), m_isSaid]
          simp only [Option.bind_some, Option.toList_some, Option.toList_none, List.cons_append, List.nil_append, bi_eq0, bi_eq1, bi_nem, if_true, if_false, ite_not, Classical.not_not, sg12_page_19]
          rw [if_pos (hv), nI_add, m_spot]
          simp only [Option.bind_some, Option.toList_some, Option.toList_none, List.cons_append, List.nil_append, bi_eq0, bi_eq1, bi_nem, if_true, if_false, ite_not, Classical.not_not, sg12_page_30]
          rw [m_becomes _ _ _ _ (by omega)]
          simp only [Option.bind_some, Option.toList_some, Option.toList_none, List.cons_append, List.nil_append, bi_eq0, bi_eq1, bi_nem, if_true, if_false, ite_not, Classical.not_not, sg12_page_34, sg12_page_43]
          rw [au_b (by decide)]
        · rw [au_69, au_b (by decide)]
          exact WS_upd hW hb' (by omega) (fun h => by omega) (fun h => by omega) (fun h => by omega) (fun _ => ⟨v', by omega, rfl⟩)
        · rw [au_69, au_b (by decide)]
          refine RS_pg hR hn hb' hp' ⟨?_, ?_, ?_, ?_, ?_⟩ ?_ <;> first | exact (au_b (by decide)).trans (au_b (by decide)) | exact (au_b (by decide)).trans au_a
        · rw [au_69, au_b (by decide)]
          exact RD_S hD (fun j hj => upd_ne (by omega)) (fun a ha => J6_c hJ (by revert a; decide) (by revert a; decide))
      · refine PO_e (k := 1) hI (M1 := M) ?_ Ch_rf ⟨eC M 1, ?_, J6_rf⟩
        · rw [ec11_page, cPB _ _ _ _ rfl]
          simp only [Option.bind_some, Option.toList_some, Option.toList_none, List.cons_append, List.nil_append, bi_eq0, bi_eq1, bi_nem, if_true, if_false, ite_not, Classical.not_not, sg11_page_6]
          rw [if_pos (⟨hb, hp⟩), c_isSaid]
          simp only [Option.bind_some, Option.toList_some, Option.toList_none, List.cons_append, List.nil_append, bi_eq0, bi_eq1, bi_nem, if_true, if_false, ite_not, Classical.not_not, sg11_page_13]
          rw [if_neg (hv), ce _ 1 _ (by omega)]
          simp only [Option.bind_some, Option.toList_some, Option.toList_none, List.cons_append, List.nil_append, bi_eq0, bi_eq1, bi_nem, if_true, if_false, ite_not, Classical.not_not, sg11_page_21]
        · rw [ec12_page, mB _ _ _ (eC_b (by decide))]
          simp only [Option.bind_some, Option.toList_some, Option.toList_none, List.cons_append, List.nil_append, bi_eq0, bi_eq1, bi_nem, if_true, if_false, ite_not, Classical.not_not, sg12_page_5]
          rw [if_pos (hb), m_isPage]
          simp only [Option.bind_some, Option.toList_some, Option.toList_none, List.cons_append, List.nil_append, bi_eq0, bi_eq1, bi_nem, if_true, if_false, ite_not, Classical.not_not, sg12_page_12]
          rw [if_pos (hp), m_isSaid]
          simp only [Option.bind_some, Option.toList_some, Option.toList_none, List.cons_append, List.nil_append, bi_eq0, bi_eq1, bi_nem, if_true, if_false, ite_not, Classical.not_not, sg12_page_19]
          rw [if_neg (hv), me1]
          simp only [Option.bind_some, Option.toList_some, Option.toList_none, List.cons_append, List.nil_append, bi_eq0, bi_eq1, bi_nem, if_true, if_false, ite_not, Classical.not_not, sg12_page_43]
    · refine PO_e (k := 1) hI (M1 := M) ?_ Ch_rf ⟨eC M 1, ?_, J6_rf⟩
      · rw [ec11_page, cPB _ _ _ _ rfl]
        simp only [Option.bind_some, Option.toList_some, Option.toList_none, List.cons_append, List.nil_append, bi_eq0, bi_eq1, bi_nem, if_true, if_false, ite_not, Classical.not_not, sg11_page_6]
        rw [if_neg (fun q => hp q.2), ce _ 1 _ (by omega)]
        simp only [Option.bind_some, Option.toList_some, Option.toList_none, List.cons_append, List.nil_append, bi_eq0, bi_eq1, bi_nem, if_true, if_false, ite_not, Classical.not_not, sg11_page_21]
      · rw [ec12_page, mB _ _ _ (eC_b (by decide))]
        simp only [Option.bind_some, Option.toList_some, Option.toList_none, List.cons_append, List.nil_append, bi_eq0, bi_eq1, bi_nem, if_true, if_false, ite_not, Classical.not_not, sg12_page_5]
        rw [if_pos (hb), m_isPage]
        simp only [Option.bind_some, Option.toList_some, Option.toList_none, List.cons_append, List.nil_append, bi_eq0, bi_eq1, bi_nem, if_true, if_false, ite_not, Classical.not_not, sg12_page_12]
        rw [if_neg (hp), me1]
        simp only [Option.bind_some, Option.toList_some, Option.toList_none, List.cons_append, List.nil_append, bi_eq0, bi_eq1, bi_nem, if_true, if_false, ite_not, Classical.not_not, sg12_page_43]
  · refine PO_e (k := 1) hI (M1 := M) ?_ Ch_rf ⟨eC M 1, ?_, J6_rf⟩
    · rw [ec11_page, cPB _ _ _ _ rfl]
      simp only [Option.bind_some, Option.toList_some, Option.toList_none, List.cons_append, List.nil_append, bi_eq0, bi_eq1, bi_nem, if_true, if_false, ite_not, Classical.not_not, sg11_page_6]
      rw [if_neg (fun q => hb q.1), ce _ 1 _ (by omega)]
      simp only [Option.bind_some, Option.toList_some, Option.toList_none, List.cons_append, List.nil_append, bi_eq0, bi_eq1, bi_nem, if_true, if_false, ite_not, Classical.not_not, sg11_page_21]
    · rw [ec12_page, mB _ _ _ (eC_b (by decide))]
      simp only [Option.bind_some, Option.toList_some, Option.toList_none, List.cons_append, List.nil_append, bi_eq0, bi_eq1, bi_nem, if_true, if_false, ite_not, Classical.not_not, sg12_page_5]
      rw [if_neg (hb), me1]
      simp only [Option.bind_some, Option.toList_some, Option.toList_none, List.cons_append, List.nil_append, bi_eq0, bi_eq1, bi_nem, if_true, if_false, ite_not, Classical.not_not, sg12_page_43]
theorem po_become (d : Nat) (b k : Int32) (M : am_M) (hI : IV M M) : PO d i11_become i12_become [.int b, .int k] M := by
  obtain ⟨nb, ng, hW, hg, hR, hD⟩ := hI.1
  have hn := hW.2.1
  have h7 : M 9 7 = nI nb := hR.1.trans hW.1
  have h8 : M 9 8 = nI ng := hR.2.1.trans hW.2.2.1
  have cB : ∀ (d' : Nat) (x : Int32) (N : am_M), N 9 7 = M 9 7 → am_call (d' + 2) i11_isBook [.ref 0, .int x] N = some (some (.int (bi (0 ≤ x.toInt ∧ x.toInt < nb))), N) := fun d' x N h => c_isBook d' x N nb (h.trans h7) hn
  have cP : ∀ (d' : Nat) (x : Int32) (N : am_M), N 9 7 = M 9 7 → am_call (d' + 2) i11_isPlace [.ref 0, .int x] N = some (some (.int (bi (0 ≤ x.toInt ∧ x.toInt < nb))), N) := fun d' x N h => c_isPlace d' x N nb (h.trans h7) hn
  have cPB : ∀ (d' : Nat) (x y : Int32) (N : am_M), N 9 7 = M 9 7 → am_call (d' + 3) i11_isPageOfBook [.ref 0, .int x, .int y] N = some (some (.int (bi ((0 ≤ x.toInt ∧ x.toInt < nb) ∧ 0 ≤ y.toInt ∧ y.toInt < 6))), N) := fun d' x y N h => c_isPageOfBook d' x y N nb (h.trans h7) hn
  have mB : ∀ (d' : Nat) (x : Int32) (N : am_M), N 69 = M 69 → am_call (d' + 2) i12_isBook [.ref 68, .int x] N = some (some (.int (bi (0 ≤ x.toInt ∧ x.toInt < nb))), N) := fun d' x N h => m_isBook d' x N nb (by rw [h]; exact hW.1) hn
  have cM70 : ∀ (d' : Nat) (x : Int32) (N : am_M), am_call (d' + 1) i11_isWithin [.int x, .int (nI 0), .int (nI 69)] N = some (some (.int (bi (0 ≤ x.toInt ∧ x.toInt < 70))), N) := fun d' x N => (cW d' x 0 69 N (by omega) (by omega)).trans (bi_out (by omega))
  by_cases hb : 0 ≤ b.toInt ∧ b.toInt < nb
  · by_cases hk : 0 ≤ k.toInt ∧ k.toInt < 70
    · obtain ⟨b', hb', rfl⟩ := i32_of (n := nb) hb.1 hb.2 (by omega)
      obtain ⟨k', hk', rfl⟩ := i32_of (n := 70) hk.1 hk.2 (by omega)
      have e1 : nI k' / nI 10 = nI (k' / 10) := pk_div (by omega) (by omega) (by omega)
      have e2 : nI k' - nI (k' / 10) * nI 10 = nI (k' % 10) := by rw [← e1]; exact pk_rem (by omega) (by omega) (by omega)
      have hJ : J6 [10, 11, 69] M (am_up (am_up (am_up (am_up M 10 b' (nI (k' / 10))) 11 b' (nI (k' % 10))) 69 (2 + 9 * b' + 1) (nI (k' % 10))) 69 (2 + 9 * b' + 0) (nI (k' / 10))) := J6_tr (J6_tr (J6_tr (J6_up (by simp) (by decide)) (J6_up (by simp) (by decide))) (J6_up (by simp) (by decide))) (J6_up (by simp) (by decide))
      have e69 : am_up (am_up (am_up (am_up M 10 b' (nI (k' / 10))) 11 b' (nI (k' % 10))) 69 (2 + 9 * b' + 1) (nI (k' % 10))) 69 (2 + 9 * b' + 0) (nI (k' / 10)) 69 = upd (upd (M 69) (2 + 9 * b' + 1) (nI (k' % 10))) (2 + 9 * b' + 0) (nI (k' / 10)) := by
        rw [au_69, au_69, au_b (by decide), au_b (by decide)]
      refine ⟨M 69 (2 + 9 * b'), am_up (am_up M 10 b' (nI (k' / 10))) 11 b' (nI (k' % 10)), _, ?_, ?_, IV_S hI hJ (by decide) ⟨nb, ng, ?_, hg, ?_, ?_⟩⟩
      · rw [ec11_become, cB _ _ _ rfl]
        simp only [Option.bind_some, Option.toList_some, Option.toList_none, List.cons_append, List.nil_append, bi_eq0, bi_eq1, bi_nem, if_true, if_false, ite_not, Classical.not_not, sg11_become_5]
        rw [if_pos (hb), cM70]
        simp only [Option.bind_some, Option.toList_some, Option.toList_none, List.cons_append, List.nil_append, bi_eq0, bi_eq1, bi_nem, if_true, if_false, ite_not, Classical.not_not, sg11_become_15]
        rw [if_pos (hk)]
        simp (disch := omega) only [false_or, nle9, nI_dec9, nI_add, pk_mul, pk_sub, nI_clamp, nI_in9, nI_pos9, nI_lt9, nI_le9, nI_eq9, nI_eq09, nI_le09, am_k_m1, if_true, if_false, ite_not, Classical.not_not]
        rw [e1, e2, show M 10 b' = M 69 (2 + 9 * b') from (hR.2.2.1 b' hb').1]
      · rw [ec12_become, mB _ _ _ ((au_b (by decide)).trans (au_b (by decide)))]
        simp only [Option.bind_some, Option.toList_some, Option.toList_none, List.cons_append, List.nil_append, bi_eq0, bi_eq1, bi_nem, if_true, if_false, ite_not, Classical.not_not, sg12_become_5]
        rw [if_pos (hb), m_isMind]
        simp only [Option.bind_some, Option.toList_some, Option.toList_none, List.cons_append, List.nil_append, bi_eq0, bi_eq1, bi_nem, if_true, if_false, ite_not, Classical.not_not, sg12_become_12]
        rw [if_pos (hk), m_spot]
        simp only [Option.bind_some, Option.toList_some, Option.toList_none, List.cons_append, List.nil_append, bi_eq0, bi_eq1, bi_nem, if_true, if_false, ite_not, Classical.not_not, sg12_become_31]
        simp (disch := omega) only [false_or, nle9, nI_dec9, nI_add, pk_mul, pk_sub, nI_clamp, nI_in9, nI_pos9, nI_lt9, nI_le9, nI_eq9, nI_eq09, nI_le09, am_k_m1, if_true, if_false, ite_not, Classical.not_not]
        rw [e1, e2, m_spot]
        simp only [Option.bind_some, Option.toList_some, Option.toList_none, List.cons_append, List.nil_append, bi_eq0, bi_eq1, bi_nem, if_true, if_false, ite_not, Classical.not_not, sg12_become_42]
        rw [m_becomes _ _ _ _ (by omega)]
        simp only [Option.bind_some, Option.toList_some, Option.toList_none, List.cons_append, List.nil_append, bi_eq0, bi_eq1, bi_nem, if_true, if_false, ite_not, Classical.not_not, sg12_become_49]
        rw [au_j (by omega), au_b (by decide), au_b (by decide)]
        simp only [e1, Nat.add_zero]
      · rw [e69]
        exact WS_upd (WS_upd hW hb' (by omega) (fun h => by omega) (fun _ => ⟨k' % 10, by omega, rfl⟩) (fun h => by omega) (fun h => by omega)) hb' (by omega) (fun _ => ⟨k' / 10, by omega, rfl⟩) (fun h => by omega) (fun h => by omega) (fun h => by omega)
      · rw [e69]
        refine RS_km hR hn hb' ⟨?_, ?_, ?_, ?_⟩ ?_ ?_ <;> (repeat rw [au_b (by decide)]) <;> first | rfl | exact au_a | exact au_a.trans (by rw [au_b (by decide)])
      · rw [e69]
        exact RD_S hD (fun j hj => (upd_ne (by omega)).trans (upd_ne (by omega))) (fun a ha => J6_c hJ (by revert a; decide) (by revert a; decide))
    · refine PO_e (k := 1) hI (M1 := M) ?_ Ch_rf ⟨eC M 1, ?_, J6_rf⟩
      · rw [ec11_become, cB _ _ _ rfl]
        simp only [Option.bind_some, Option.toList_some, Option.toList_none, List.cons_append, List.nil_append, bi_eq0, bi_eq1, bi_nem, if_true, if_false, ite_not, Classical.not_not, sg11_become_5]
        rw [if_pos (hb), cM70]
        simp only [Option.bind_some, Option.toList_some, Option.toList_none, List.cons_append, List.nil_append, bi_eq0, bi_eq1, bi_nem, if_true, if_false, ite_not, Classical.not_not, sg11_become_15]
        rw [if_neg (hk), ce _ 1 _ (by omega)]
        simp only [Option.bind_some, Option.toList_some, Option.toList_none, List.cons_append, List.nil_append, bi_eq0, bi_eq1, bi_nem, if_true, if_false, ite_not, Classical.not_not, sg11_become_23]
      · rw [ec12_become, mB _ _ _ (eC_b (by decide))]
        simp only [Option.bind_some, Option.toList_some, Option.toList_none, List.cons_append, List.nil_append, bi_eq0, bi_eq1, bi_nem, if_true, if_false, ite_not, Classical.not_not, sg12_become_5]
        rw [if_pos (hb), m_isMind]
        simp only [Option.bind_some, Option.toList_some, Option.toList_none, List.cons_append, List.nil_append, bi_eq0, bi_eq1, bi_nem, if_true, if_false, ite_not, Classical.not_not, sg12_become_12]
        rw [if_neg (hk), me1]
        simp only [Option.bind_some, Option.toList_some, Option.toList_none, List.cons_append, List.nil_append, bi_eq0, bi_eq1, bi_nem, if_true, if_false, ite_not, Classical.not_not, sg12_become_21]
  · refine PO_e (k := 1) hI (M1 := M) ?_ Ch_rf ⟨eC M 1, ?_, J6_rf⟩
    · rw [ec11_become, cB _ _ _ rfl]
      simp only [Option.bind_some, Option.toList_some, Option.toList_none, List.cons_append, List.nil_append, bi_eq0, bi_eq1, bi_nem, if_true, if_false, ite_not, Classical.not_not, sg11_become_5]
      rw [if_neg (hb), ce _ 1 _ (by omega)]
      simp only [Option.bind_some, Option.toList_some, Option.toList_none, List.cons_append, List.nil_append, bi_eq0, bi_eq1, bi_nem, if_true, if_false, ite_not, Classical.not_not, sg11_become_23]
    · rw [ec12_become, mB _ _ _ (eC_b (by decide))]
      simp only [Option.bind_some, Option.toList_some, Option.toList_none, List.cons_append, List.nil_append, bi_eq0, bi_eq1, bi_nem, if_true, if_false, ite_not, Classical.not_not, sg12_become_5]
      rw [if_neg (hb), me1]
      simp only [Option.bind_some, Option.toList_some, Option.toList_none, List.cons_append, List.nil_append, bi_eq0, bi_eq1, bi_nem, if_true, if_false, ite_not, Classical.not_not, sg12_become_21]
theorem po_glass (d : Nat) (b x : Int32) (M : am_M) (hI : IV M M) : PO d i11_glass i12_glass [.int b, .int x] M := by
  obtain ⟨nb, ng, hW, hg, hR, hD⟩ := hI.1
  have hn := hW.2.1
  have h7 : M 9 7 = nI nb := hR.1.trans hW.1
  have h8 : M 9 8 = nI ng := hR.2.1.trans hW.2.2.1
  have cB : ∀ (d' : Nat) (x : Int32) (N : am_M), N 9 7 = M 9 7 → am_call (d' + 2) i11_isBook [.ref 0, .int x] N = some (some (.int (bi (0 ≤ x.toInt ∧ x.toInt < nb))), N) := fun d' x N h => c_isBook d' x N nb (h.trans h7) hn
  have cP : ∀ (d' : Nat) (x : Int32) (N : am_M), N 9 7 = M 9 7 → am_call (d' + 2) i11_isPlace [.ref 0, .int x] N = some (some (.int (bi (0 ≤ x.toInt ∧ x.toInt < nb))), N) := fun d' x N h => c_isPlace d' x N nb (h.trans h7) hn
  have cPB : ∀ (d' : Nat) (x y : Int32) (N : am_M), N 9 7 = M 9 7 → am_call (d' + 3) i11_isPageOfBook [.ref 0, .int x, .int y] N = some (some (.int (bi ((0 ≤ x.toInt ∧ x.toInt < nb) ∧ 0 ≤ y.toInt ∧ y.toInt < 6))), N) := fun d' x y N h => c_isPageOfBook d' x y N nb (h.trans h7) hn
  have mB : ∀ (d' : Nat) (x : Int32) (N : am_M), N 69 = M 69 → am_call (d' + 2) i12_isBook [.ref 68, .int x] N = some (some (.int (bi (0 ≤ x.toInt ∧ x.toInt < nb))), N) := fun d' x N h => m_isBook d' x N nb (by rw [h]; exact hW.1) hn
  have cM2 : ∀ (d' : Nat) (x : Int32) (N : am_M), am_call (d' + 1) i11_isWithin [.int x, .int (nI 0), .int (nI 1)] N = some (some (.int (bi (0 ≤ x.toInt ∧ x.toInt < 2))), N) := fun d' x N => (cW d' x 0 1 N (by omega) (by omega)).trans (bi_out (by omega))
  have mM2 : ∀ (d' : Nat) (x : Int32) (N : am_M), am_call (d' + 1) i12_in [.long x.toInt64, .long (lN 0), .long (lN 1)] N = some (some (.int (bi (0 ≤ x.toInt ∧ x.toInt < 2))), N) := fun d' x N => (mW d' x 0 1 N (by omega) (by omega)).trans (bi_out (by omega))
  by_cases hb : 0 ≤ b.toInt ∧ b.toInt < nb
  · by_cases hx : 0 ≤ x.toInt ∧ x.toInt < 2
    · obtain ⟨b', hb', rfl⟩ := i32_of (n := nb) hb.1 hb.2 (by omega)
      obtain ⟨x', hx', rfl⟩ := i32_of (n := 2) hx.1 hx.2 (by omega)
      have hJ : J6 [12, 69] M (am_up (am_up M 12 b' (nI x')) 69 (2 + 9 * b' + 2) (nI x')) := J6_tr (J6_up (by simp) (by decide)) (J6_up (by simp) (by decide))
      have hx01 : nI x' = nI 0 ∨ nI x' = nI 1 := by
        have : x' = 0 ∨ x' = 1 := by omega
        rcases this with rfl | rfl
        · exact Or.inl rfl
        · exact Or.inr rfl
      have hold : M 12 b' = M 69 (2 + 9 * b' + 2) := (hR.2.2.1 b' hb').2.2.1
      refine ⟨M 69 (2 + 9 * b' + 2), am_up M 12 b' (nI x'), am_up (am_up M 12 b' (nI x')) 69 (2 + 9 * b' + 2) (nI x'), ?_, ?_, IV_S hI hJ (by decide) ⟨nb, ng, ?_, hg, ?_, ?_⟩⟩
      · rw [ec11_glass, cB _ _ _ rfl]
        simp only [Option.bind_some, Option.toList_some, Option.toList_none, List.cons_append, List.nil_append, bi_eq0, bi_eq1, bi_nem, if_true, if_false, ite_not, Classical.not_not, sg11_glass_5]
        rw [if_pos (hb), cM2]
        simp only [Option.bind_some, Option.toList_some, Option.toList_none, List.cons_append, List.nil_append, bi_eq0, bi_eq1, bi_nem, if_true, if_false, ite_not, Classical.not_not, sg11_glass_14]
        rw [if_pos (hx)]
        simp (disch := omega) only [false_or, nle9, nI_dec9, nI_add, pk_mul, pk_sub, nI_clamp, nI_in9, nI_pos9, nI_lt9, nI_le9, nI_eq9, nI_eq09, nI_le09, am_k_m1, if_true, if_false, ite_not, Classical.not_not, nar_0, nar_1]
        rw [hold]
        rcases (hW.2.2.2.1 b' hb').2.2.1 with y | y
        · rw [y, if_pos nI_0]
          by_cases c : x' = 1
          · rw [if_pos c, c]
          · rw [if_neg c, show x' = 0 by omega]
        · rw [y, if_neg (show ¬ nI 1 = 0 by decide +kernel)]
          by_cases c : x' = 1
          · rw [if_pos c, c]
          · rw [if_neg c, show x' = 0 by omega]
      · rw [ec12_glass, mB _ _ _ (au_b (by decide))]
        simp only [Option.bind_some, Option.toList_some, Option.toList_none, List.cons_append, List.nil_append, bi_eq0, bi_eq1, bi_nem, if_true, if_false, ite_not, Classical.not_not, sg12_glass_5]
        rw [if_pos (hb), mM2]
        simp only [Option.bind_some, Option.toList_some, Option.toList_none, List.cons_append, List.nil_append, bi_eq0, bi_eq1, bi_nem, if_true, if_false, ite_not, Classical.not_not, sg12_glass_15]
        rw [if_pos (hx), m_spot]
        simp only [Option.bind_some, Option.toList_some, Option.toList_none, List.cons_append, List.nil_append, bi_eq0, bi_eq1, bi_nem, if_true, if_false, ite_not, Classical.not_not, sg12_glass_24]
        rw [m_becomes _ _ _ _ (by omega)]
        simp only [Option.bind_some, Option.toList_some, Option.toList_none, List.cons_append, List.nil_append, bi_eq0, bi_eq1, bi_nem, if_true, if_false, ite_not, Classical.not_not, sg12_glass_28, sg12_glass_37]
        rw [au_b (by decide)]
      · rw [au_69, au_b (by decide)]
        exact WS_upd hW hb' (by omega) (fun h => by omega) (fun h => by omega) (fun _ => hx01) (fun h => by omega)
      · rw [au_69, au_b (by decide)]
        refine RS_gl hR hn hb' ⟨?_, ?_, ?_, ?_, ?_⟩ ?_ <;> first | exact (au_b (by decide)).trans (au_b (by decide)) | exact (au_b (by decide)).trans au_a
      · rw [au_69, au_b (by decide)]
        exact RD_S hD (fun j hj => upd_ne (by omega)) (fun a ha => J6_c hJ (by revert a; decide) (by revert a; decide))
    · refine PO_e (k := 1) hI (M1 := M) ?_ Ch_rf ⟨eC M 1, ?_, J6_rf⟩
      · rw [ec11_glass, cB _ _ _ rfl]
        simp only [Option.bind_some, Option.toList_some, Option.toList_none, List.cons_append, List.nil_append, bi_eq0, bi_eq1, bi_nem, if_true, if_false, ite_not, Classical.not_not, sg11_glass_5]
        rw [if_pos (hb), cM2]
        simp only [Option.bind_some, Option.toList_some, Option.toList_none, List.cons_append, List.nil_append, bi_eq0, bi_eq1, bi_nem, if_true, if_false, ite_not, Classical.not_not, sg11_glass_14]
        rw [if_neg (hx), ce _ 1 _ (by omega)]
        simp only [Option.bind_some, Option.toList_some, Option.toList_none, List.cons_append, List.nil_append, bi_eq0, bi_eq1, bi_nem, if_true, if_false, ite_not, Classical.not_not, sg11_glass_22]
      · rw [ec12_glass, mB _ _ _ (eC_b (by decide))]
        simp only [Option.bind_some, Option.toList_some, Option.toList_none, List.cons_append, List.nil_append, bi_eq0, bi_eq1, bi_nem, if_true, if_false, ite_not, Classical.not_not, sg12_glass_5]
        rw [if_pos (hb), mM2]
        simp only [Option.bind_some, Option.toList_some, Option.toList_none, List.cons_append, List.nil_append, bi_eq0, bi_eq1, bi_nem, if_true, if_false, ite_not, Classical.not_not, sg12_glass_15]
        rw [if_neg (hx), me1]
        simp only [Option.bind_some, Option.toList_some, Option.toList_none, List.cons_append, List.nil_append, bi_eq0, bi_eq1, bi_nem, if_true, if_false, ite_not, Classical.not_not, sg12_glass_37]
  · refine PO_e (k := 1) hI (M1 := M) ?_ Ch_rf ⟨eC M 1, ?_, J6_rf⟩
    · rw [ec11_glass, cB _ _ _ rfl]
      simp only [Option.bind_some, Option.toList_some, Option.toList_none, List.cons_append, List.nil_append, bi_eq0, bi_eq1, bi_nem, if_true, if_false, ite_not, Classical.not_not, sg11_glass_5]
      rw [if_neg (hb), ce _ 1 _ (by omega)]
      simp only [Option.bind_some, Option.toList_some, Option.toList_none, List.cons_append, List.nil_append, bi_eq0, bi_eq1, bi_nem, if_true, if_false, ite_not, Classical.not_not, sg11_glass_22]
    · rw [ec12_glass, mB _ _ _ (eC_b (by decide))]
      simp only [Option.bind_some, Option.toList_some, Option.toList_none, List.cons_append, List.nil_append, bi_eq0, bi_eq1, bi_nem, if_true, if_false, ite_not, Classical.not_not, sg12_glass_5]
      rw [if_neg (hb), me1]
      simp only [Option.bind_some, Option.toList_some, Option.toList_none, List.cons_append, List.nil_append, bi_eq0, bi_eq1, bi_nem, if_true, if_false, ite_not, Classical.not_not, sg12_glass_37]
theorem po_stand (d : Nat) (b p : Int32) (M : am_M) (hI : IV M M) : PO d i11_stand i12_stand [.int b, .int p] M := by
  obtain ⟨nb, ng, hW, hg, hR, hD⟩ := hI.1
  have hn := hW.2.1
  have h7 : M 9 7 = nI nb := hR.1.trans hW.1
  have h8 : M 9 8 = nI ng := hR.2.1.trans hW.2.2.1
  have cB : ∀ (d' : Nat) (x : Int32) (N : am_M), N 9 7 = M 9 7 → am_call (d' + 2) i11_isBook [.ref 0, .int x] N = some (some (.int (bi (0 ≤ x.toInt ∧ x.toInt < nb))), N) := fun d' x N h => c_isBook d' x N nb (h.trans h7) hn
  have cP : ∀ (d' : Nat) (x : Int32) (N : am_M), N 9 7 = M 9 7 → am_call (d' + 2) i11_isPlace [.ref 0, .int x] N = some (some (.int (bi (0 ≤ x.toInt ∧ x.toInt < nb))), N) := fun d' x N h => c_isPlace d' x N nb (h.trans h7) hn
  have cPB : ∀ (d' : Nat) (x y : Int32) (N : am_M), N 9 7 = M 9 7 → am_call (d' + 3) i11_isPageOfBook [.ref 0, .int x, .int y] N = some (some (.int (bi ((0 ≤ x.toInt ∧ x.toInt < nb) ∧ 0 ≤ y.toInt ∧ y.toInt < 6))), N) := fun d' x y N h => c_isPageOfBook d' x y N nb (h.trans h7) hn
  have mB : ∀ (d' : Nat) (x : Int32) (N : am_M), N 69 = M 69 → am_call (d' + 2) i12_isBook [.ref 68, .int x] N = some (some (.int (bi (0 ≤ x.toInt ∧ x.toInt < nb))), N) := fun d' x N h => m_isBook d' x N nb (by rw [h]; exact hW.1) hn
  by_cases hb : 0 ≤ b.toInt ∧ b.toInt < nb
  · by_cases hp : 0 ≤ p.toInt ∧ p.toInt < nb
    · obtain ⟨b', hb', rfl⟩ := i32_of (n := nb) hb.1 hb.2 (by omega)
      obtain ⟨p', hp', rfl⟩ := i32_of (n := nb) hp.1 hp.2 (by omega)
      obtain ⟨f, hf, z, hz⟩ := WS_pl hW hb'
      have hr : ∀ i, i < nb → M 14 i = M 69 (56 + i) := hR.2.2.2.1
      have h69 : am_setc M 14 (mvr (M 14) f p') 69 = M 69 := stc_ne (by decide)
      have hJ : J6 [14, 69] M (am_setc (am_setc M 14 (mvr (M 14) f p')) 69 (rowU (M 69) nb (mvr (fun i => M 69 (56 + i)) f p'))) := J6_tr (J6_sc (by simp) (by decide)) (J6_sc (by simp) (by decide))
      refine ⟨nI f, am_setc M 14 (mvr (M 14) f p'), am_setc (am_setc M 14 (mvr (M 14) f p')) 69 (rowU (M 69) nb (mvr (fun i => M 69 (56 + i)) f p')), ?_, ?_, IV_S hI hJ (by decide) ⟨nb, ng, ?_, hg, ?_, ?_⟩⟩
      · rw [ec11_stand, cB _ _ _ rfl]
        simp only [Option.bind_some, Option.toList_some, Option.toList_none, List.cons_append, List.nil_append, bi_eq0, bi_eq1, bi_nem, if_true, if_false, ite_not, Classical.not_not, sg11_stand_5]
        rw [if_pos (hb), cP _ _ _ rfl]
        simp only [Option.bind_some, Option.toList_some, Option.toList_none, List.cons_append, List.nil_append, bi_eq0, bi_eq1, bi_nem, if_true, if_false, ite_not, Classical.not_not, sg11_stand_13]
        rw [if_pos (hp), c_placeOf _ 9 (by omega) _ M nb f h7 hn hf ((hr f hf).trans z) (fun j hj => by show M 14 j ≠ _; rw [hr j (by omega)]; exact hz j hj)]
        simp only [Option.bind_some, Option.toList_some, Option.toList_none, List.cons_append, List.nil_append, bi_eq0, bi_eq1, bi_nem, if_true, if_false, ite_not, Classical.not_not, sg11_stand_30]
        rw [c_moveBook _ 9 (by omega) M f p' (by omega) (by omega)]
        simp only [Option.bind_some, Option.toList_some, Option.toList_none, List.cons_append, List.nil_append, bi_eq0, bi_eq1, bi_nem, if_true, if_false, ite_not, Classical.not_not, sg11_stand_40]
      · rw [ec12_stand, mB _ _ _ h69]
        simp only [Option.bind_some, Option.toList_some, Option.toList_none, List.cons_append, List.nil_append, bi_eq0, bi_eq1, bi_nem, if_true, if_false, ite_not, Classical.not_not, sg12_stand_5]
        rw [if_pos (hb), mB _ _ _ h69]
        simp only [Option.bind_some, Option.toList_some, Option.toList_none, List.cons_append, List.nil_append, bi_eq0, bi_eq1, bi_nem, if_true, if_false, ite_not, Classical.not_not, sg12_stand_13]
        rw [if_pos (hp), m_goes _ _ nb f p' _ (by rw [h69]; exact hW.1) hn hf hp' (by rw [h69]; exact z) (fun j hj => by rw [h69]; exact hz j hj)]
        simp only [Option.bind_some, Option.toList_some, Option.toList_none, List.cons_append, List.nil_append, bi_eq0, bi_eq1, bi_nem, if_true, if_false, ite_not, Classical.not_not, sg12_stand_22, sg12_stand_31]
        rw [h69]
      · rw [stc_eq]
        exact WS_row2 hW (PR_mvr hW.2.2.2.2 hf hp')
      · rw [stc_eq]
        refine RS_mv hR hn hf hp' ⟨?_, ?_, ?_, ?_, ?_⟩ ?_ <;> first | exact (stc_ne (by decide)).trans (stc_ne (by decide)) | exact (stc_ne (by decide)).trans stc_eq
      · rw [stc_eq]
        exact RD_S hD (fun j hj => rowU_hi (by omega)) (fun a ha => J6_c hJ (by revert a; decide) (by revert a; decide))
    · refine PO_e (k := 1) hI (M1 := M) ?_ Ch_rf ⟨eC M 1, ?_, J6_rf⟩
      · rw [ec11_stand, cB _ _ _ rfl]
        simp only [Option.bind_some, Option.toList_some, Option.toList_none, List.cons_append, List.nil_append, bi_eq0, bi_eq1, bi_nem, if_true, if_false, ite_not, Classical.not_not, sg11_stand_5]
        rw [if_pos (hb), cP _ _ _ rfl]
        simp only [Option.bind_some, Option.toList_some, Option.toList_none, List.cons_append, List.nil_append, bi_eq0, bi_eq1, bi_nem, if_true, if_false, ite_not, Classical.not_not, sg11_stand_13]
        rw [if_neg (hp), ce _ 1 _ (by omega)]
        simp only [Option.bind_some, Option.toList_some, Option.toList_none, List.cons_append, List.nil_append, bi_eq0, bi_eq1, bi_nem, if_true, if_false, ite_not, Classical.not_not, sg11_stand_21]
      · rw [ec12_stand, mB _ _ _ (eC_b (by decide))]
        simp only [Option.bind_some, Option.toList_some, Option.toList_none, List.cons_append, List.nil_append, bi_eq0, bi_eq1, bi_nem, if_true, if_false, ite_not, Classical.not_not, sg12_stand_5]
        rw [if_pos (hb), mB _ _ _ (eC_b (by decide))]
        simp only [Option.bind_some, Option.toList_some, Option.toList_none, List.cons_append, List.nil_append, bi_eq0, bi_eq1, bi_nem, if_true, if_false, ite_not, Classical.not_not, sg12_stand_13]
        rw [if_neg (hp), me1]
        simp only [Option.bind_some, Option.toList_some, Option.toList_none, List.cons_append, List.nil_append, bi_eq0, bi_eq1, bi_nem, if_true, if_false, ite_not, Classical.not_not, sg12_stand_31]
  · refine PO_e (k := 1) hI (M1 := M) ?_ Ch_rf ⟨eC M 1, ?_, J6_rf⟩
    · rw [ec11_stand, cB _ _ _ rfl]
      simp only [Option.bind_some, Option.toList_some, Option.toList_none, List.cons_append, List.nil_append, bi_eq0, bi_eq1, bi_nem, if_true, if_false, ite_not, Classical.not_not, sg11_stand_5]
      rw [if_neg (hb), ce _ 1 _ (by omega)]
      simp only [Option.bind_some, Option.toList_some, Option.toList_none, List.cons_append, List.nil_append, bi_eq0, bi_eq1, bi_nem, if_true, if_false, ite_not, Classical.not_not, sg11_stand_21]
    · rw [ec12_stand, mB _ _ _ (eC_b (by decide))]
      simp only [Option.bind_some, Option.toList_some, Option.toList_none, List.cons_append, List.nil_append, bi_eq0, bi_eq1, bi_nem, if_true, if_false, ite_not, Classical.not_not, sg12_stand_5]
      rw [if_neg (hb), me1]
      simp only [Option.bind_some, Option.toList_some, Option.toList_none, List.cons_append, List.nil_append, bi_eq0, bi_eq1, bi_nem, if_true, if_false, ite_not, Classical.not_not, sg12_stand_31]
theorem po_at (d : Nat) (p : Int32) (M : am_M) (hI : IV M M) : PO d i11_at i12_at [.int p] M := by
  obtain ⟨nb, ng, hW, hg, hR, hD⟩ := hI.1
  have hn := hW.2.1
  have h7 : M 9 7 = nI nb := hR.1.trans hW.1
  have h8 : M 9 8 = nI ng := hR.2.1.trans hW.2.2.1
  have cB : ∀ (d' : Nat) (x : Int32) (N : am_M), N 9 7 = M 9 7 → am_call (d' + 2) i11_isBook [.ref 0, .int x] N = some (some (.int (bi (0 ≤ x.toInt ∧ x.toInt < nb))), N) := fun d' x N h => c_isBook d' x N nb (h.trans h7) hn
  have cP : ∀ (d' : Nat) (x : Int32) (N : am_M), N 9 7 = M 9 7 → am_call (d' + 2) i11_isPlace [.ref 0, .int x] N = some (some (.int (bi (0 ≤ x.toInt ∧ x.toInt < nb))), N) := fun d' x N h => c_isPlace d' x N nb (h.trans h7) hn
  have cPB : ∀ (d' : Nat) (x y : Int32) (N : am_M), N 9 7 = M 9 7 → am_call (d' + 3) i11_isPageOfBook [.ref 0, .int x, .int y] N = some (some (.int (bi ((0 ≤ x.toInt ∧ x.toInt < nb) ∧ 0 ≤ y.toInt ∧ y.toInt < 6))), N) := fun d' x y N h => c_isPageOfBook d' x y N nb (h.trans h7) hn
  have mB : ∀ (d' : Nat) (x : Int32) (N : am_M), N 69 = M 69 → am_call (d' + 2) i12_isBook [.ref 68, .int x] N = some (some (.int (bi (0 ≤ x.toInt ∧ x.toInt < nb))), N) := fun d' x N h => m_isBook d' x N nb (by rw [h]; exact hW.1) hn
  by_cases hp : 0 ≤ p.toInt ∧ p.toInt < nb
  · obtain ⟨p', hp', rfl⟩ := i32_of (n := nb) hp.1 hp.2 (by omega)
    refine PO_a hI (r := M 69 (56 + p')) (M1 := M) ?_ Ch_rf ⟨M, ?_, J6_rf⟩
    · rw [ec11_at, cP _ _ _ rfl]
      simp only [Option.bind_some, Option.toList_some, Option.toList_none, List.cons_append, List.nil_append, bi_eq0, bi_eq1, bi_nem, if_true, if_false, ite_not, Classical.not_not, sg11_at_5]
      rw [if_pos (hp)]
      simp (disch := omega) only [false_or, nle9, nI_dec9, nI_add, pk_mul, pk_sub, nI_clamp, nI_in9, nI_pos9, nI_lt9, nI_le9, nI_eq9, nI_eq09, nI_le09, am_k_m1, if_true, if_false, ite_not, Classical.not_not]
      rw [show M 14 p' = M 69 (56 + p') from hR.2.2.2.1 p' hp']
    · rw [ec12_at, mB _ _ _ rfl]
      simp only [Option.bind_some, Option.toList_some, Option.toList_none, List.cons_append, List.nil_append, bi_eq0, bi_eq1, bi_nem, if_true, if_false, ite_not, Classical.not_not, sg12_at_5]
      rw [if_pos (hp)]
      simp (disch := omega) only [false_or, nle9, nI_dec9, nI_add, pk_mul, pk_sub, nI_clamp, nI_in9, nI_pos9, nI_lt9, nI_le9, nI_eq9, nI_eq09, nI_le09, am_k_m1, if_true, if_false, ite_not, Classical.not_not, sg12_at_26]
  · refine PO_e (k := 1) hI (M1 := M) ?_ Ch_rf ⟨eC M 1, ?_, J6_rf⟩
    · rw [ec11_at, cP _ _ _ rfl]
      simp only [Option.bind_some, Option.toList_some, Option.toList_none, List.cons_append, List.nil_append, bi_eq0, bi_eq1, bi_nem, if_true, if_false, ite_not, Classical.not_not, sg11_at_5]
      rw [if_neg (hp), ce _ 1 _ (by omega)]
      simp only [Option.bind_some, Option.toList_some, Option.toList_none, List.cons_append, List.nil_append, bi_eq0, bi_eq1, bi_nem, if_true, if_false, ite_not, Classical.not_not, sg11_at_13]
    · rw [ec12_at, mB _ _ _ (eC_b (by decide))]
      simp only [Option.bind_some, Option.toList_some, Option.toList_none, List.cons_append, List.nil_append, bi_eq0, bi_eq1, bi_nem, if_true, if_false, ite_not, Classical.not_not, sg12_at_5]
      rw [if_neg (hp), me1]
      simp only [Option.bind_some, Option.toList_some, Option.toList_none, List.cons_append, List.nil_append, bi_eq0, bi_eq1, bi_nem, if_true, if_false, ite_not, Classical.not_not, sg12_at_26]
