/-! the public calls: image, restore -/
theorem RD_237 {M M' : am_M} {dk : Nat} {S S' : Nat → Int32} (h : RD M dk S) (hS : ∀ j, 62 ≤ j → j < 237 → S' j = S j) (hc : ∀ a ∈ [dk, dk + 1, dk + 2, dk + 3, dk + 4, dk + 7, dk + 8], M' a = M a) : RD M' dk S' := by
  obtain ⟨r1, r2, r3, r4, r5, r6, r7, r8, r9⟩ := h
  unfold RD
  rw [hc dk (by simp), hc (dk + 1) (by simp), hc (dk + 2) (by simp), hc (dk + 3) (by simp), hc (dk + 4) (by simp), hc (dk + 7) (by simp), hc (dk + 8) (by simp), hS 63 (by omega) (by omega), hS 62 (by omega) (by omega), hS 64 (by omega) (by omega)]
  exact ⟨r1, r2, fun i hi => by rw [hS _ (by omega) (by omega)]; exact r3 i hi, r4, r5, r6, fun i hi => by rw [hS _ (by omega) (by omega)]; exact r7 i hi, TR_S3 r8 (hS _ (by omega) (by omega)) (fun i hi => hS _ (by omega) (by omega)), TR_S3 r9 (hS _ (by omega) (by omega)) (fun i hi => hS _ (by omega) (by omega))⟩
theorem m_image_l (C : am_H) : ∀ (k i : Nat) (M : am_M), i + k = 237 → (∀ j, j < i → M 70 j = M 69 j) → ∃ M', am_lim C (am_R i12_image) (am_tx i12_image) 2 [.ref 68, .int (nI i)] [] M = some (some (.int (M 68 4 + nI 1)), am_up M' 68 4 (M 68 4 + nI 1)) ∧ (∀ j, j < 237 → M' 70 j = M 69 j) ∧ J6 [70] M M'
  | 0, i, M, h, hM => by
    have : i = 237 := by omega
    subst this
    rw [sg12_image_2, if_neg (by decide +kernel), au_s]
    exact ⟨M, rfl, hM, J6_rf⟩
  | k + 1, i, M, h, hM => by
    rw [sg12_image_2]
    simp (disch := omega) only [false_or, nle9, nI_dec9, nI_add, pk_mul, pk_sub, nI_clamp, nI_in9, nI_pos9, nI_lt9, nI_le9, nI_eq9, nI_eq09, nI_le09, am_k_m1, if_true, if_false, ite_not, Classical.not_not]
    rw [if_pos (by omega)]
    obtain ⟨M2, b1, b2, b3⟩ := m_image_l C k (i + 1) (am_up M 70 i (M 69 i)) (by omega) (fun j hj => by
      rw [au_b (b := 69) (by decide)]
      by_cases c : j = i
      · subst c; exact au_s
      · rw [au_j c]; exact hM j (by omega))
    rw [au_b (by decide)] at b1
    exact ⟨M2, b1, fun j hj => by rw [b2 j hj, au_b (by decide)], J6_tr (J6_up (by decide) (by decide)) b3⟩
theorem m_restore_l (C : am_H) : ∀ (k i : Nat) (M : am_M), i + k = 237 → (∀ j, j < i → M 69 j = M 70 j) → ∃ M', am_lim C (am_R i12_restore) (am_tx i12_restore) 16 [.ref 68, .int (nI i)] [] M = some (some (.int (M 70 0)), M') ∧ (∀ j, j < 237 → M' 69 j = M 70 j) ∧ J6 [69] M M'
  | 0, i, M, h, hM => by
    have : i = 237 := by omega
    subst this
    rw [sg12_restore_16, if_neg (by decide +kernel), hM 0 (by omega)]
    exact ⟨M, rfl, hM, J6_rf⟩
  | k + 1, i, M, h, hM => by
    rw [sg12_restore_16]
    simp (disch := omega) only [false_or, nle9, nI_dec9, nI_add, pk_mul, pk_sub, nI_clamp, nI_in9, nI_pos9, nI_lt9, nI_le9, nI_eq9, nI_eq09, nI_le09, am_k_m1, if_true, if_false, ite_not, Classical.not_not]
    rw [if_pos (by omega)]
    obtain ⟨M2, b1, b2, b3⟩ := m_restore_l C k (i + 1) (am_up M 69 i (M 70 i)) (by omega) (fun j hj => by
      rw [au_b (b := 70) (by decide)]
      by_cases c : j = i
      · subst c; exact au_s
      · rw [au_j c]; exact hM j (by omega))
    rw [au_b (by decide)] at b1
    exact ⟨M2, b1, fun j hj => by rw [b2 j hj, au_b (by decide)], J6_tr (J6_up (by decide) (by decide)) b3⟩
theorem po_image (d : Nat) (M : am_M) (hI : IV M M) : PO d i11_image i12_image [] M := by
  obtain ⟨nb, ng, hW, hg, hR, hD⟩ := hI.1
  have hn := hW.2.1
  have h7 : M 9 7 = nI nb := hR.1.trans hW.1
  have h8 : M 9 8 = nI ng := hR.2.1.trans hW.2.2.1
  have cB : ∀ (d' : Nat) (x : Int32) (N : am_M), N 9 7 = M 9 7 → am_call (d' + 2) i11_isBook [.ref 0, .int x] N = some (some (.int (bi (0 ≤ x.toInt ∧ x.toInt < nb))), N) := fun d' x N h => c_isBook d' x N nb (h.trans h7) hn
  have cP : ∀ (d' : Nat) (x : Int32) (N : am_M), N 9 7 = M 9 7 → am_call (d' + 2) i11_isPlace [.ref 0, .int x] N = some (some (.int (bi (0 ≤ x.toInt ∧ x.toInt < nb))), N) := fun d' x N h => c_isPlace d' x N nb (h.trans h7) hn
  have cPB : ∀ (d' : Nat) (x y : Int32) (N : am_M), N 9 7 = M 9 7 → am_call (d' + 3) i11_isPageOfBook [.ref 0, .int x, .int y] N = some (some (.int (bi ((0 ≤ x.toInt ∧ x.toInt < nb) ∧ 0 ≤ y.toInt ∧ y.toInt < 6))), N) := fun d' x y N h => c_isPageOfBook d' x y N nb (h.trans h7) hn
  have mB : ∀ (d' : Nat) (x : Int32) (N : am_M), N 69 = M 69 → am_call (d' + 2) i12_isBook [.ref 68, .int x] N = some (some (.int (bi (0 ≤ x.toInt ∧ x.toInt < nb))), N) := fun d' x N h => m_isBook d' x N nb (by rw [h]; exact hW.1) hn
  have hI0 := hI
  obtain ⟨i1, i2, i3, i4, i5, i6⟩ := hI
  obtain ⟨M1, a1, a2, a3⟩ := c_copyFrom (d + 58) 16 9 nb ng (by omega) (M 69) hW M hR
  have hD1 : RD M1 30 (M 69) := RD_S hD (fun j hj => rfl) (fun a ha => a3 a (by revert a; decide))
  obtain ⟨M2, b1, b2, b3⟩ := c_deskCopy (d + 57) 41 30 (by omega) (M 69) M1 hD1
  have hC : Ch [16, 17, 18, 19, 20, 21, 41, 42, 43, 44, 45, 48, 49] M M2 := Ch_tr (Ch_mo a3 (by decide)) (Ch_mo b3 (by decide))
  have hR2 : RS M2 16 (M 69) nb := RS_ch a2 (by refine ⟨?_, ?_, ?_, ?_, ?_, ?_⟩ <;> exact b3 _ (by decide))
  obtain ⟨M3, e1, e2, e3⟩ := m_image_l (am_call (d + 59)) 237 0 (am_up M2 0 4 (M2 0 4 + nI 1)) rfl (fun j hj => by omega)
  have f0 : M2 0 4 = M 68 4 := by rw [hC 0 (by decide)]; exact i2
  have f68 : am_up M2 0 4 (M2 0 4 + nI 1) 68 4 = M 68 4 := by rw [au_b (by decide), hC 68 (by decide)]
  have f69 : am_up M2 0 4 (M2 0 4 + nI 1) 69 = M 69 := by rw [au_b (by decide), hC 69 (by decide)]
  rw [f68] at e1
  rw [f69] at e2
  have g : ∀ a, a ≠ 68 → a ≠ 70 → am_up M3 68 4 (M 68 4 + nI 1) a = am_up M2 0 4 (M2 0 4 + nI 1) a := fun a h1 h2 => (au_b h1).trans (e3.1 a (by simp [h2]) h1)
  have g1 : ∀ a, a ≠ 68 → a ≠ 70 → a ≠ 0 → am_up M3 68 4 (M 68 4 + nI 1) a = M2 a := fun a h1 h2 h3 => (g a h1 h2).trans (au_b h3)
  have g2 : ∀ a, a ≠ 68 → a ≠ 70 → a ≠ 0 → a ∉ [16, 17, 18, 19, 20, 21, 41, 42, 43, 44, 45, 48, 49] → am_up M3 68 4 (M 68 4 + nI 1) a = M a := fun a h1 h2 h3 h4 => (g1 a h1 h2 h3).trans (hC a h4)
  have g68 : ∀ j, j ≠ 4 → (j < 5 ∨ 13 < j) → am_up M3 68 4 (M 68 4 + nI 1) 68 j = M 68 j := fun j h1 h2 => by
    rw [au_j h1, e3.2 j h2, au_b (by decide), hC 68 (by decide)]
  have g70 : ∀ j, j < 237 → am_up M3 68 4 (M 68 4 + nI 1) 70 j = M 69 j := fun j hj => by rw [au_b (by decide)]; exact e2 j hj
  refine ⟨M 68 4 + nI 1, am_up M2 0 4 (M2 0 4 + nI 1), am_up M3 68 4 (M 68 4 + nI 1), ?_, ?_, ?_, ?_, ?_, ?_, ?_, fun h hh => ?_⟩
  · rw [ec11_image, a1]
    simp only [Option.bind_some, Option.toList_some, Option.toList_none, List.cons_append, List.nil_append, bi_eq0, bi_eq1, bi_nem, if_true, if_false, ite_not, Classical.not_not, sg11_image_11]
    rw [b1]
    simp only [Option.bind_some, Option.toList_some, Option.toList_none, List.cons_append, List.nil_append, bi_eq0, bi_eq1, bi_nem, if_true, if_false, ite_not, Classical.not_not, sg11_image_22]
    rw [au_s, f0]
  · rw [ec12_image]
    exact e1
  · rw [g2 69 (by decide) (by decide) (by decide) (by decide)]
    exact RA_ch i1 (fun a ha => g2 a (by revert a; decide) (by revert a; decide) (by revert a; decide) (by revert a; decide))
  · rw [g 0 (by decide) (by decide), au_s, au_s, f0]
  · refine Or.inr ⟨nb, ng, WS_lo hW (fun j hj => g70 j (by omega)), hg, RS_lo hR2 hn (fun j hj => g70 j (by omega)) (fun a ha => g1 a (by revert a; decide) (by revert a; decide) (by revert a; decide)), RD_237 b2 (fun j _ hj => g70 j hj) (fun a ha => g1 a (by revert a; decide) (by revert a; decide) (by revert a; decide))⟩
  · rw [g2 67 (by decide) (by decide) (by decide) (by decide), g2 72 (by decide) (by decide) (by decide) (by decide)]
    exact i4
  · unfold SP
    rw [g2 58 (by decide) (by decide) (by decide) (by decide), g2 59 (by decide) (by decide) (by decide) (by decide), g2 77 (by decide) (by decide) (by decide) (by decide), g68 19 (by decide) (by omega)]
    exact i5
  · have hm : ∀ h, h < 4 → 63 + h ≠ 68 ∧ 63 + h ≠ 70 ∧ 63 + h ≠ 0 ∧ 63 + h ∉ [16, 17, 18, 19, 20, 21, 41, 42, 43, 44, 45, 48, 49] := by decide
    rw [g2 60 (by decide) (by decide) (by decide) (by decide), g2 61 (by decide) (by decide) (by decide) (by decide), g2 (63 + h) (hm h hh).1 (hm h hh).2.1 (hm h hh).2.2.1 (hm h hh).2.2.2, g2 78 (by decide) (by decide) (by decide) (by decide), g2 79 (by decide) (by decide) (by decide) (by decide), g2 80 (by decide) (by decide) (by decide) (by decide)]
    exact i6 h hh
theorem po_restore (d : Nat) (M : am_M) (hI : IV M M) : PO d i11_restore i12_restore [] M := by
  obtain ⟨nb, ng, hW, hg, hR, hD⟩ := hI.1
  have hn := hW.2.1
  have h7 : M 9 7 = nI nb := hR.1.trans hW.1
  have h8 : M 9 8 = nI ng := hR.2.1.trans hW.2.2.1
  have cB : ∀ (d' : Nat) (x : Int32) (N : am_M), N 9 7 = M 9 7 → am_call (d' + 2) i11_isBook [.ref 0, .int x] N = some (some (.int (bi (0 ≤ x.toInt ∧ x.toInt < nb))), N) := fun d' x N h => c_isBook d' x N nb (h.trans h7) hn
  have cP : ∀ (d' : Nat) (x : Int32) (N : am_M), N 9 7 = M 9 7 → am_call (d' + 2) i11_isPlace [.ref 0, .int x] N = some (some (.int (bi (0 ≤ x.toInt ∧ x.toInt < nb))), N) := fun d' x N h => c_isPlace d' x N nb (h.trans h7) hn
  have cPB : ∀ (d' : Nat) (x y : Int32) (N : am_M), N 9 7 = M 9 7 → am_call (d' + 3) i11_isPageOfBook [.ref 0, .int x, .int y] N = some (some (.int (bi ((0 ≤ x.toInt ∧ x.toInt < nb) ∧ 0 ≤ y.toInt ∧ y.toInt < 6))), N) := fun d' x y N h => c_isPageOfBook d' x y N nb (h.trans h7) hn
  have mB : ∀ (d' : Nat) (x : Int32) (N : am_M), N 69 = M 69 → am_call (d' + 2) i12_isBook [.ref 68, .int x] N = some (some (.int (bi (0 ≤ x.toInt ∧ x.toInt < nb))), N) := fun d' x N h => m_isBook d' x N nb (by rw [h]; exact hW.1) hn
  have i2 := hI.2.1
  rcases Classical.em (M 0 4 = 0) with h0 | h0
  · refine PO_e (k := 2) hI (M1 := M) ?_ Ch_rf ⟨eC M 2, ?_, J6_rf⟩
    · rw [ec11_restore, if_pos h0, ce _ 2 _ (by omega)]
      simp only [Option.bind_some, Option.toList_some, Option.toList_none, List.cons_append, List.nil_append, bi_eq0, bi_eq1, bi_nem, if_true, if_false, ite_not, Classical.not_not, sg11_restore_12]
    · rw [ec12_restore, eC_b (by decide), ← i2, if_pos h0, me2]
      simp only [Option.bind_some, Option.toList_some, Option.toList_none, List.cons_append, List.nil_append, bi_eq0, bi_eq1, bi_nem, if_true, if_false, ite_not, Classical.not_not, sg12_restore_13]
  · obtain ⟨nc, nh, hW2, hg2, hR2, hD2⟩ := hI.2.2.1.resolve_left h0
    obtain ⟨M1, a1, a2, a3⟩ := c_copyFrom (d + 58) 9 16 nc nh (by omega) (M 70) hW2 M hR2
    have hD1 : RD M1 41 (M 70) := RD_S hD2 (fun j hj => rfl) (fun a ha => a3 a (by revert a; decide))
    obtain ⟨M2, b1, b2, b3⟩ := c_deskCopy (d + 57) 30 41 (by omega) (M 70) M1 hD1
    have hC : Ch [9, 10, 11, 12, 13, 14, 30, 31, 32, 33, 34, 37, 38] M M2 := Ch_tr (Ch_mo a3 (by decide)) (Ch_mo b3 (by decide))
    have hR3 : RS M2 9 (M 70) nc := RS_ch a2 (by refine ⟨?_, ?_, ?_, ?_, ?_, ?_⟩ <;> exact b3 _ (by decide))
    obtain ⟨M3, e1, e2, e3⟩ := m_restore_l (am_call (d + 59)) 237 0 M2 rfl (fun j hj => by omega)
    have f70 : M2 70 = M 70 := hC 70 (by decide)
    rw [f70] at e1 e2
    have hJ : J6 [9, 10, 11, 12, 13, 14, 30, 31, 32, 33, 34, 37, 38, 69] M M3 := J6_tr (Ch_J6 (Ch_mo hC (by decide)) (by decide)) (J6_mo e3 (by decide))
    refine ⟨M 70 0, M2, M3, ?_, ?_, IV_S hI hJ (by decide) ⟨nc, nh, WS_lo hW2 (fun j hj => e2 j (by omega)), hg2, RS_lo hR3 hW2.2.1 (fun j hj => e2 j (by omega)) (fun a ha => J6_c e3 (by revert a; decide) (by revert a; decide)), RD_237 b2 (fun j _ hj => e2 j hj) (fun a ha => J6_c e3 (by revert a; decide) (by revert a; decide))⟩⟩
    · rw [ec11_restore, if_neg h0, a1]
      simp only [Option.bind_some, Option.toList_some, Option.toList_none, List.cons_append, List.nil_append, bi_eq0, bi_eq1, bi_nem, if_true, if_false, ite_not, Classical.not_not, sg11_restore_24]
      rw [b1]
      simp only [Option.bind_some, Option.toList_some, Option.toList_none, List.cons_append, List.nil_append, bi_eq0, bi_eq1, bi_nem, if_true, if_false, ite_not, Classical.not_not, sg11_restore_35]
      rw [show M2 9 8 = M 70 0 from hR3.2.1]
    · rw [ec12_restore, hC 68 (by decide), ← i2, if_neg h0]
      exact e1
