/-! the public calls: sheet, put, move, reads, judge -/
def HL : List Nat := [60, 61, 63, 64, 65, 66, 78, 79, 80, 81]
theorem IV_H {L : List Nat} {M M2 : am_M} (hI : IV M M) (hJ : J6 L M M2) (hL : ∀ a ∈ L, a ∈ HL) (hS : SH M2 M2) : IV M2 M2 := by
  obtain ⟨h1, h2, h3, h4, h5, h6⟩ := hI
  have f : ∀ a, a ∉ HL → a ≠ 68 → M2 a = M a := fun a ha hb => hJ.1 a (fun q => ha (hL a q)) hb
  refine ⟨?_, ?_, ?_, ?_, ?_, hS⟩
  · rw [f 69 (by decide) (by decide)]
    exact RA_ch h1 (fun a ha => f a (by revert a; decide) (by revert a; decide))
  · rw [f 0 (by decide) (by decide), hJ.2 4 (by omega)]; exact h2
  · rw [f 0 (by decide) (by decide), f 70 (by decide) (by decide)]
    exact h3.imp id (fun z => RA_ch z (fun a ha => f a (by revert a; decide) (by revert a; decide)))
  · rw [f 67 (by decide) (by decide), f 72 (by decide) (by decide)]; exact h4
  · unfold SP
    rw [f 58 (by decide) (by decide), f 59 (by decide) (by decide), f 77 (by decide) (by decide), hJ.2 19 (by omega)]; exact h5
theorem memHL {h : Nat} (hh : h < 4) : 63 + h ∈ HL ∧ 63 + h ≠ 68 ∧ 63 + h ≠ 60 ∧ 63 + h ≠ 61 ∧ 63 + h ≠ 80 := by
  have : ∀ h, h < 4 → 63 + h ∈ HL ∧ 63 + h ≠ 68 ∧ 63 + h ≠ 60 ∧ 63 + h ≠ 61 ∧ 63 + h ≠ 80 := by decide
  exact this h hh
theorem sgu_sheet (C : am_H) (h : Nat) (hh : h < 4) (x2 x3 x4 x5 : Int32) (M : am_M) : am_lim C (am_R i11_sheet) (am_tx i11_sheet) 94 [.ref 0, .int (nI h), .int x2, .int x3, .int x4, .int x5] [] M = if x5 < x4 then (if x5 < 0 ∨ 40 ≤ x5.toNatClampNeg then none else am_lim C (am_R i11_sheet) (am_tx i11_sheet) 94 [.ref 0, .int (nI h), .int x2, .int x3, .int x4, .int (x5 + (nI 1))] [] (am_up M (63 + h) x5.toNatClampNeg (nI 0))) else some (some (.int (nI 1)), M) := by
  have h4 : h = 0 ∨ h = 1 ∨ h = 2 ∨ h = 3 := by omega
  rcases h4 with rfl | rfl | rfl | rfl
  · exact sg11_sheet_h0_94 C x2 x3 x4 x5 M
  · exact sg11_sheet_h1_94 C x2 x3 x4 x5 M
  · exact sg11_sheet_h2_94 C x2 x3 x4 x5 M
  · exact sg11_sheet_h3_94 C x2 x3 x4 x5 M
theorem c_sheet_l (C : am_H) (h : Nat) (hh : h < 4) (x2 x3 : Int32) (ln : Nat) (hl : ln ≤ 40) (f : Nat → Int32) (M : am_M) : ∀ (k i : Nat), i + k = ln → am_lim C (am_R i11_sheet) (am_tx i11_sheet) 94 [.ref 0, .int (nI h), .int x2, .int x3, .int (nI ln), .int (nI i)] [] (am_setc M (63 + h) (zr f 0 i)) = some (some (.int (nI 1)), am_setc M (63 + h) (zr f 0 ln))
  | 0, i, hk => by
    have : i = ln := by omega
    subst this
    rw [sgu_sheet C h hh]
    simp (disch := omega) only [false_or, nle9, nI_dec9, nI_add, pk_mul, pk_sub, nI_clamp, nI_in9, nI_pos9, nI_lt9, nI_le9, nI_eq9, nI_eq09, nI_le09, am_k_m1, if_true, if_false, ite_not, Classical.not_not]
    rw [if_neg (by omega)]
  | k + 1, i, hk => by
    rw [sgu_sheet C h hh]
    simp (disch := omega) only [false_or, nle9, nI_dec9, nI_add, pk_mul, pk_sub, nI_clamp, nI_in9, nI_pos9, nI_lt9, nI_le9, nI_eq9, nI_eq09, nI_le09, am_k_m1, if_true, if_false, ite_not, Classical.not_not]
    have e : upd (zr f 0 i) i (nI 0) = zr f 0 (i + 1) := by
      have := zr_up f 0 i
      rwa [Nat.zero_add] at this
    rw [if_pos (by omega), up_sc, e]
    exact c_sheet_l C h hh x2 x3 ln hl f M k (i + 1) (by omega)
theorem m_sheet_l (C : am_H) (h : Nat) (hh : h < 4) (x2 x3 : Int32) (f : Nat → Int32) (M : am_M) : ∀ (k i : Nat), i + k = 40 → am_lim C (am_R i12_sheet) (am_tx i12_sheet) 93 [.ref 68, .int (nI h), .int x2, .int x3, .int (nI i)] [] (am_setc M 80 (zr f (40 * h) i)) = some (some (.int (nI 1)), am_setc M 80 (zr f (40 * h) 40))
  | 0, i, hk => by
    have : i = 40 := by omega
    subst this
    rw [sg12_sheet_93, if_neg (by decide +kernel)]
  | k + 1, i, hk => by
    rw [sg12_sheet_93]
    simp (disch := omega) only [false_or, nle9, nI_dec9, nI_add, pk_mul, pk_sub, nI_clamp, nI_in9, nI_pos9, nI_lt9, nI_le9, nI_eq9, nI_eq09, nI_le09, am_k_m1, if_true, if_false, ite_not, Classical.not_not]
    rw [if_pos (by omega), up_sc, zr_up]
    exact m_sheet_l C h hh x2 x3 f M k (i + 1) (by omega)
def okB (b : Int32) : Prop := b = 0 ∨ b = nI 8 ∨ b = nI 16 ∨ b = nI 32
theorem if_okB {α : Type} {b : Int32} (h : okB b) (x y : α) : (if b = 0 then x else if b = nI 8 then x else if b = nI 16 then x else if b = nI 32 then x else y) = x := by
  rcases h with h | h | h | h
  · rw [if_pos h]
  · by_cases c1 : b = 0
    · rw [if_pos c1]
    · rw [if_neg c1, if_pos h]
  · by_cases c1 : b = 0
    · rw [if_pos c1]
    · by_cases c2 : b = nI 8
      · rw [if_neg c1, if_pos c2]
      · rw [if_neg c1, if_neg c2, if_pos h]
  · by_cases c1 : b = 0
    · rw [if_pos c1]
    · by_cases c2 : b = nI 8
      · rw [if_neg c1, if_pos c2]
      · by_cases c3 : b = nI 16
        · rw [if_neg c1, if_neg c2, if_pos c3]
        · rw [if_neg c1, if_neg c2, if_neg c3, if_pos h]
theorem if_noB {α : Type} {b : Int32} (h : ¬ okB b) (x y : α) : (if b = 0 then x else if b = nI 8 then x else if b = nI 16 then x else if b = nI 32 then x else y) = y := by
  rw [if_neg (fun q => h (Or.inl q)), if_neg (fun q => h (Or.inr (Or.inl q))), if_neg (fun q => h (Or.inr (Or.inr (Or.inl q)))), if_neg (fun q => h (Or.inr (Or.inr (Or.inr q))))]
theorem SH_new {M M2 : am_M} {h ln : Nat} {b : Int32} (hS : SH M M) (hh : h < 4) (hl : ln ≤ 40) (h60 : M2 60 = upd (M 60) h b) (h61 : M2 61 = upd (M 61) h (nI ln)) (h63 : M2 (63 + h) = zr (M (63 + h)) 0 ln) (ho : ∀ g, g < 4 → g ≠ h → M2 (63 + g) = M (63 + g)) (h78 : M2 78 = upd (M 78) h b) (h79 : M2 79 = upd (M 79) h (nI ln)) (h80 : M2 80 = zr (M 80) (40 * h) 40) : SH M2 M2 := by
  intro g hg
  rw [h60, h61, h78, h79, h80]
  by_cases e : g = h
  · subst e
    rw [upd_eq, upd_eq, upd_eq, upd_eq]
    refine ⟨rfl, rfl, ln, hl, rfl, fun i hi => ?_⟩
    rw [h63, zr_in (by omega), zr_in (by omega)]
    exact Or.inl rfl
  · rw [upd_ne e, upd_ne e, upd_ne e, upd_ne e, ho g hg e]
    obtain ⟨a1, a2, n, a3, a4, a5⟩ := hS g hg
    refine ⟨a1, a2, n, a3, a4, fun i hi => ?_⟩
    rw [zr_out (by omega)]
    exact a5 i hi
theorem sheet_good (d h : Nat) (hh : h < 4) (b x3 : Int32) (ln : Nat) (hl : ln ≤ 40) (M : am_M) (hI : IV M M) : ∃ M1 M2, am_lim (am_call d) (am_R i11_sheet) (am_tx i11_sheet) 74 [.ref 0, .int (nI h), .int b, .int x3, .null, .null] [.int (nI ln)] M = some (some (.int (nI 1)), M1) ∧ am_lim (am_call d) (am_R i12_sheet) (am_tx i12_sheet) 89 [.ref 68, .int (nI h), .int b, .int x3, .null] [.int (nI ln), .int (nI h), .ref 79] (am_up M1 78 h b) = some (some (.int (nI 1)), M2) ∧ IV M2 M2 := by
  refine ⟨am_setc (am_up (am_up M 60 h b) 61 h (nI ln)) (63 + h) (zr (M (63 + h)) 0 ln), am_setc (am_up (am_up (am_setc (am_up (am_up M 60 h b) 61 h (nI ln)) (63 + h) (zr (M (63 + h)) 0 ln)) 78 h b) 79 h (nI ln)) 80 (zr (M 80) (40 * h) 40), ?_, ?_, ?_⟩
  · rw [sg11_sheet_74]
    simp (disch := omega) only [false_or, nle9, nI_dec9, nI_add, pk_mul, pk_sub, nI_clamp, nI_in9, nI_pos9, nI_lt9, nI_le9, nI_eq9, nI_eq09, nI_le09, am_k_m1, if_true, if_false, ite_not, Classical.not_not]
    have hc := c_sheet_l (am_call d) h hh b x3 ln hl (M (63 + h)) (am_up (am_up M 60 h b) 61 h (nI ln)) ln 0 (by omega)
    have e : am_up (am_up M 60 h b) 61 h (nI ln) (63 + h) = M (63 + h) := by rw [au_b (by omega), au_b (by omega)]
    rw [zr_0, ← e, stc_self, e] at hc
    exact hc
  · rw [sg12_sheet_89]
    simp (disch := omega) only [false_or, nle9, nI_dec9, nI_add, pk_mul, pk_sub, nI_clamp, nI_in9, nI_pos9, nI_lt9, nI_le9, nI_eq9, nI_eq09, nI_le09, am_k_m1, if_true, if_false, ite_not, Classical.not_not]
    generalize hX : am_up (am_up (am_setc (am_up (am_up M 60 h b) 61 h (nI ln)) (63 + h) (zr (M (63 + h)) 0 ln)) 78 h b) 79 h (nI ln) = X
    have e : X 80 = M 80 := by rw [← hX, au_b (by omega), au_b (by omega), stc_ne (by omega), au_b (by omega), au_b (by omega)]
    have hc := m_sheet_l (am_call d) h hh b x3 (X 80) X 40 0 rfl
    rw [zr_0, stc_self, e] at hc
    exact hc
  · have hm := memHL hh
    have hJ : J6 HL M (am_setc (am_up (am_up (am_setc (am_up (am_up M 60 h b) 61 h (nI ln)) (63 + h) (zr (M (63 + h)) 0 ln)) 78 h b) 79 h (nI ln)) 80 (zr (M 80) (40 * h) 40)) := J6_tr (J6_tr (J6_tr (J6_tr (J6_tr (J6_up (by decide) (by decide)) (J6_up (by decide) (by decide))) (J6_sc hm.1 hm.2.1)) (J6_up (by decide) (by decide))) (J6_up (by decide) (by decide))) (J6_sc (by decide) (by decide))
    refine IV_H hI hJ (fun a ha => ha) (SH_new (b := b) (ln := ln) hI.2.2.2.2.2 hh hl ?_ ?_ ?_ (fun g hg hgh => ?_) ?_ ?_ ?_)
    · rw [stc_ne (by omega), au_b (by omega), au_b (by omega), stc_ne (by omega), au_b (by omega), au_a]
    · rw [stc_ne (by omega), au_b (by omega), au_b (by omega), stc_ne (by omega), au_a, au_b (by omega)]
    · rw [stc_ne (by omega), au_b (by omega), au_b (by omega), stc_eq]
    · rw [stc_ne (by omega), au_b (by omega), au_b (by omega), stc_ne (by omega), au_b (by omega), au_b (by omega)]
    · rw [stc_ne (by omega), au_b (by omega), au_a, stc_ne (by omega), au_b (by omega), au_b (by omega)]
    · rw [stc_ne (by omega), au_a, au_b (by omega), stc_ne (by omega), au_b (by omega), au_b (by omega)]
    · rw [stc_eq]
theorem po_sheet (d : Nat) (h b n : Int32) (M : am_M) (hI : IV M M) : PO d i11_sheet i12_sheet [.int h, .int b, .int n] M := by
  obtain ⟨nb, ng, hW, hg, hR, hD⟩ := hI.1
  have hn := hW.2.1
  have h7 : M 9 7 = nI nb := hR.1.trans hW.1
  have h8 : M 9 8 = nI ng := hR.2.1.trans hW.2.2.1
  have cB : ∀ (d' : Nat) (x : Int32) (N : am_M), N 9 7 = M 9 7 → am_call (d' + 2) i11_isBook [.ref 0, .int x] N = some (some (.int (bi (0 ≤ x.toInt ∧ x.toInt < nb))), N) := fun d' x N h => c_isBook d' x N nb (h.trans h7) hn
  have cP : ∀ (d' : Nat) (x : Int32) (N : am_M), N 9 7 = M 9 7 → am_call (d' + 2) i11_isPlace [.ref 0, .int x] N = some (some (.int (bi (0 ≤ x.toInt ∧ x.toInt < nb))), N) := fun d' x N h => c_isPlace d' x N nb (h.trans h7) hn
  have cPB : ∀ (d' : Nat) (x y : Int32) (N : am_M), N 9 7 = M 9 7 → am_call (d' + 3) i11_isPageOfBook [.ref 0, .int x, .int y] N = some (some (.int (bi ((0 ≤ x.toInt ∧ x.toInt < nb) ∧ 0 ≤ y.toInt ∧ y.toInt < 6))), N) := fun d' x y N h => c_isPageOfBook d' x y N nb (h.trans h7) hn
  have mB : ∀ (d' : Nat) (x : Int32) (N : am_M), N 69 = M 69 → am_call (d' + 2) i12_isBook [.ref 68, .int x] N = some (some (.int (bi (0 ≤ x.toInt ∧ x.toInt < nb))), N) := fun d' x N h => m_isBook d' x N nb (by rw [h]; exact hW.1) hn
  by_cases hs : 0 ≤ h.toInt ∧ h.toInt < 4
  · obtain ⟨h', hh', rfl⟩ := i32_of (n := 4) hs.1 hs.2 (by omega)
    rcases Classical.em (okB b) with hb | hb
    · by_cases hb0 : b = 0
      · obtain ⟨M1, M2, a1, a2, a3⟩ := sheet_good (d + 59) h' hh' b n 0 (by omega) M hI
        refine ⟨nI 1, M1, M2, ?_, ?_, a3⟩
        · rw [ec11_sheet, c_isSheet]
          simp only [Option.bind_some, Option.toList_some, Option.toList_none, List.cons_append, List.nil_append, bi_eq0, bi_eq1, bi_nem, if_true, if_false, ite_not, Classical.not_not, sg11_sheet_4]
          rw [if_pos (hs), if_okB hb, sg11_sheet_35, if_pos (hb0), sg11_sheet_49, if_pos (hb0), sg11_sheet_65, if_pos (hb0)]
          exact a1
        · rw [ec12_sheet, m_isSheet]
          simp only [Option.bind_some, Option.toList_some, Option.toList_none, List.cons_append, List.nil_append, bi_eq0, bi_eq1, bi_nem, if_true, if_false, ite_not, Classical.not_not, sg12_sheet_4]
          rw [if_pos (hs), if_okB hb, sg12_sheet_36, if_pos (hb0), sg12_sheet_51, if_pos (hb0), sg12_sheet_68, if_pos (hb0)]
          simp (disch := omega) only [nI_clamp, nI_in9, if_false]
          exact a2
      · by_cases hn0 : n < 0
        · refine PO_e (k := 3) hI (M1 := M) ?_ Ch_rf ⟨eC M 3, ?_, J6_rf⟩
          · rw [ec11_sheet, c_isSheet]
            simp only [Option.bind_some, Option.toList_some, Option.toList_none, List.cons_append, List.nil_append, bi_eq0, bi_eq1, bi_nem, if_true, if_false, ite_not, Classical.not_not, sg11_sheet_4]
            rw [if_pos (hs), if_okB hb, sg11_sheet_35, if_neg (hb0), if_pos (hn0), ce _ 3 _ (by omega)]
            simp only [Option.bind_some, Option.toList_some, Option.toList_none, List.cons_append, List.nil_append, bi_eq0, bi_eq1, bi_nem, if_true, if_false, ite_not, Classical.not_not, sg11_sheet_48]
          · rw [ec12_sheet, m_isSheet]
            simp only [Option.bind_some, Option.toList_some, Option.toList_none, List.cons_append, List.nil_append, bi_eq0, bi_eq1, bi_nem, if_true, if_false, ite_not, Classical.not_not, sg12_sheet_4]
            rw [if_pos (hs), if_okB hb, sg12_sheet_36, if_neg (hb0), if_pos (hn0), me3]
            simp only [Option.bind_some, Option.toList_some, Option.toList_none, List.cons_append, List.nil_append, bi_eq0, bi_eq1, bi_nem, if_true, if_false, ite_not, Classical.not_not, sg12_sheet_50]
        · by_cases hn4 : n ≤ nI 40
          · obtain ⟨n', hn', rfl⟩ := i32_of (x := n) (n := 41) (by rw [i32_lt, i32_0] at hn0; omega) (by rw [i32_le, nI_toInt (by omega)] at hn4; omega) (by omega)
            obtain ⟨M1, M2, a1, a2, a3⟩ := sheet_good (d + 59) h' hh' b (nI n') n' (by omega) M hI
            refine ⟨nI 1, M1, M2, ?_, ?_, a3⟩
            · rw [ec11_sheet, c_isSheet]
              simp only [Option.bind_some, Option.toList_some, Option.toList_none, List.cons_append, List.nil_append, bi_eq0, bi_eq1, bi_nem, if_true, if_false, ite_not, Classical.not_not, sg11_sheet_4]
              rw [if_pos (hs), if_okB hb, sg11_sheet_35, if_neg (hb0), if_neg (hn0), sg11_sheet_49, if_neg (hb0), if_pos (hn4), sg11_sheet_65, if_neg (hb0)]
              exact a1
            · rw [ec12_sheet, m_isSheet]
              simp only [Option.bind_some, Option.toList_some, Option.toList_none, List.cons_append, List.nil_append, bi_eq0, bi_eq1, bi_nem, if_true, if_false, ite_not, Classical.not_not, sg12_sheet_4]
              rw [if_pos (hs), if_okB hb, sg12_sheet_36, if_neg (hb0), if_neg (hn0), sg12_sheet_51, if_neg (hb0), if_pos (hn4), sg12_sheet_68, if_neg (hb0)]
              simp (disch := omega) only [nI_clamp, nI_in9, if_false]
              exact a2
          · refine PO_e (k := 1) hI (M1 := M) ?_ Ch_rf ⟨eC M 1, ?_, J6_rf⟩
            · rw [ec11_sheet, c_isSheet]
              simp only [Option.bind_some, Option.toList_some, Option.toList_none, List.cons_append, List.nil_append, bi_eq0, bi_eq1, bi_nem, if_true, if_false, ite_not, Classical.not_not, sg11_sheet_4]
              rw [if_pos (hs), if_okB hb, sg11_sheet_35, if_neg (hb0), if_neg (hn0), sg11_sheet_49, if_neg (hb0), if_neg (hn4), ce _ 1 _ (by omega)]
              simp only [Option.bind_some, Option.toList_some, Option.toList_none, List.cons_append, List.nil_append, bi_eq0, bi_eq1, bi_nem, if_true, if_false, ite_not, Classical.not_not, sg11_sheet_64]
            · rw [ec12_sheet, m_isSheet]
              simp only [Option.bind_some, Option.toList_some, Option.toList_none, List.cons_append, List.nil_append, bi_eq0, bi_eq1, bi_nem, if_true, if_false, ite_not, Classical.not_not, sg12_sheet_4]
              rw [if_pos (hs), if_okB hb, sg12_sheet_36, if_neg (hb0), if_neg (hn0), sg12_sheet_51, if_neg (hb0), if_neg (hn4), me1]
              simp only [Option.bind_some, Option.toList_some, Option.toList_none, List.cons_append, List.nil_append, bi_eq0, bi_eq1, bi_nem, if_true, if_false, ite_not, Classical.not_not, sg12_sheet_67]
    · refine PO_e (k := 1) hI (M1 := M) ?_ Ch_rf ⟨eC M 1, ?_, J6_rf⟩
      · rw [ec11_sheet, c_isSheet]
        simp only [Option.bind_some, Option.toList_some, Option.toList_none, List.cons_append, List.nil_append, bi_eq0, bi_eq1, bi_nem, if_true, if_false, ite_not, Classical.not_not, sg11_sheet_4]
        rw [if_pos (hs), if_noB hb, sg11_sheet_29, ce _ 1 _ (by omega)]
        simp only [Option.bind_some, Option.toList_some, Option.toList_none, List.cons_append, List.nil_append, bi_eq0, bi_eq1, bi_nem, if_true, if_false, ite_not, Classical.not_not, sg11_sheet_34]
      · rw [ec12_sheet, m_isSheet]
        simp only [Option.bind_some, Option.toList_some, Option.toList_none, List.cons_append, List.nil_append, bi_eq0, bi_eq1, bi_nem, if_true, if_false, ite_not, Classical.not_not, sg12_sheet_4]
        rw [if_pos (hs), if_noB hb, sg12_sheet_29, me1]
        simp only [Option.bind_some, Option.toList_some, Option.toList_none, List.cons_append, List.nil_append, bi_eq0, bi_eq1, bi_nem, if_true, if_false, ite_not, Classical.not_not, sg12_sheet_35]
  · refine PO_e (k := 1) hI (M1 := M) ?_ Ch_rf ⟨eC M 1, ?_, J6_rf⟩
    · rw [ec11_sheet, c_isSheet]
      simp only [Option.bind_some, Option.toList_some, Option.toList_none, List.cons_append, List.nil_append, bi_eq0, bi_eq1, bi_nem, if_true, if_false, ite_not, Classical.not_not, sg11_sheet_4]
      rw [if_neg (hs), sg11_sheet_29, ce _ 1 _ (by omega)]
      simp only [Option.bind_some, Option.toList_some, Option.toList_none, List.cons_append, List.nil_append, bi_eq0, bi_eq1, bi_nem, if_true, if_false, ite_not, Classical.not_not, sg11_sheet_34]
    · rw [ec12_sheet, m_isSheet]
      simp only [Option.bind_some, Option.toList_some, Option.toList_none, List.cons_append, List.nil_append, bi_eq0, bi_eq1, bi_nem, if_true, if_false, ite_not, Classical.not_not, sg12_sheet_4]
      rw [if_neg (hs), sg12_sheet_29, me1]
      simp only [Option.bind_some, Option.toList_some, Option.toList_none, List.cons_append, List.nil_append, bi_eq0, bi_eq1, bi_nem, if_true, if_false, ite_not, Classical.not_not, sg12_sheet_35]
theorem and_toInt (v : Int32) (k : Nat) (hk : k ≤ 16) : (v &&& nI (2 ^ k - 1)).toInt = v.toInt % 2 ^ k := by
  have hk2 : 2 ^ k ≤ 2 ^ 16 := Nat.pow_le_pow_right (by omega) hk
  have hk1 : 0 < 2 ^ k := Nat.pow_pos (by omega)
  have hb : (v &&& nI (2 ^ k - 1)).toBitVec.toNat = v.toBitVec.toNat % 2 ^ k := by
    show (v.toBitVec &&& BitVec.ofNat 32 (2 ^ k - 1)).toNat = _
    rw [BitVec.toNat_and, BitVec.toNat_ofNat, Nat.mod_eq_of_lt (by omega), Nat.and_two_pow_sub_one_eq_mod]
  have hlt : v.toBitVec.toNat % 2 ^ k < 2 ^ k := Nat.mod_lt _ hk1
  have h1 : (v &&& nI (2 ^ k - 1)).toInt = ((v.toBitVec.toNat % 2 ^ k : Nat) : Int) := by
    show (v &&& nI (2 ^ k - 1)).toBitVec.toInt = _
    rw [BitVec.toInt_eq_toNat_cond, hb, if_pos (by omega)]
  have h2 : v.toInt = if 2 * v.toBitVec.toNat < 2 ^ 32 then (v.toBitVec.toNat : Int) else (v.toBitVec.toNat : Int) - (2 ^ 32 : Nat) := BitVec.toInt_eq_toNat_cond v.toBitVec
  rw [h1, h2]
  have hd : ((2 ^ 32 : Nat) : Int) = (2 : Int) ^ k * (2 : Int) ^ (32 - k) := by
    rw [← Int.pow_add, show k + (32 - k) = 32 by omega]
    rfl
  split
  · rw [Int.natCast_emod, Int.natCast_pow]
    rfl
  · rw [hd, Int.sub_mul_emod_self_left, Int.natCast_emod, Int.natCast_pow]
    rfl
theorem sv8 (v : Int32) : SV (v &&& nI 255) v.toInt8.toInt32 := by
  have h1 : (v &&& nI 255).toInt = v.toInt % 256 := and_toInt v 8 (by omega)
  have h2 : v.toInt8.toInt32.toInt = v.toInt.bmod 256 := by rw [Int8.toInt_toInt32, Int32.toInt_toInt8]
  have h3 : v.toInt.bmod 256 = if v.toInt % 256 < 128 then v.toInt % 256 else v.toInt % 256 - 256 := by
    rw [Int.bmod_def]
    rfl
  have h4 : 0 ≤ v.toInt % 256 := Int.emod_nonneg _ (by omega)
  have h5 : v.toInt % 256 < 256 := Int.emod_lt_of_pos _ (by omega)
  rw [h3] at h2
  by_cases c : v.toInt % 256 < 128
  · rw [if_pos c] at h2
    exact Or.inl ((i32_eq _ _).mpr (h1.trans h2.symm))
  · rw [if_neg c] at h2
    exact Or.inr ⟨fun q => by have := q.2; omega, fun q => by have := q.1; omega⟩
theorem sv16 (v : Int32) : SV (v &&& nI 65535) v.toInt16.toInt32 := by
  have h1 : (v &&& nI 65535).toInt = v.toInt % 65536 := and_toInt v 16 (by omega)
  have h2 : v.toInt16.toInt32.toInt = v.toInt.bmod 65536 := by rw [Int16.toInt_toInt32, Int32.toInt_toInt16]
  have h3 : v.toInt.bmod 65536 = if v.toInt % 65536 < 32768 then v.toInt % 65536 else v.toInt % 65536 - 65536 := by
    rw [Int.bmod_def]
    rfl
  have h4 : 0 ≤ v.toInt % 65536 := Int.emod_nonneg _ (by omega)
  have h5 : v.toInt % 65536 < 65536 := Int.emod_lt_of_pos _ (by omega)
  rw [h3] at h2
  by_cases c : v.toInt % 65536 < 32768
  · rw [if_pos c] at h2
    exact Or.inl ((i32_eq _ _).mpr (h1.trans h2.symm))
  · rw [if_neg c] at h2
    exact Or.inr ⟨fun q => by have := q.2; omega, fun q => by have := q.1; omega⟩
def lwC (v b : Int32) : Int32 := if b = nI 8 then v &&& nI 255 else if b = nI 16 then v &&& nI 65535 else v
def lwM (v b : Int32) : Int32 := if b = nI 8 then v.toInt8.toInt32 else if b = nI 16 then v.toInt16.toInt32 else v
theorem lw_SV (v b : Int32) : SV (lwC v b) (lwM v b) := by
  unfold lwC lwM
  by_cases c1 : b = nI 8
  · rw [if_pos c1, if_pos c1]; exact sv8 v
  · rw [if_neg c1, if_neg c1]
    by_cases c2 : b = nI 16
    · rw [if_pos c2, if_pos c2]; exact sv16 v
    · rw [if_neg c2, if_neg c2]; exact Or.inl rfl
theorem c_low (d : Nat) (v b : Int32) (M : am_M) : am_call (d + 1) i11_lowestBits [.int v, .int b] M = some (some (.int (lwC v b)), M) := by
  rw [ec11_lowestBits]
  unfold lwC
  (repeat' split) <;> rfl
theorem getD63 {h : Nat} (hh : h < 4) : ([63, 64, 65, 66] : List Nat).getD h 0 = 63 + h := by
  have : ∀ h, h < 4 → ([63, 64, 65, 66] : List Nat).getD h 0 = 63 + h := by decide
  exact this h hh
theorem sgu_put (C : am_H) (h : Nat) (hh : h < 4) (x2 x3 r s1 : Int32) (M : am_M) : am_lim C (am_R i11_put) (am_tx i11_put) 66 [.ref 0, .int (nI h), .int x2, .int x3] [.int r, .int s1, .ref (63 + h)] M = if s1 < 0 ∨ 40 ≤ s1.toNatClampNeg then none else some (some (.int (nI 1)), am_up M (63 + h) s1.toNatClampNeg r) := by
  have h4 : h = 0 ∨ h = 1 ∨ h = 2 ∨ h = 3 := by omega
  rcases h4 with rfl | rfl | rfl | rfl
  · exact sg11_put_h0_66 C x2 x3 r s1 M
  · exact sg11_put_h1_66 C x2 x3 r s1 M
  · exact sg11_put_h2_66 C x2 x3 r s1 M
  · exact sg11_put_h3_66 C x2 x3 r s1 M
theorem SH_set {M M2 : am_M} {h i : Nat} {x y : Int32} (hS : SH M M) (hh : h < 4) (hi : i < 40) (hv : SV x y) (h60 : M2 60 = M 60) (h61 : M2 61 = M 61) (h63 : M2 (63 + h) = upd (M (63 + h)) i x) (ho : ∀ g, g < 4 → g ≠ h → M2 (63 + g) = M (63 + g)) (h78 : M2 78 = M 78) (h79 : M2 79 = M 79) (h80 : M2 80 = upd (M 80) (40 * h + i) y) : SH M2 M2 := by
  intro g hg
  rw [h60, h61, h78, h79, h80]
  obtain ⟨a1, a2, n, a3, a4, a5⟩ := hS g hg
  refine ⟨a1, a2, n, a3, a4, fun j hj => ?_⟩
  by_cases e : g = h
  · subst e
    rw [h63]
    by_cases c : j = i
    · subst c; rw [upd_eq, upd_eq]; exact hv
    · rw [upd_ne c, upd_ne (by omega)]; exact a5 j hj
  · rw [ho g hg e, upd_ne (by omega)]; exact a5 j hj
theorem m_wrong (d h : Nat) (hh : h < 4) (M : am_M) : am_call (d + 3) i12_wrong [.ref 68, .int (nI h)] M = some (some (.int (if M 78 h = 0 then am_k (-1000000002) else nI 0)), M) := by
  rw [ec12_wrong, m_isSheet, nI_toInt (by omega)]
  simp only [Option.bind_some, Option.toList_some, Option.toList_none, List.cons_append, List.nil_append, bi_eq0, bi_eq1, bi_nem, if_true, if_false, ite_not, Classical.not_not, sg12_wrong_4]
  rw [if_pos (by omega)]
  simp (disch := omega) only [false_or, nle9, nI_dec9, nI_add, pk_mul, pk_sub, nI_clamp, nI_in9, nI_pos9, nI_lt9, nI_le9, nI_eq9, nI_eq09, nI_le09, am_k_m1, if_true, if_false, ite_not, Classical.not_not]
  split <;> rfl
theorem m_wrong_n (d : Nat) (h : Int32) (hh : ¬ (0 ≤ h.toInt ∧ h.toInt < 4)) (M : am_M) : am_call (d + 3) i12_wrong [.ref 68, .int h] M = some (some (.int (am_k (-1000000001))), M) := by
  rw [ec12_wrong, m_isSheet]
  simp only [Option.bind_some, Option.toList_some, Option.toList_none, List.cons_append, List.nil_append, bi_eq0, bi_eq1, bi_nem, if_true, if_false, ite_not, Classical.not_not, sg12_wrong_4]
  rw [if_neg hh]
theorem kE1 : ¬ (am_k (-1000000001) = 0) := by decide +kernel
theorem kE2 : ¬ (am_k (-1000000002) = 0) := by decide +kernel
theorem po_put (d : Nat) (h i v : Int32) (M : am_M) (hI : IV M M) : PO d i11_put i12_put [.int h, .int i, .int v] M := by
  obtain ⟨nb, ng, hW, hg, hR, hD⟩ := hI.1
  have hn := hW.2.1
  have h7 : M 9 7 = nI nb := hR.1.trans hW.1
  have h8 : M 9 8 = nI ng := hR.2.1.trans hW.2.2.1
  have cB : ∀ (d' : Nat) (x : Int32) (N : am_M), N 9 7 = M 9 7 → am_call (d' + 2) i11_isBook [.ref 0, .int x] N = some (some (.int (bi (0 ≤ x.toInt ∧ x.toInt < nb))), N) := fun d' x N h => c_isBook d' x N nb (h.trans h7) hn
  have cP : ∀ (d' : Nat) (x : Int32) (N : am_M), N 9 7 = M 9 7 → am_call (d' + 2) i11_isPlace [.ref 0, .int x] N = some (some (.int (bi (0 ≤ x.toInt ∧ x.toInt < nb))), N) := fun d' x N h => c_isPlace d' x N nb (h.trans h7) hn
  have cPB : ∀ (d' : Nat) (x y : Int32) (N : am_M), N 9 7 = M 9 7 → am_call (d' + 3) i11_isPageOfBook [.ref 0, .int x, .int y] N = some (some (.int (bi ((0 ≤ x.toInt ∧ x.toInt < nb) ∧ 0 ≤ y.toInt ∧ y.toInt < 6))), N) := fun d' x y N h => c_isPageOfBook d' x y N nb (h.trans h7) hn
  have mB : ∀ (d' : Nat) (x : Int32) (N : am_M), N 69 = M 69 → am_call (d' + 2) i12_isBook [.ref 68, .int x] N = some (some (.int (bi (0 ≤ x.toInt ∧ x.toInt < nb))), N) := fun d' x N h => m_isBook d' x N nb (by rw [h]; exact hW.1) hn
  by_cases hs : 0 ≤ h.toInt ∧ h.toInt < 4
  · obtain ⟨h', hh', rfl⟩ := i32_of (n := 4) hs.1 hs.2 (by omega)
    obtain ⟨e1, e2, ln, hl, e3, e4⟩ := hI.2.2.2.2.2 h' hh'
    have cT : ∀ (d' : Nat) (x : Int32) (N : am_M), am_call (d' + 1) i11_isWithin [.int x, .int (nI 0), .int (nI ln - nI 1)] N = some (some (.int (bi (0 ≤ x.toInt ∧ x.toInt < ln))), N) := fun d' x N => (c_isWithin d' x _ _ N).trans (bi_out (by rw [nI_toInt (by omega), pk_sub_toInt (by omega) (by omega)]; omega))
    have mT : ∀ (d' : Nat) (x : Int32) (N : am_M), am_call (d' + 1) i12_in [.long x.toInt64, .long (lN 0), .long (nI ln - nI 1).toInt64] N = some (some (.int (bi (0 ≤ x.toInt ∧ x.toInt < ln))), N) := fun d' x N => (m_in d' _ _ _ N).trans (bi_out (by rw [Int32.toInt_toInt64, Int32.toInt_toInt64, lN_toInt (by omega), pk_sub_toInt (by omega) (by omega)]; omega))
    by_cases hm : M 60 h' = 0
    · refine PO_e (k := 2) hI (M1 := M) ?_ Ch_rf ⟨eC M 2, ?_, J6_rf⟩
      · rw [ec11_put, c_isSheet]
        simp only [Option.bind_some, Option.toList_some, Option.toList_none, List.cons_append, List.nil_append, bi_eq0, bi_eq1, bi_nem, if_true, if_false, ite_not, Classical.not_not, sg11_put_4]
        rw [if_pos (hs), c_isMissing _ h' _ hh']
        simp only [Option.bind_some, Option.toList_some, Option.toList_none, List.cons_append, List.nil_append, bi_eq0, bi_eq1, bi_nem, if_true, if_false, ite_not, Classical.not_not, sg11_put_18]
        rw [if_pos (hm), ce _ 2 _ (by omega)]
        simp only [Option.bind_some, Option.toList_some, Option.toList_none, List.cons_append, List.nil_append, bi_eq0, bi_eq1, bi_nem, if_true, if_false, ite_not, Classical.not_not, sg11_put_26]
      · rw [ec12_put, m_wrong _ h' hh', eC_b (by decide), ← e1, if_pos (hm)]
        simp only [Option.bind_some, Option.toList_some, Option.toList_none, List.cons_append, List.nil_append, bi_eq0, bi_eq1, bi_nem, if_true, if_false, ite_not, Classical.not_not, sg12_put_5]
        rw [if_neg (kE2), if_neg (kE2), me2]
        simp only [Option.bind_some, Option.toList_some, Option.toList_none, List.cons_append, List.nil_append, bi_eq0, bi_eq1, bi_nem, if_true, if_false, ite_not, Classical.not_not, sg12_put_50]
    · by_cases hi : 0 ≤ i.toInt ∧ i.toInt < ln
      · obtain ⟨i', hi', rfl⟩ := i32_of (n := ln) hi.1 hi.2 (by omega)
        have hmm := memHL hh'
        have hJ : J6 HL M (am_up (am_up M (63 + h') i' (lwC v (M 60 h'))) 80 (40 * h' + i') (lwM v (M 60 h'))) := J6_tr (J6_up hmm.1 hmm.2.1) (J6_up (by decide) (by decide))
        refine ⟨nI 1, am_up M (63 + h') i' (lwC v (M 60 h')), am_up (am_up M (63 + h') i' (lwC v (M 60 h'))) 80 (40 * h' + i') (lwM v (M 60 h')), ?_, ?_, IV_H hI hJ (fun a ha => ha) (SH_set hI.2.2.2.2.2 hh' (i := i') (by omega) (lw_SV v (M 60 h')) ?_ ?_ ?_ (fun g hg hgh => ?_) ?_ ?_ ?_)⟩
        · rw [ec11_put, c_isSheet]
          simp only [Option.bind_some, Option.toList_some, Option.toList_none, List.cons_append, List.nil_append, bi_eq0, bi_eq1, bi_nem, if_true, if_false, ite_not, Classical.not_not, sg11_put_4]
          rw [if_pos (hs), c_isMissing _ h' _ hh']
          simp only [Option.bind_some, Option.toList_some, Option.toList_none, List.cons_append, List.nil_append, bi_eq0, bi_eq1, bi_nem, if_true, if_false, ite_not, Classical.not_not, sg11_put_18]
          rw [if_neg (hm)]
          simp (disch := omega) only [false_or, nle9, nI_dec9, nI_add, pk_mul, pk_sub, nI_clamp, nI_in9, nI_pos9, nI_lt9, nI_le9, nI_eq9, nI_eq09, nI_le09, am_k_m1, if_true, if_false, ite_not, Classical.not_not]
          rw [e3, cT]
          simp only [Option.bind_some, Option.toList_some, Option.toList_none, List.cons_append, List.nil_append, bi_eq0, bi_eq1, bi_nem, if_true, if_false, ite_not, Classical.not_not, sg11_put_40]
          rw [if_pos (hi)]
          simp (disch := omega) only [false_or, nle9, nI_dec9, nI_add, pk_mul, pk_sub, nI_clamp, nI_in9, nI_pos9, nI_lt9, nI_le9, nI_eq9, nI_eq09, nI_le09, am_k_m1, if_true, if_false, ite_not, Classical.not_not]
          rw [c_low, getD63 hh']
          simp only [Option.bind_some, Option.toList_some, Option.toList_none, List.cons_append, List.nil_append, bi_eq0, bi_eq1, bi_nem, if_true, if_false, ite_not, Classical.not_not]
          rw [sgu_put _ h' hh']
          simp (disch := omega) only [false_or, nle9, nI_dec9, nI_add, pk_mul, pk_sub, nI_clamp, nI_in9, nI_pos9, nI_lt9, nI_le9, nI_eq9, nI_eq09, nI_le09, am_k_m1, if_true, if_false, ite_not, Classical.not_not]
        · rw [ec12_put, m_wrong _ h' hh', au_b (by omega), ← e1, if_neg (hm)]
          simp only [Option.bind_some, Option.toList_some, Option.toList_none, List.cons_append, List.nil_append, bi_eq0, bi_eq1, bi_nem, if_true, if_false, ite_not, Classical.not_not, sg12_put_5]
          rw [if_pos (nI_0)]
          simp (disch := omega) only [false_or, nle9, nI_dec9, nI_add, pk_mul, pk_sub, nI_clamp, nI_in9, nI_pos9, nI_lt9, nI_le9, nI_eq9, nI_eq09, nI_le09, am_k_m1, if_true, if_false, ite_not, Classical.not_not]
          rw [au_b (by omega), ← e2, e3, mT]
          simp only [Option.bind_some, Option.toList_some, Option.toList_none, List.cons_append, List.nil_append, bi_eq0, bi_eq1, bi_nem, if_true, if_false, ite_not, Classical.not_not, sg12_put_27]
          rw [if_pos (hi), if_pos (nI_0)]
          simp (disch := omega) only [false_or, nle9, nI_dec9, nI_add, pk_mul, pk_sub, nI_clamp, nI_in9, nI_pos9, nI_lt9, nI_le9, nI_eq9, nI_eq09, nI_le09, am_k_m1, if_true, if_false, ite_not, Classical.not_not]
          rw [au_b (by omega), ← e1]
          unfold lwM
          by_cases c1 : M 60 h' = nI 8
          · rw [if_pos c1, if_pos c1]
          · rw [if_neg c1, if_neg c1]
            by_cases c2 : M 60 h' = nI 16
            · rw [if_pos c2, if_pos c2]
            · rw [if_neg c2, if_neg c2]
        · rw [au_b (by omega), au_b (by omega)]
        · rw [au_b (by omega), au_b (by omega)]
        · rw [au_b (by omega), au_a]
        · rw [au_b (by omega), au_b (by omega)]
        · rw [au_b (by omega), au_b (by omega)]
        · rw [au_b (by omega), au_b (by omega)]
        · rw [au_a, au_b (by omega)]
      · refine PO_e (k := 1) hI (M1 := M) ?_ Ch_rf ⟨eC M 1, ?_, J6_rf⟩
        · rw [ec11_put, c_isSheet]
          simp only [Option.bind_some, Option.toList_some, Option.toList_none, List.cons_append, List.nil_append, bi_eq0, bi_eq1, bi_nem, if_true, if_false, ite_not, Classical.not_not, sg11_put_4]
          rw [if_pos (hs), c_isMissing _ h' _ hh']
          simp only [Option.bind_some, Option.toList_some, Option.toList_none, List.cons_append, List.nil_append, bi_eq0, bi_eq1, bi_nem, if_true, if_false, ite_not, Classical.not_not, sg11_put_18]
          rw [if_neg (hm)]
          simp (disch := omega) only [false_or, nle9, nI_dec9, nI_add, pk_mul, pk_sub, nI_clamp, nI_in9, nI_pos9, nI_lt9, nI_le9, nI_eq9, nI_eq09, nI_le09, am_k_m1, if_true, if_false, ite_not, Classical.not_not]
          rw [e3, cT]
          simp only [Option.bind_some, Option.toList_some, Option.toList_none, List.cons_append, List.nil_append, bi_eq0, bi_eq1, bi_nem, if_true, if_false, ite_not, Classical.not_not, sg11_put_40]
          rw [if_neg (hi), ce _ 1 _ (by omega)]
          simp only [Option.bind_some, Option.toList_some, Option.toList_none, List.cons_append, List.nil_append, bi_eq0, bi_eq1, bi_nem, if_true, if_false, ite_not, Classical.not_not, sg11_put_48]
        · rw [ec12_put, m_wrong _ h' hh', eC_b (by decide), ← e1, if_neg (hm)]
          simp only [Option.bind_some, Option.toList_some, Option.toList_none, List.cons_append, List.nil_append, bi_eq0, bi_eq1, bi_nem, if_true, if_false, ite_not, Classical.not_not, sg12_put_5]
          rw [if_pos (nI_0)]
          simp (disch := omega) only [false_or, nle9, nI_dec9, nI_add, pk_mul, pk_sub, nI_clamp, nI_in9, nI_pos9, nI_lt9, nI_le9, nI_eq9, nI_eq09, nI_le09, am_k_m1, if_true, if_false, ite_not, Classical.not_not]
          rw [eC_b (by decide), ← e2, e3, mT]
          simp only [Option.bind_some, Option.toList_some, Option.toList_none, List.cons_append, List.nil_append, bi_eq0, bi_eq1, bi_nem, if_true, if_false, ite_not, Classical.not_not, sg12_put_27]
          rw [if_neg (hi), me1]
          simp only [Option.bind_some, Option.toList_some, Option.toList_none, List.cons_append, List.nil_append, bi_eq0, bi_eq1, bi_nem, if_true, if_false, ite_not, Classical.not_not, sg12_put_50]
  · refine PO_e (k := 1) hI (M1 := M) ?_ Ch_rf ⟨eC M 1, ?_, J6_rf⟩
    · rw [ec11_put, c_isSheet]
      simp only [Option.bind_some, Option.toList_some, Option.toList_none, List.cons_append, List.nil_append, bi_eq0, bi_eq1, bi_nem, if_true, if_false, ite_not, Classical.not_not, sg11_put_4]
      rw [if_neg (hs), ce _ 1 _ (by omega)]
      simp only [Option.bind_some, Option.toList_some, Option.toList_none, List.cons_append, List.nil_append, bi_eq0, bi_eq1, bi_nem, if_true, if_false, ite_not, Classical.not_not, sg11_put_12]
    · rw [ec12_put, m_wrong_n _ _ hs]
      simp only [Option.bind_some, Option.toList_some, Option.toList_none, List.cons_append, List.nil_append, bi_eq0, bi_eq1, bi_nem, if_true, if_false, ite_not, Classical.not_not, sg12_put_5]
      rw [if_neg (kE1), if_neg (kE1), me1]
      simp only [Option.bind_some, Option.toList_some, Option.toList_none, List.cons_append, List.nil_append, bi_eq0, bi_eq1, bi_nem, if_true, if_false, ite_not, Classical.not_not, sg12_put_50]
